theorem dX12_byteAt_0 : decode cX12_byteAt 0 = .ok (.iload_n 1, 1) := by decide +kernel
theorem dX12_byteAt_1 : decode cX12_byteAt 1 = .ok (.aload_n 0, 1) := by decide +kernel
theorem dX12_byteAt_2 : decode cX12_byteAt 2 = .ok (.getfield 225, 3) := by decide +kernel
theorem dX12_byteAt_5 : decode cX12_byteAt 5 = .ok (.if_icmp .ge 12, 3) := by decide +kernel
theorem dX12_byteAt_8 : decode cX12_byteAt 8 = .ok (.aload_n 0, 1) := by decide +kernel
theorem dX12_byteAt_9 : decode cX12_byteAt 9 = .ok (.getfield 30, 3) := by decide +kernel
theorem dX12_byteAt_12 : decode cX12_byteAt 12 = .ok (.iload_n 1, 1) := by decide +kernel
theorem dX12_byteAt_13 : decode cX12_byteAt 13 = .ok (.iaload, 1) := by decide +kernel
theorem dX12_byteAt_14 : decode cX12_byteAt 14 = .ok (.goto 4, 3) := by decide +kernel
theorem dX12_byteAt_17 : decode cX12_byteAt 17 = .ok (.iconst (-1), 1) := by decide +kernel
theorem dX12_byteAt_18 : decode cX12_byteAt 18 = .ok (.ireturn, 1) := by decide +kernel
def k_X12_byteAt_0 (F : FT) (Q : QT) : KT := o_iload 1 (o_aload 0 (o_getI 12 10 (o_icge (F 17) (o_aload 0 (o_getR 12 9 (o_iload 1 (o_iald (F 18))))))))
def k_X12_byteAt_17 (F : FT) (Q : QT) : KT := o_ic (-1) (F 18)
def k_X12_byteAt_18 (F : FT) (Q : QT) : KT := o_iret Q
set_option maxRecDepth 20000 in
theorem r_X12_byteAt {a0 : Nat} {a1 : Int32} {n : Nat} {R : RR} {I : II} {J : JJ} {Q : QT} (hn : n + 0 ≤ 90) (h : ∀ F : FT, al_Wk F → al_Ok F (k_X12_byteAt_0 F Q) 0 → al_Ok F (k_X12_byteAt_17 F Q) 17 → al_Ok F (k_X12_byteAt_18 F Q) 18 → F 0 [some (.ref a0), some (.int a1)] [] n R I J) : CT m_X12_byteAt 0 [.ref a0, .int a1] n R I J Q :=
  CT.of (by decide) hn (fun _ => rfl) (fun _ => Nat.le_of_ble_eq_true rfl) (fun F p l e s m args below meth c Rm t Q0 C hQ hr hm => h F (fun _ _ _ _ _ _ _ _ => S_wk C)
    (S_iload_n C dX12_byteAt_0 rfl (S_aload_n C dX12_byteAt_1 rfl (S_getI (ci := 12) (j := 10) C inG12 rfl (Nat.le_of_ble_eq_true rfl) rfl (al_at 928 (by decide +kernel) rfl) dX12_byteAt_2 (S_icmpge (tgt := 17) C dX12_byteAt_5 (by decide) (S_aload_n C dX12_byteAt_8 rfl (S_getR (ci := 12) (j := 9) C inG12 rfl (Nat.le_of_ble_eq_true rfl) rfl (al_at 927 (by decide +kernel) rfl) dX12_byteAt_9 (S_iload_n C dX12_byteAt_12 rfl (S_iald C dX12_byteAt_13 (S_goto (tgt := 18) C dX12_byteAt_14 (by decide))))))))))
    (S_iconst C dX12_byteAt_17 (by decide +kernel) (fun _ _ _ _ _ _ h9 => h9))
    (S_iret C hQ hr dX12_byteAt_18))
theorem dX12_init_0 : decode cX12_init 0 = .ok (.aload_n 0, 1) := by decide +kernel
theorem dX12_init_1 : decode cX12_init 1 = .ok (.invokespecial 1, 3) := by decide +kernel
theorem dX12_init_4 : decode cX12_init 4 = .ok (.aload_n 0, 1) := by decide +kernel
theorem dX12_init_5 : decode cX12_init 5 = .ok (.sipush 143, 3) := by decide +kernel
theorem dX12_init_8 : decode cX12_init 8 = .ok (.newarray .int, 2) := by decide +kernel
theorem dX12_init_10 : decode cX12_init 10 = .ok (.putfield 9, 3) := by decide +kernel
theorem dX12_init_13 : decode cX12_init 13 = .ok (.aload_n 0, 1) := by decide +kernel
theorem dX12_init_14 : decode cX12_init 14 = .ok (.sipush 143, 3) := by decide +kernel
theorem dX12_init_17 : decode cX12_init 17 = .ok (.newarray .int, 2) := by decide +kernel
theorem dX12_init_19 : decode cX12_init 19 = .ok (.putfield 13, 3) := by decide +kernel
theorem dX12_init_22 : decode cX12_init 22 = .ok (.aload_n 0, 1) := by decide +kernel
theorem dX12_init_23 : decode cX12_init 23 = .ok (.bipush 8, 2) := by decide +kernel
theorem dX12_init_25 : decode cX12_init 25 = .ok (.newarray .int, 2) := by decide +kernel
theorem dX12_init_27 : decode cX12_init 27 = .ok (.putfield 16, 3) := by decide +kernel
theorem dX12_init_30 : decode cX12_init 30 = .ok (.aload_n 0, 1) := by decide +kernel
theorem dX12_init_31 : decode cX12_init 31 = .ok (.bipush 81, 2) := by decide +kernel
theorem dX12_init_33 : decode cX12_init 33 = .ok (.newarray .long, 2) := by decide +kernel
theorem dX12_init_35 : decode cX12_init 35 = .ok (.putfield 19, 3) := by decide +kernel
theorem dX12_init_38 : decode cX12_init 38 = .ok (.aload_n 0, 1) := by decide +kernel
theorem dX12_init_39 : decode cX12_init 39 = .ok (.bipush 64, 2) := by decide +kernel
theorem dX12_init_41 : decode cX12_init 41 = .ok (.newarray .int, 2) := by decide +kernel
theorem dX12_init_43 : decode cX12_init 43 = .ok (.putfield 23, 3) := by decide +kernel
theorem dX12_init_46 : decode cX12_init 46 = .ok (.aload_n 0, 1) := by decide +kernel
theorem dX12_init_47 : decode cX12_init 47 = .ok (.bipush 81, 2) := by decide +kernel
theorem dX12_init_49 : decode cX12_init 49 = .ok (.newarray .boolean, 2) := by decide +kernel
theorem dX12_init_51 : decode cX12_init 51 = .ok (.putfield 26, 3) := by decide +kernel
theorem dX12_init_54 : decode cX12_init 54 = .ok (.aload_n 0, 1) := by decide +kernel
theorem dX12_init_55 : decode cX12_init 55 = .ok (.bipush 120, 2) := by decide +kernel
theorem dX12_init_57 : decode cX12_init 57 = .ok (.newarray .int, 2) := by decide +kernel
theorem dX12_init_59 : decode cX12_init 59 = .ok (.putfield 30, 3) := by decide +kernel
theorem dX12_init_62 : decode cX12_init 62 = .ok (.aload_n 0, 1) := by decide +kernel
theorem dX12_init_63 : decode cX12_init 63 = .ok (.iconst 4, 1) := by decide +kernel
theorem dX12_init_64 : decode cX12_init 64 = .ok (.anewarray 33, 3) := by decide +kernel
theorem dX12_init_67 : decode cX12_init 67 = .ok (.dup, 1) := by decide +kernel
theorem dX12_init_68 : decode cX12_init 68 = .ok (.iconst 0, 1) := by decide +kernel
theorem dX12_init_69 : decode cX12_init 69 = .ok (.ldc 35, 2) := by decide +kernel
theorem dX12_init_71 : decode cX12_init 71 = .ok (.aastore, 1) := by decide +kernel
theorem dX12_init_72 : decode cX12_init 72 = .ok (.dup, 1) := by decide +kernel
theorem dX12_init_73 : decode cX12_init 73 = .ok (.iconst 1, 1) := by decide +kernel
theorem dX12_init_74 : decode cX12_init 74 = .ok (.ldc 37, 2) := by decide +kernel
theorem dX12_init_76 : decode cX12_init 76 = .ok (.aastore, 1) := by decide +kernel
theorem dX12_init_77 : decode cX12_init 77 = .ok (.dup, 1) := by decide +kernel
theorem dX12_init_78 : decode cX12_init 78 = .ok (.iconst 2, 1) := by decide +kernel
theorem dX12_init_79 : decode cX12_init 79 = .ok (.ldc 39, 2) := by decide +kernel
theorem dX12_init_81 : decode cX12_init 81 = .ok (.aastore, 1) := by decide +kernel
theorem dX12_init_82 : decode cX12_init 82 = .ok (.dup, 1) := by decide +kernel
theorem dX12_init_83 : decode cX12_init 83 = .ok (.iconst 3, 1) := by decide +kernel
theorem dX12_init_84 : decode cX12_init 84 = .ok (.ldc 41, 2) := by decide +kernel
theorem dX12_init_86 : decode cX12_init 86 = .ok (.aastore, 1) := by decide +kernel
theorem dX12_init_87 : decode cX12_init 87 = .ok (.putfield 43, 3) := by decide +kernel
theorem dX12_init_90 : decode cX12_init 90 = .ok (.aload_n 0, 1) := by decide +kernel
theorem dX12_init_91 : decode cX12_init 91 = .ok (.bipush 6, 2) := by decide +kernel
theorem dX12_init_93 : decode cX12_init 93 = .ok (.anewarray 33, 3) := by decide +kernel
theorem dX12_init_96 : decode cX12_init 96 = .ok (.dup, 1) := by decide +kernel
theorem dX12_init_97 : decode cX12_init 97 = .ok (.iconst 0, 1) := by decide +kernel
theorem dX12_init_98 : decode cX12_init 98 = .ok (.ldc 47, 2) := by decide +kernel
theorem dX12_init_100 : decode cX12_init 100 = .ok (.aastore, 1) := by decide +kernel
theorem dX12_init_101 : decode cX12_init 101 = .ok (.dup, 1) := by decide +kernel
theorem dX12_init_102 : decode cX12_init 102 = .ok (.iconst 1, 1) := by decide +kernel
theorem dX12_init_103 : decode cX12_init 103 = .ok (.ldc 49, 2) := by decide +kernel
theorem dX12_init_105 : decode cX12_init 105 = .ok (.aastore, 1) := by decide +kernel
theorem dX12_init_106 : decode cX12_init 106 = .ok (.dup, 1) := by decide +kernel
theorem dX12_init_107 : decode cX12_init 107 = .ok (.iconst 2, 1) := by decide +kernel
theorem dX12_init_108 : decode cX12_init 108 = .ok (.ldc 51, 2) := by decide +kernel
theorem dX12_init_110 : decode cX12_init 110 = .ok (.aastore, 1) := by decide +kernel
theorem dX12_init_111 : decode cX12_init 111 = .ok (.dup, 1) := by decide +kernel
theorem dX12_init_112 : decode cX12_init 112 = .ok (.iconst 3, 1) := by decide +kernel
theorem dX12_init_113 : decode cX12_init 113 = .ok (.ldc 53, 2) := by decide +kernel
theorem dX12_init_115 : decode cX12_init 115 = .ok (.aastore, 1) := by decide +kernel
theorem dX12_init_116 : decode cX12_init 116 = .ok (.dup, 1) := by decide +kernel
theorem dX12_init_117 : decode cX12_init 117 = .ok (.iconst 4, 1) := by decide +kernel
theorem dX12_init_118 : decode cX12_init 118 = .ok (.ldc 55, 2) := by decide +kernel
theorem dX12_init_120 : decode cX12_init 120 = .ok (.aastore, 1) := by decide +kernel
theorem dX12_init_121 : decode cX12_init 121 = .ok (.dup, 1) := by decide +kernel
theorem dX12_init_122 : decode cX12_init 122 = .ok (.iconst 5, 1) := by decide +kernel
theorem dX12_init_123 : decode cX12_init 123 = .ok (.ldc 57, 2) := by decide +kernel
theorem dX12_init_125 : decode cX12_init 125 = .ok (.aastore, 1) := by decide +kernel
theorem dX12_init_126 : decode cX12_init 126 = .ok (.putfield 59, 3) := by decide +kernel
theorem dX12_init_129 : decode cX12_init 129 = .ok (.aload_n 0, 1) := by decide +kernel
theorem dX12_init_130 : decode cX12_init 130 = .ok (.sipush 360, 3) := by decide +kernel
theorem dX12_init_133 : decode cX12_init 133 = .ok (.newarray .int, 2) := by decide +kernel
theorem dX12_init_135 : decode cX12_init 135 = .ok (.putfield 62, 3) := by decide +kernel
theorem dX12_init_138 : decode cX12_init 138 = .ok (.aload_n 0, 1) := by decide +kernel
theorem dX12_init_139 : decode cX12_init 139 = .ok (.bipush 120, 2) := by decide +kernel
theorem dX12_init_141 : decode cX12_init 141 = .ok (.newarray .long, 2) := by decide +kernel
theorem dX12_init_143 : decode cX12_init 143 = .ok (.putfield 65, 3) := by decide +kernel
theorem dX12_init_146 : decode cX12_init 146 = .ok (.aload_n 0, 1) := by decide +kernel
theorem dX12_init_147 : decode cX12_init 147 = .ok (.iconst 4, 1) := by decide +kernel
theorem dX12_init_148 : decode cX12_init 148 = .ok (.newarray .int, 2) := by decide +kernel
theorem dX12_init_150 : decode cX12_init 150 = .ok (.putfield 68, 3) := by decide +kernel
theorem dX12_init_153 : decode cX12_init 153 = .ok (.aload_n 0, 1) := by decide +kernel
theorem dX12_init_154 : decode cX12_init 154 = .ok (.iconst 4, 1) := by decide +kernel
theorem dX12_init_155 : decode cX12_init 155 = .ok (.newarray .int, 2) := by decide +kernel
theorem dX12_init_157 : decode cX12_init 157 = .ok (.putfield 71, 3) := by decide +kernel
theorem dX12_init_160 : decode cX12_init 160 = .ok (.aload_n 0, 1) := by decide +kernel
theorem dX12_init_161 : decode cX12_init 161 = .ok (.sipush 160, 3) := by decide +kernel
theorem dX12_init_164 : decode cX12_init 164 = .ok (.newarray .long, 2) := by decide +kernel
theorem dX12_init_166 : decode cX12_init 166 = .ok (.putfield 74, 3) := by decide +kernel
theorem dX12_init_169 : decode cX12_init 169 = .ok (.aload_n 0, 1) := by decide +kernel
theorem dX12_init_170 : decode cX12_init 170 = .ok (.bipush 40, 2) := by decide +kernel
theorem dX12_init_172 : decode cX12_init 172 = .ok (.newarray .long, 2) := by decide +kernel
theorem dX12_init_174 : decode cX12_init 174 = .ok (.putfield 77, 3) := by decide +kernel
theorem dX12_init_177 : decode cX12_init 177 = .ok (.return_, 1) := by decide +kernel
def k_X12_init_0 (F : FT) (Q : QT) (ne : Nat) : KT := o_aload 0 (o_oinit (o_aload 0 (o_ic (nI 143) (o_newa ne 0 143 (o_putR 12 0 (o_aload 0 (o_ic (nI 143) (o_newa ne 0 143 (o_putR 12 1 (o_aload 0 (o_ic (nI 8) (o_newa ne 0 8 (o_putR 12 3 (o_aload 0 (o_ic (nI 81) (o_newa ne 1 81 (o_putR 12 4 (o_aload 0 (o_ic (nI 64) (o_newa ne 0 64 (o_putR 12 7 (o_aload 0 (o_ic (nI 81) (o_newa ne 2 81 (o_putR 12 8 (o_aload 0 (o_ic (nI 120) (o_newa ne 0 120 (o_putR 12 9 (o_aload 0 (o_ic (nI 4) (o_newa ne 6 4 (o_dup (o_ic (nI 0) (o_sc 0 (o_sast (o_dup (o_ic (nI 1) (o_sc 1 (o_sast (o_dup (o_ic (nI 2) (o_sc 2 (o_sast (o_dup (o_ic (nI 3) (o_sc 3 (o_sast (o_putR 12 16 (o_aload 0 (o_ic (nI 6) (o_newa ne 6 6 (o_dup (o_ic (nI 0) (o_sc 4 (o_sast (o_dup (o_ic (nI 1) (o_sc 5 (o_sast (o_dup (o_ic (nI 2) (o_sc 6 (o_sast (o_dup (o_ic (nI 3) (o_sc 7 (o_sast (o_dup (o_ic (nI 4) (o_sc 8 (o_sast (o_dup (o_ic (nI 5) (o_sc 9 (o_sast (o_putR 12 17 (o_aload 0 (o_ic (nI 360) (o_newa ne 0 360 (o_putR 12 18 (o_aload 0 (o_ic (nI 120) (o_newa ne 1 120 (o_putR 12 19 (o_aload 0 (o_ic (nI 4) (o_newa ne 0 4 (o_putR 12 22 (o_aload 0 (o_ic (nI 4) (o_newa ne 0 4 (o_putR 12 23 (o_aload 0 (o_ic (nI 160) (o_newa ne 1 160 (o_putR 12 24 (o_aload 0 (o_ic (nI 40) (o_newa ne 1 40 (o_putR 12 25 (o_cret ne Q))))))))))))))))))))))))))))))))))))))))))))))))))))))))))))))))))))))))))))))))))))))))))))))))))))))
set_option maxRecDepth 20000 in
theorem r_X12_init {a0 : Nat} {n : Nat} {R : RR} {I : II} {J : JJ} {Q : QT} (hn : n + 15 ≤ 90) (h : ∀ F : FT, al_Wk F → al_Ok F (k_X12_init_0 F Q (n + 15)) 0 → F 0 [some (.ref a0)] [] n R I J) : CT m_X12_init 15 [.ref a0] n R I J Q :=
  CT.of (by decide) hn (fun _ => rfl) (fun _ => Nat.le_of_ble_eq_true rfl) (fun F p l e s m args below meth c Rm t Q0 C hQ hr hm => h F (fun _ _ _ _ _ _ _ _ => S_wk C)
    (S_aload_n C dX12_init_0 rfl (S_oinit C (al_at 905 (by decide +kernel) rfl) (al_at 87 (by decide +kernel) rfl) (al_at 88 (by decide +kernel) rfl) (Nat.le_of_ble_eq_true rfl) (Nat.le_of_ble_eq_true rfl) dX12_init_1 (S_aload_n C dX12_init_4 rfl (S_sipush C dX12_init_5 (by decide +kernel) (S_newa0 C (al_at 171 (by decide +kernel) rfl) dX12_init_8 (S_putR (ci := 12) (j := 0) C inG12 rfl (Nat.le_of_ble_eq_true rfl) tyX12 tyX12_ok nmX12 rfl rfl (tyX12_ok 0 (Nat.le_of_ble_eq_true rfl)) (Or.inr ⟨_, rfl⟩) hm rfl (al_at 918 (by decide +kernel) rfl) dX12_init_10 (S_aload_n C dX12_init_13 rfl (S_sipush C dX12_init_14 (by decide +kernel) (S_newa0 C (al_at 171 (by decide +kernel) rfl) dX12_init_17 (S_putR (ci := 12) (j := 1) C inG12 rfl (Nat.le_of_ble_eq_true rfl) tyX12 tyX12_ok nmX12 rfl rfl (tyX12_ok 1 (Nat.le_of_ble_eq_true rfl)) (Or.inr ⟨_, rfl⟩) hm rfl (al_at 919 (by decide +kernel) rfl) dX12_init_19 (S_aload_n C dX12_init_22 rfl (S_bipush C dX12_init_23 (by decide +kernel) (S_newa0 C (al_at 171 (by decide +kernel) rfl) dX12_init_25 (S_putR (ci := 12) (j := 3) C inG12 rfl (Nat.le_of_ble_eq_true rfl) tyX12 tyX12_ok nmX12 rfl rfl (tyX12_ok 3 (Nat.le_of_ble_eq_true rfl)) (Or.inr ⟨_, rfl⟩) hm rfl (al_at 921 (by decide +kernel) rfl) dX12_init_27 (S_aload_n C dX12_init_30 rfl (S_bipush C dX12_init_31 (by decide +kernel) (S_newa1 C (al_at 236 (by decide +kernel) rfl) dX12_init_33 (S_putR (ci := 12) (j := 4) C inG12 rfl (Nat.le_of_ble_eq_true rfl) tyX12 tyX12_ok nmX12 rfl rfl (tyX12_ok 4 (Nat.le_of_ble_eq_true rfl)) (Or.inr ⟨_, rfl⟩) hm rfl (al_at 922 (by decide +kernel) rfl) dX12_init_35 (S_aload_n C dX12_init_38 rfl (S_bipush C dX12_init_39 (by decide +kernel) (S_newa0 C (al_at 171 (by decide +kernel) rfl) dX12_init_41 (S_putR (ci := 12) (j := 7) C inG12 rfl (Nat.le_of_ble_eq_true rfl) tyX12 tyX12_ok nmX12 rfl rfl (tyX12_ok 7 (Nat.le_of_ble_eq_true rfl)) (Or.inr ⟨_, rfl⟩) hm rfl (al_at 925 (by decide +kernel) rfl) dX12_init_43 (S_aload_n C dX12_init_46 rfl (S_bipush C dX12_init_47 (by decide +kernel) (S_newa2 C (al_at 997 (by decide +kernel) rfl) dX12_init_49 (S_putR (ci := 12) (j := 8) C inG12 rfl (Nat.le_of_ble_eq_true rfl) tyX12 tyX12_ok nmX12 rfl rfl (tyX12_ok 8 (Nat.le_of_ble_eq_true rfl)) (Or.inr ⟨_, rfl⟩) hm rfl (al_at 926 (by decide +kernel) rfl) dX12_init_51 (S_aload_n C dX12_init_54 rfl (S_bipush C dX12_init_55 (by decide +kernel) (S_newa0 C (al_at 171 (by decide +kernel) rfl) dX12_init_57 (S_putR (ci := 12) (j := 9) C inG12 rfl (Nat.le_of_ble_eq_true rfl) tyX12 tyX12_ok nmX12 rfl rfl (tyX12_ok 9 (Nat.le_of_ble_eq_true rfl)) (Or.inr ⟨_, rfl⟩) hm rfl (al_at 927 (by decide +kernel) rfl) dX12_init_59 (S_aload_n C dX12_init_62 rfl (S_iconst C dX12_init_63 (by decide +kernel) (S_anewa (ak := 6) C (fun _ _ _ _ _ _ => rfl) (fun _ => rfl) (al_at 906 (by decide +kernel) rfl) (by decide) dX12_init_64 (S_dup C dX12_init_67 (S_iconst C dX12_init_68 (by decide +kernel) (S_ldcS (tx := "ground") C (by decide) dX12_init_69 (by decide +kernel) (S_sast C dX12_init_71 (S_dup C dX12_init_72 (S_iconst C dX12_init_73 (by decide +kernel) (S_ldcS (tx := "street") C (by decide) dX12_init_74 (by decide +kernel) (S_sast C dX12_init_76 (S_dup C dX12_init_77 (S_iconst C dX12_init_78 (by decide +kernel) (S_ldcS (tx := "shed") C (by decide) dX12_init_79 (by decide +kernel) (S_sast C dX12_init_81 (S_dup C dX12_init_82 (S_iconst C dX12_init_83 (by decide +kernel) (S_ldcS (tx := "tree") C (by decide) dX12_init_84 (by decide +kernel) (S_sast C dX12_init_86 (S_putR (ci := 12) (j := 16) C inG12 rfl (Nat.le_of_ble_eq_true rfl) tyX12 tyX12_ok nmX12 rfl rfl (tyX12_ok 16 (Nat.le_of_ble_eq_true rfl)) (Or.inr ⟨_, rfl⟩) hm rfl (al_at 934 (by decide +kernel) rfl) dX12_init_87 (S_aload_n C dX12_init_90 rfl (S_bipush C dX12_init_91 (by decide +kernel) (S_anewa (ak := 6) C (fun _ _ _ _ _ _ => rfl) (fun _ => rfl) (al_at 906 (by decide +kernel) rfl) (by decide) dX12_init_93 (S_dup C dX12_init_96 (S_iconst C dX12_init_97 (by decide +kernel) (S_ldcS (tx := "law") C (by decide) dX12_init_98 (by decide +kernel) (S_sast C dX12_init_100 (S_dup C dX12_init_101 (S_iconst C dX12_init_102 (by decide +kernel) (S_ldcS (tx := "outward") C (by decide) dX12_init_103 (by decide +kernel) (S_sast C dX12_init_105 (S_dup C dX12_init_106 (S_iconst C dX12_init_107 (by decide +kernel) (S_ldcS (tx := "shared") C (by decide) dX12_init_108 (by decide +kernel) (S_sast C dX12_init_110 (S_dup C dX12_init_111 (S_iconst C dX12_init_112 (by decide +kernel) (S_ldcS (tx := "dear") C (by decide) dX12_init_113 (by decide +kernel) (S_sast C dX12_init_115 (S_dup C dX12_init_116 (S_iconst C dX12_init_117 (by decide +kernel) (S_ldcS (tx := "old") C (by decide) dX12_init_118 (by decide +kernel) (S_sast C dX12_init_120 (S_dup C dX12_init_121 (S_iconst C dX12_init_122 (by decide +kernel) (S_ldcS (tx := "free") C (by decide) dX12_init_123 (by decide +kernel) (S_sast C dX12_init_125 (S_putR (ci := 12) (j := 17) C inG12 rfl (Nat.le_of_ble_eq_true rfl) tyX12 tyX12_ok nmX12 rfl rfl (tyX12_ok 17 (Nat.le_of_ble_eq_true rfl)) (Or.inr ⟨_, rfl⟩) hm rfl (al_at 935 (by decide +kernel) rfl) dX12_init_126 (S_aload_n C dX12_init_129 rfl (S_sipush C dX12_init_130 (by decide +kernel) (S_newa0 C (al_at 171 (by decide +kernel) rfl) dX12_init_133 (S_putR (ci := 12) (j := 18) C inG12 rfl (Nat.le_of_ble_eq_true rfl) tyX12 tyX12_ok nmX12 rfl rfl (tyX12_ok 18 (Nat.le_of_ble_eq_true rfl)) (Or.inr ⟨_, rfl⟩) hm rfl (al_at 936 (by decide +kernel) rfl) dX12_init_135 (S_aload_n C dX12_init_138 rfl (S_bipush C dX12_init_139 (by decide +kernel) (S_newa1 C (al_at 236 (by decide +kernel) rfl) dX12_init_141 (S_putR (ci := 12) (j := 19) C inG12 rfl (Nat.le_of_ble_eq_true rfl) tyX12 tyX12_ok nmX12 rfl rfl (tyX12_ok 19 (Nat.le_of_ble_eq_true rfl)) (Or.inr ⟨_, rfl⟩) hm rfl (al_at 937 (by decide +kernel) rfl) dX12_init_143 (S_aload_n C dX12_init_146 rfl (S_iconst C dX12_init_147 (by decide +kernel) (S_newa0 C (al_at 171 (by decide +kernel) rfl) dX12_init_148 (S_putR (ci := 12) (j := 22) C inG12 rfl (Nat.le_of_ble_eq_true rfl) tyX12 tyX12_ok nmX12 rfl rfl (tyX12_ok 22 (Nat.le_of_ble_eq_true rfl)) (Or.inr ⟨_, rfl⟩) hm rfl (al_at 940 (by decide +kernel) rfl) dX12_init_150 (S_aload_n C dX12_init_153 rfl (S_iconst C dX12_init_154 (by decide +kernel) (S_newa0 C (al_at 171 (by decide +kernel) rfl) dX12_init_155 (S_putR (ci := 12) (j := 23) C inG12 rfl (Nat.le_of_ble_eq_true rfl) tyX12 tyX12_ok nmX12 rfl rfl (tyX12_ok 23 (Nat.le_of_ble_eq_true rfl)) (Or.inr ⟨_, rfl⟩) hm rfl (al_at 941 (by decide +kernel) rfl) dX12_init_157 (S_aload_n C dX12_init_160 rfl (S_sipush C dX12_init_161 (by decide +kernel) (S_newa1 C (al_at 236 (by decide +kernel) rfl) dX12_init_164 (S_putR (ci := 12) (j := 24) C inG12 rfl (Nat.le_of_ble_eq_true rfl) tyX12 tyX12_ok nmX12 rfl rfl (tyX12_ok 24 (Nat.le_of_ble_eq_true rfl)) (Or.inr ⟨_, rfl⟩) hm rfl (al_at 942 (by decide +kernel) rfl) dX12_init_166 (S_aload_n C dX12_init_169 rfl (S_bipush C dX12_init_170 (by decide +kernel) (S_newa1 C (al_at 236 (by decide +kernel) rfl) dX12_init_172 (S_putR (ci := 12) (j := 25) C inG12 rfl (Nat.le_of_ble_eq_true rfl) tyX12 tyX12_ok nmX12 rfl rfl (tyX12_ok 25 (Nat.le_of_ble_eq_true rfl)) (Or.inr ⟨_, rfl⟩) hm rfl (al_at 943 (by decide +kernel) rfl) dX12_init_174 (S_cret C hQ hr dX12_init_177))))))))))))))))))))))))))))))))))))))))))))))))))))))))))))))))))))))))))))))))))))))))))))))))))))))))
theorem dX12_isSo_0 : decode cX12_isSo 0 = .ok (.aload_n 0, 1) := by decide +kernel
theorem dX12_isSo_1 : decode cX12_isSo 1 = .ok (.getfield 62, 3) := by decide +kernel
theorem dX12_isSo_4 : decode cX12_isSo 4 = .ok (.iconst 3, 1) := by decide +kernel
theorem dX12_isSo_5 : decode cX12_isSo 5 = .ok (.iload_n 1, 1) := by decide +kernel
theorem dX12_isSo_6 : decode cX12_isSo 6 = .ok (.imul, 1) := by decide +kernel
theorem dX12_isSo_7 : decode cX12_isSo 7 = .ok (.iaload, 1) := by decide +kernel
theorem dX12_isSo_8 : decode cX12_isSo 8 = .ok (.istore_n 2, 1) := by decide +kernel
theorem dX12_isSo_9 : decode cX12_isSo 9 = .ok (.aload_n 0, 1) := by decide +kernel
theorem dX12_isSo_10 : decode cX12_isSo 10 = .ok (.getfield 62, 3) := by decide +kernel
theorem dX12_isSo_13 : decode cX12_isSo 13 = .ok (.iconst 3, 1) := by decide +kernel
theorem dX12_isSo_14 : decode cX12_isSo 14 = .ok (.iload_n 1, 1) := by decide +kernel
theorem dX12_isSo_15 : decode cX12_isSo 15 = .ok (.imul, 1) := by decide +kernel
theorem dX12_isSo_16 : decode cX12_isSo 16 = .ok (.iconst 1, 1) := by decide +kernel
theorem dX12_isSo_17 : decode cX12_isSo 17 = .ok (.iadd, 1) := by decide +kernel
theorem dX12_isSo_18 : decode cX12_isSo 18 = .ok (.iaload, 1) := by decide +kernel
theorem dX12_isSo_19 : decode cX12_isSo 19 = .ok (.istore_n 3, 1) := by decide +kernel
theorem dX12_isSo_20 : decode cX12_isSo 20 = .ok (.aload_n 0, 1) := by decide +kernel
theorem dX12_isSo_21 : decode cX12_isSo 21 = .ok (.getfield 62, 3) := by decide +kernel
theorem dX12_isSo_24 : decode cX12_isSo 24 = .ok (.iconst 3, 1) := by decide +kernel
theorem dX12_isSo_25 : decode cX12_isSo 25 = .ok (.iload_n 1, 1) := by decide +kernel
theorem dX12_isSo_26 : decode cX12_isSo 26 = .ok (.imul, 1) := by decide +kernel
theorem dX12_isSo_27 : decode cX12_isSo 27 = .ok (.iconst 2, 1) := by decide +kernel
theorem dX12_isSo_28 : decode cX12_isSo 28 = .ok (.iadd, 1) := by decide +kernel
theorem dX12_isSo_29 : decode cX12_isSo 29 = .ok (.iaload, 1) := by decide +kernel
theorem dX12_isSo_30 : decode cX12_isSo 30 = .ok (.istore 4, 2) := by decide +kernel
theorem dX12_isSo_32 : decode cX12_isSo 32 = .ok (.iconst 0, 1) := by decide +kernel
theorem dX12_isSo_33 : decode cX12_isSo 33 = .ok (.istore 5, 2) := by decide +kernel
theorem dX12_isSo_35 : decode cX12_isSo 35 = .ok (.iload_n 2, 1) := by decide +kernel
theorem dX12_isSo_36 : decode cX12_isSo 36 = .ok (.bipush 11, 2) := by decide +kernel
theorem dX12_isSo_38 : decode cX12_isSo 38 = .ok (.if_icmp .ne 21, 3) := by decide +kernel
theorem dX12_isSo_41 : decode cX12_isSo 41 = .ok (.aload_n 0, 1) := by decide +kernel
theorem dX12_isSo_42 : decode cX12_isSo 42 = .ok (.getfield 9, 3) := by decide +kernel
theorem dX12_isSo_45 : decode cX12_isSo 45 = .ok (.bipush 64, 2) := by decide +kernel
theorem dX12_isSo_47 : decode cX12_isSo 47 = .ok (.iconst 5, 1) := by decide +kernel
theorem dX12_isSo_48 : decode cX12_isSo 48 = .ok (.iload_n 3, 1) := by decide +kernel
theorem dX12_isSo_49 : decode cX12_isSo 49 = .ok (.imul, 1) := by decide +kernel
theorem dX12_isSo_50 : decode cX12_isSo 50 = .ok (.iadd, 1) := by decide +kernel
theorem dX12_isSo_51 : decode cX12_isSo 51 = .ok (.iconst 2, 1) := by decide +kernel
theorem dX12_isSo_52 : decode cX12_isSo 52 = .ok (.iadd, 1) := by decide +kernel
theorem dX12_isSo_53 : decode cX12_isSo 53 = .ok (.iload 4, 2) := by decide +kernel
theorem dX12_isSo_55 : decode cX12_isSo 55 = .ok (.iastore, 1) := by decide +kernel
theorem dX12_isSo_56 : decode cX12_isSo 56 = .ok (.goto 21, 3) := by decide +kernel
theorem dX12_isSo_59 : decode cX12_isSo 59 = .ok (.iload_n 2, 1) := by decide +kernel
theorem dX12_isSo_60 : decode cX12_isSo 60 = .ok (.bipush 10, 2) := by decide +kernel
theorem dX12_isSo_62 : decode cX12_isSo 62 = .ok (.if_icmp .ne 15, 3) := by decide +kernel
theorem dX12_isSo_65 : decode cX12_isSo 65 = .ok (.bipush 10, 2) := by decide +kernel
theorem dX12_isSo_67 : decode cX12_isSo 67 = .ok (.aload_n 0, 1) := by decide +kernel
theorem dX12_isSo_68 : decode cX12_isSo 68 = .ok (.iload_n 3, 1) := by decide +kernel
theorem dX12_isSo_69 : decode cX12_isSo 69 = .ok (.iload 4, 2) := by decide +kernel
theorem dX12_isSo_71 : decode cX12_isSo 71 = .ok (.invokevirtual 139, 3) := by decide +kernel
theorem dX12_isSo_74 : decode cX12_isSo 74 = .ok (.iadd, 1) := by decide +kernel
theorem dX12_isSo_75 : decode cX12_isSo 75 = .ok (.istore 5, 2) := by decide +kernel
theorem dX12_isSo_77 : decode cX12_isSo 77 = .ok (.iconst 0, 1) := by decide +kernel
theorem dX12_isSo_78 : decode cX12_isSo 78 = .ok (.istore 6, 2) := by decide +kernel
theorem dX12_isSo_80 : decode cX12_isSo 80 = .ok (.iload 6, 2) := by decide +kernel
theorem dX12_isSo_82 : decode cX12_isSo 82 = .ok (.bipush 64, 2) := by decide +kernel
theorem dX12_isSo_84 : decode cX12_isSo 84 = .ok (.if_icmp .ge 54, 3) := by decide +kernel
theorem dX12_isSo_87 : decode cX12_isSo 87 = .ok (.aload_n 0, 1) := by decide +kernel
theorem dX12_isSo_88 : decode cX12_isSo 88 = .ok (.getfield 9, 3) := by decide +kernel
theorem dX12_isSo_91 : decode cX12_isSo 91 = .ok (.iload 6, 2) := by decide +kernel
theorem dX12_isSo_93 : decode cX12_isSo 93 = .ok (.aload_n 0, 1) := by decide +kernel
theorem dX12_isSo_94 : decode cX12_isSo 94 = .ok (.getfield 65, 3) := by decide +kernel
theorem dX12_isSo_97 : decode cX12_isSo 97 = .ok (.iload_n 1, 1) := by decide +kernel
theorem dX12_isSo_98 : decode cX12_isSo 98 = .ok (.laload, 1) := by decide +kernel
theorem dX12_isSo_99 : decode cX12_isSo 99 = .ok (.iload 6, 2) := by decide +kernel
theorem dX12_isSo_101 : decode cX12_isSo 101 = .ok (.lshr, 1) := by decide +kernel
theorem dX12_isSo_102 : decode cX12_isSo 102 = .ok (.lconst 1, 1) := by decide +kernel
theorem dX12_isSo_103 : decode cX12_isSo 103 = .ok (.land, 1) := by decide +kernel
theorem dX12_isSo_104 : decode cX12_isSo 104 = .ok (.lconst 0, 1) := by decide +kernel
theorem dX12_isSo_105 : decode cX12_isSo 105 = .ok (.lcmp, 1) := by decide +kernel
theorem dX12_isSo_106 : decode cX12_isSo 106 = .ok (.ifCond .ne 13, 3) := by decide +kernel
theorem dX12_isSo_109 : decode cX12_isSo 109 = .ok (.aload_n 0, 1) := by decide +kernel
theorem dX12_isSo_110 : decode cX12_isSo 110 = .ok (.getfield 9, 3) := by decide +kernel
theorem dX12_isSo_113 : decode cX12_isSo 113 = .ok (.iload 6, 2) := by decide +kernel
theorem dX12_isSo_115 : decode cX12_isSo 115 = .ok (.iaload, 1) := by decide +kernel
theorem dX12_isSo_116 : decode cX12_isSo 116 = .ok (.goto 15, 3) := by decide +kernel
theorem dX12_isSo_119 : decode cX12_isSo 119 = .ok (.iload_n 2, 1) := by decide +kernel
theorem dX12_isSo_120 : decode cX12_isSo 120 = .ok (.bipush 10, 2) := by decide +kernel
theorem dX12_isSo_122 : decode cX12_isSo 122 = .ok (.if_icmp .ne 8, 3) := by decide +kernel
theorem dX12_isSo_125 : decode cX12_isSo 125 = .ok (.iload 5, 2) := by decide +kernel
theorem dX12_isSo_127 : decode cX12_isSo 127 = .ok (.goto 4, 3) := by decide +kernel
theorem dX12_isSo_130 : decode cX12_isSo 130 = .ok (.iload_n 2, 1) := by decide +kernel
theorem dX12_isSo_131 : decode cX12_isSo 131 = .ok (.iastore, 1) := by decide +kernel
theorem dX12_isSo_132 : decode cX12_isSo 132 = .ok (.iinc 6 1, 3) := by decide +kernel
theorem dX12_isSo_135 : decode cX12_isSo 135 = .ok (.goto (-55), 3) := by decide +kernel
theorem dX12_isSo_138 : decode cX12_isSo 138 = .ok (.return_, 1) := by decide +kernel
def k_X12_isSo_0 (F : FT) (Q : QT) : KT := o_aload 0 (o_getR 12 18 (o_ic (nI 3) (o_iload 1 (o_imul (o_iald (o_istore 2 (o_aload 0 (o_getR 12 18 (o_ic (nI 3) (o_iload 1 (o_imul (o_ic (nI 1) (o_iadd (o_iald (o_istore 3 (o_aload 0 (o_getR 12 18 (o_ic (nI 3) (o_iload 1 (o_imul (o_ic (nI 2) (o_iadd (o_iald (o_istore 4 (o_ic (nI 0) (o_istore 5 (o_iload 2 (o_ic (nI 11) (o_icne (F 59) (o_aload 0 (o_getR 12 0 (o_ic (nI 64) (o_ic (nI 5) (o_iload 3 (o_imul (o_iadd (o_ic (nI 2) (o_iadd (o_iload 4 (o_iast (F 77)))))))))))))))))))))))))))))))))))))))))
def k_X12_isSo_59 (F : FT) (Q : QT) : KT := o_iload 2 (o_ic (nI 10) (o_icne (F 77) (o_ic (nI 10) (o_aload 0 (o_iload 3 (o_iload 4 (o_cV 12 m_X12_founded 3 (o_iadd (o_istore 5 (F 77))))))))))
def k_X12_isSo_77 (F : FT) (Q : QT) : KT := o_ic (nI 0) (o_istore 6 (F 80))
def k_X12_isSo_80 (F : FT) (Q : QT) : KT := o_iload 6 (o_ic (nI 64) (o_icge (F 138) (o_aload 0 (o_getR 12 0 (o_iload 6 (o_aload 0 (o_getR 12 19 (o_iload 1 (o_lald (o_iload 6 (o_lshr (o_lc (lN 1) (o_land (o_lc (lN 0) (o_lcmp (o_ifne (F 119) (o_aload 0 (o_getR 12 0 (o_iload 6 (o_iald (F 131)))))))))))))))))))))
def k_X12_isSo_119 (F : FT) (Q : QT) : KT := o_iload 2 (o_ic (nI 10) (o_icne (F 130) (o_iload 5 (F 131))))
def k_X12_isSo_130 (F : FT) (Q : QT) : KT := o_iload 2 (F 131)
def k_X12_isSo_131 (F : FT) (Q : QT) : KT := o_iast (o_iinc 6 (nI 1) (F 80))
def k_X12_isSo_138 (F : FT) (Q : QT) : KT := o_vret Q
set_option maxRecDepth 20000 in
theorem r_X12_isSo {a0 : Nat} {a1 : Int32} {n : Nat} {R : RR} {I : II} {J : JJ} {Q : QT} (hn : n + 0 ≤ 90) (h : ∀ F : FT, al_Wk F → al_Ok F (k_X12_isSo_0 F Q) 0 → al_Ok F (k_X12_isSo_59 F Q) 59 → al_Ok F (k_X12_isSo_77 F Q) 77 → al_Ok F (k_X12_isSo_80 F Q) 80 → al_Ok F (k_X12_isSo_119 F Q) 119 → al_Ok F (k_X12_isSo_130 F Q) 130 → al_Ok F (k_X12_isSo_131 F Q) 131 → al_Ok F (k_X12_isSo_138 F Q) 138 → F 0 [some (.ref a0), some (.int a1), none, none, none, none, none] [] n R I J) : CT m_X12_isSo 0 [.ref a0, .int a1] n R I J Q :=
  CT.of (by decide) hn (fun _ => rfl) (fun _ => Nat.le_of_ble_eq_true rfl) (fun F p l e s m args below meth c Rm t Q0 C hQ hr hm => h F (fun _ _ _ _ _ _ _ _ => S_wk C)
    (S_aload_n C dX12_isSo_0 rfl (S_getR (ci := 12) (j := 18) C inG12 rfl (Nat.le_of_ble_eq_true rfl) rfl (al_at 936 (by decide +kernel) rfl) dX12_isSo_1 (S_iconst C dX12_isSo_4 (by decide +kernel) (S_iload_n C dX12_isSo_5 rfl (S_imul C dX12_isSo_6 (S_iald C dX12_isSo_7 (S_istore_n C dX12_isSo_8 rfl (Nat.le_of_ble_eq_true rfl) (S_aload_n C dX12_isSo_9 rfl (S_getR (ci := 12) (j := 18) C inG12 rfl (Nat.le_of_ble_eq_true rfl) rfl (al_at 936 (by decide +kernel) rfl) dX12_isSo_10 (S_iconst C dX12_isSo_13 (by decide +kernel) (S_iload_n C dX12_isSo_14 rfl (S_imul C dX12_isSo_15 (S_iconst C dX12_isSo_16 (by decide +kernel) (S_iadd C dX12_isSo_17 (S_iald C dX12_isSo_18 (S_istore_n C dX12_isSo_19 rfl (Nat.le_of_ble_eq_true rfl) (S_aload_n C dX12_isSo_20 rfl (S_getR (ci := 12) (j := 18) C inG12 rfl (Nat.le_of_ble_eq_true rfl) rfl (al_at 936 (by decide +kernel) rfl) dX12_isSo_21 (S_iconst C dX12_isSo_24 (by decide +kernel) (S_iload_n C dX12_isSo_25 rfl (S_imul C dX12_isSo_26 (S_iconst C dX12_isSo_27 (by decide +kernel) (S_iadd C dX12_isSo_28 (S_iald C dX12_isSo_29 (S_istore C dX12_isSo_30 (Nat.le_of_ble_eq_true rfl) (S_iconst C dX12_isSo_32 (by decide +kernel) (S_istore C dX12_isSo_33 (Nat.le_of_ble_eq_true rfl) (S_iload_n C dX12_isSo_35 rfl (S_bipush C dX12_isSo_36 (by decide +kernel) (S_icmpne (tgt := 59) C dX12_isSo_38 (by decide) (S_aload_n C dX12_isSo_41 rfl (S_getR (ci := 12) (j := 0) C inG12 rfl (Nat.le_of_ble_eq_true rfl) rfl (al_at 918 (by decide +kernel) rfl) dX12_isSo_42 (S_bipush C dX12_isSo_45 (by decide +kernel) (S_iconst C dX12_isSo_47 (by decide +kernel) (S_iload_n C dX12_isSo_48 rfl (S_imul C dX12_isSo_49 (S_iadd C dX12_isSo_50 (S_iconst C dX12_isSo_51 (by decide +kernel) (S_iadd C dX12_isSo_52 (S_iload C dX12_isSo_53 (S_iast C dX12_isSo_55 (S_goto (tgt := 77) C dX12_isSo_56 (by decide)))))))))))))))))))))))))))))))))))))))))))
    (S_iload_n C dX12_isSo_59 rfl (S_bipush C dX12_isSo_60 (by decide +kernel) (S_icmpne (tgt := 77) C dX12_isSo_62 (by decide) (S_bipush C dX12_isSo_65 (by decide +kernel) (S_aload_n C dX12_isSo_67 rfl (S_iload_n C dX12_isSo_68 rfl (S_iload C dX12_isSo_69 (S_cV (ci := 12) C ok_X12_founded rfl (al_at 1034 (by decide +kernel) rfl) (Nat.le_of_ble_eq_true rfl) (Nat.le_of_ble_eq_true rfl) dX12_isSo_71 (S_iadd C dX12_isSo_74 (S_istore C dX12_isSo_75 (Nat.le_of_ble_eq_true rfl) (fun _ _ _ _ _ _ h9 => h9)))))))))))
    (S_iconst C dX12_isSo_77 (by decide +kernel) (S_istore C dX12_isSo_78 (Nat.le_of_ble_eq_true rfl) (fun _ _ _ _ _ _ h9 => h9)))
    (S_iload C dX12_isSo_80 (S_bipush C dX12_isSo_82 (by decide +kernel) (S_icmpge (tgt := 138) C dX12_isSo_84 (by decide) (S_aload_n C dX12_isSo_87 rfl (S_getR (ci := 12) (j := 0) C inG12 rfl (Nat.le_of_ble_eq_true rfl) rfl (al_at 918 (by decide +kernel) rfl) dX12_isSo_88 (S_iload C dX12_isSo_91 (S_aload_n C dX12_isSo_93 rfl (S_getR (ci := 12) (j := 19) C inG12 rfl (Nat.le_of_ble_eq_true rfl) rfl (al_at 937 (by decide +kernel) rfl) dX12_isSo_94 (S_iload_n C dX12_isSo_97 rfl (S_lald C dX12_isSo_98 (S_iload C dX12_isSo_99 (S_lshr C dX12_isSo_101 (S_lconst C dX12_isSo_102 (by decide +kernel) (S_land C dX12_isSo_103 (S_lconst C dX12_isSo_104 (by decide +kernel) (S_lcmp C dX12_isSo_105 (S_ifne (tgt := 119) C dX12_isSo_106 (by decide) (S_aload_n C dX12_isSo_109 rfl (S_getR (ci := 12) (j := 0) C inG12 rfl (Nat.le_of_ble_eq_true rfl) rfl (al_at 918 (by decide +kernel) rfl) dX12_isSo_110 (S_iload C dX12_isSo_113 (S_iald C dX12_isSo_115 (S_goto (tgt := 131) C dX12_isSo_116 (by decide)))))))))))))))))))))))
    (S_iload_n C dX12_isSo_119 rfl (S_bipush C dX12_isSo_120 (by decide +kernel) (S_icmpne (tgt := 130) C dX12_isSo_122 (by decide) (S_iload C dX12_isSo_125 (S_goto (tgt := 131) C dX12_isSo_127 (by decide))))))
    (S_iload_n C dX12_isSo_130 rfl (fun _ _ _ _ _ _ h9 => h9))
    (S_iast C dX12_isSo_131 (S_iinc C dX12_isSo_132 (by decide +kernel) (Nat.le_of_ble_eq_true rfl) (S_goto (tgt := 80) C dX12_isSo_135 (by decide))))
    (S_vret C hQ hr dX12_isSo_138))
theorem dX12_isWord_0 : decode cX12_isWord 0 = .ok (.aload_n 0, 1) := by decide +kernel
theorem dX12_isWord_1 : decode cX12_isWord 1 = .ok (.getfield 240, 3) := by decide +kernel
theorem dX12_isWord_4 : decode cX12_isWord 4 = .ok (.iconst 1, 1) := by decide +kernel
theorem dX12_isWord_5 : decode cX12_isWord 5 = .ok (.if_icmp .ne 23, 3) := by decide +kernel
theorem dX12_isWord_8 : decode cX12_isWord 8 = .ok (.aload_n 0, 1) := by decide +kernel
theorem dX12_isWord_9 : decode cX12_isWord 9 = .ok (.getfield 228, 3) := by decide +kernel
theorem dX12_isWord_12 : decode cX12_isWord 12 = .ok (.aload_n 0, 1) := by decide +kernel
theorem dX12_isWord_13 : decode cX12_isWord 13 = .ok (.getfield 231, 3) := by decide +kernel
theorem dX12_isWord_16 : decode cX12_isWord 16 = .ok (.isub, 1) := by decide +kernel
theorem dX12_isWord_17 : decode cX12_isWord 17 = .ok (.aload_n 1, 1) := by decide +kernel
theorem dX12_isWord_18 : decode cX12_isWord 18 = .ok (.invokevirtual 243, 3) := by decide +kernel
theorem dX12_isWord_21 : decode cX12_isWord 21 = .ok (.if_icmp .ne 7, 3) := by decide +kernel
theorem dX12_isWord_24 : decode cX12_isWord 24 = .ok (.iconst 1, 1) := by decide +kernel
theorem dX12_isWord_25 : decode cX12_isWord 25 = .ok (.goto 4, 3) := by decide +kernel
theorem dX12_isWord_28 : decode cX12_isWord 28 = .ok (.iconst 0, 1) := by decide +kernel
theorem dX12_isWord_29 : decode cX12_isWord 29 = .ok (.istore_n 2, 1) := by decide +kernel
theorem dX12_isWord_30 : decode cX12_isWord 30 = .ok (.iconst 0, 1) := by decide +kernel
theorem dX12_isWord_31 : decode cX12_isWord 31 = .ok (.istore_n 3, 1) := by decide +kernel
theorem dX12_isWord_32 : decode cX12_isWord 32 = .ok (.iload_n 3, 1) := by decide +kernel
theorem dX12_isWord_33 : decode cX12_isWord 33 = .ok (.aload_n 1, 1) := by decide +kernel
theorem dX12_isWord_34 : decode cX12_isWord 34 = .ok (.invokevirtual 243, 3) := by decide +kernel
theorem dX12_isWord_37 : decode cX12_isWord 37 = .ok (.if_icmp .ge 38, 3) := by decide +kernel
theorem dX12_isWord_40 : decode cX12_isWord 40 = .ok (.iload_n 2, 1) := by decide +kernel
theorem dX12_isWord_41 : decode cX12_isWord 41 = .ok (.ifCond .eq 34, 3) := by decide +kernel
theorem dX12_isWord_44 : decode cX12_isWord 44 = .ok (.aload_n 0, 1) := by decide +kernel
theorem dX12_isWord_45 : decode cX12_isWord 45 = .ok (.getfield 30, 3) := by decide +kernel
theorem dX12_isWord_48 : decode cX12_isWord 48 = .ok (.aload_n 0, 1) := by decide +kernel
theorem dX12_isWord_49 : decode cX12_isWord 49 = .ok (.getfield 231, 3) := by decide +kernel
theorem dX12_isWord_52 : decode cX12_isWord 52 = .ok (.iload_n 3, 1) := by decide +kernel
theorem dX12_isWord_53 : decode cX12_isWord 53 = .ok (.iadd, 1) := by decide +kernel
theorem dX12_isWord_54 : decode cX12_isWord 54 = .ok (.iaload, 1) := by decide +kernel
theorem dX12_isWord_55 : decode cX12_isWord 55 = .ok (.aload_n 1, 1) := by decide +kernel
theorem dX12_isWord_56 : decode cX12_isWord 56 = .ok (.iload_n 3, 1) := by decide +kernel
theorem dX12_isWord_57 : decode cX12_isWord 57 = .ok (.invokevirtual 246, 3) := by decide +kernel
theorem dX12_isWord_60 : decode cX12_isWord 60 = .ok (.if_icmp .ne 7, 3) := by decide +kernel
theorem dX12_isWord_63 : decode cX12_isWord 63 = .ok (.iconst 1, 1) := by decide +kernel
theorem dX12_isWord_64 : decode cX12_isWord 64 = .ok (.goto 4, 3) := by decide +kernel
theorem dX12_isWord_67 : decode cX12_isWord 67 = .ok (.iconst 0, 1) := by decide +kernel
theorem dX12_isWord_68 : decode cX12_isWord 68 = .ok (.istore_n 2, 1) := by decide +kernel
theorem dX12_isWord_69 : decode cX12_isWord 69 = .ok (.iinc 3 1, 3) := by decide +kernel
theorem dX12_isWord_72 : decode cX12_isWord 72 = .ok (.goto (-40), 3) := by decide +kernel
theorem dX12_isWord_75 : decode cX12_isWord 75 = .ok (.iload_n 2, 1) := by decide +kernel
theorem dX12_isWord_76 : decode cX12_isWord 76 = .ok (.ireturn, 1) := by decide +kernel
def k_X12_isWord_0 (F : FT) (Q : QT) : KT := o_aload 0 (o_getI 12 13 (o_ic (nI 1) (o_icne (F 28) (o_aload 0 (o_getI 12 12 (o_aload 0 (o_getI 12 11 (o_isub (o_aload 1 (o_cT m_J0_length_8abf5 1 (o_icne (F 28) (o_ic (nI 1) (F 29)))))))))))))
def k_X12_isWord_28 (F : FT) (Q : QT) : KT := o_ic (nI 0) (F 29)
def k_X12_isWord_29 (F : FT) (Q : QT) : KT := o_istore 2 (o_ic (nI 0) (o_istore 3 (F 32)))
def k_X12_isWord_32 (F : FT) (Q : QT) : KT := o_iload 3 (o_aload 1 (o_cT m_J0_length_8abf5 1 (o_icge (F 75) (o_iload 2 (o_ifeq (F 75) (o_aload 0 (o_getR 12 9 (o_aload 0 (o_getI 12 11 (o_iload 3 (o_iadd (o_iald (o_aload 1 (o_iload 3 (o_cT m_J0_charAt_5068e 2 (o_icne (F 67) (o_ic (nI 1) (F 68))))))))))))))))))
def k_X12_isWord_67 (F : FT) (Q : QT) : KT := o_ic (nI 0) (F 68)
def k_X12_isWord_68 (F : FT) (Q : QT) : KT := o_istore 2 (o_iinc 3 (nI 1) (F 32))
def k_X12_isWord_75 (F : FT) (Q : QT) : KT := o_iload 2 (o_zret Q)
set_option maxRecDepth 20000 in
theorem r_X12_isWord {a0 : Nat} {a1 : Nat} {n : Nat} {R : RR} {I : II} {J : JJ} {Q : QT} (hn : n + 0 ≤ 90) (h : ∀ F : FT, al_Wk F → al_Ok F (k_X12_isWord_0 F Q) 0 → al_Ok F (k_X12_isWord_28 F Q) 28 → al_Ok F (k_X12_isWord_29 F Q) 29 → al_Ok F (k_X12_isWord_32 F Q) 32 → al_Ok F (k_X12_isWord_67 F Q) 67 → al_Ok F (k_X12_isWord_68 F Q) 68 → al_Ok F (k_X12_isWord_75 F Q) 75 → F 0 [some (.ref a0), some (.ref a1), none, none] [] n R I J) : CT m_X12_isWord 0 [.ref a0, .ref a1] n R I J Q :=
  CT.of (by decide) hn (fun _ => rfl) (fun _ => Nat.le_of_ble_eq_true rfl) (fun F p l e s m args below meth c Rm t Q0 C hQ hr hm => h F (fun _ _ _ _ _ _ _ _ => S_wk C)
    (S_aload_n C dX12_isWord_0 rfl (S_getI (ci := 12) (j := 13) C inG12 rfl (Nat.le_of_ble_eq_true rfl) rfl (al_at 931 (by decide +kernel) rfl) dX12_isWord_1 (S_iconst C dX12_isWord_4 (by decide +kernel) (S_icmpne (tgt := 28) C dX12_isWord_5 (by decide) (S_aload_n C dX12_isWord_8 rfl (S_getI (ci := 12) (j := 12) C inG12 rfl (Nat.le_of_ble_eq_true rfl) rfl (al_at 930 (by decide +kernel) rfl) dX12_isWord_9 (S_aload_n C dX12_isWord_12 rfl (S_getI (ci := 12) (j := 11) C inG12 rfl (Nat.le_of_ble_eq_true rfl) rfl (al_at 929 (by decide +kernel) rfl) dX12_isWord_13 (S_isub C dX12_isWord_16 (S_aload_n C dX12_isWord_17 rfl (S_cT C ok_J0_length_8abf5 rfl (al_at 1263 (by decide +kernel) rfl) (Nat.le_of_ble_eq_true rfl) (Nat.le_of_ble_eq_true rfl) dX12_isWord_18 (S_icmpne (tgt := 28) C dX12_isWord_21 (by decide) (S_iconst C dX12_isWord_24 (by decide +kernel) (S_goto (tgt := 29) C dX12_isWord_25 (by decide)))))))))))))))
    (S_iconst C dX12_isWord_28 (by decide +kernel) (fun _ _ _ _ _ _ h9 => h9))
    (S_istore_n C dX12_isWord_29 rfl (Nat.le_of_ble_eq_true rfl) (S_iconst C dX12_isWord_30 (by decide +kernel) (S_istore_n C dX12_isWord_31 rfl (Nat.le_of_ble_eq_true rfl) (fun _ _ _ _ _ _ h9 => h9))))
    (S_iload_n C dX12_isWord_32 rfl (S_aload_n C dX12_isWord_33 rfl (S_cT C ok_J0_length_8abf5 rfl (al_at 1263 (by decide +kernel) rfl) (Nat.le_of_ble_eq_true rfl) (Nat.le_of_ble_eq_true rfl) dX12_isWord_34 (S_icmpge (tgt := 75) C dX12_isWord_37 (by decide) (S_iload_n C dX12_isWord_40 rfl (S_ifeq (tgt := 75) C dX12_isWord_41 (by decide) (S_aload_n C dX12_isWord_44 rfl (S_getR (ci := 12) (j := 9) C inG12 rfl (Nat.le_of_ble_eq_true rfl) rfl (al_at 927 (by decide +kernel) rfl) dX12_isWord_45 (S_aload_n C dX12_isWord_48 rfl (S_getI (ci := 12) (j := 11) C inG12 rfl (Nat.le_of_ble_eq_true rfl) rfl (al_at 929 (by decide +kernel) rfl) dX12_isWord_49 (S_iload_n C dX12_isWord_52 rfl (S_iadd C dX12_isWord_53 (S_iald C dX12_isWord_54 (S_aload_n C dX12_isWord_55 rfl (S_iload_n C dX12_isWord_56 rfl (S_cT C ok_J0_charAt_5068e rfl (al_at 1264 (by decide +kernel) rfl) (Nat.le_of_ble_eq_true rfl) (Nat.le_of_ble_eq_true rfl) dX12_isWord_57 (S_icmpne (tgt := 67) C dX12_isWord_60 (by decide) (S_iconst C dX12_isWord_63 (by decide +kernel) (S_goto (tgt := 68) C dX12_isWord_64 (by decide))))))))))))))))))))
    (S_iconst C dX12_isWord_67 (by decide +kernel) (fun _ _ _ _ _ _ h9 => h9))
    (S_istore_n C dX12_isWord_68 rfl (Nat.le_of_ble_eq_true rfl) (S_iinc C dX12_isWord_69 (by decide +kernel) (Nat.le_of_ble_eq_true rfl) (S_goto (tgt := 32) C dX12_isWord_72 (by decide))))
    (S_iload_n C dX12_isWord_75 rfl (S_zret C hQ hr dX12_isWord_76)))
theorem dX12_item_0 : decode cX12_item 0 = .ok (.aload_n 0, 1) := by decide +kernel
theorem dX12_item_1 : decode cX12_item 1 = .ok (.getfield 62, 3) := by decide +kernel
theorem dX12_item_4 : decode cX12_item 4 = .ok (.iconst 3, 1) := by decide +kernel
theorem dX12_item_5 : decode cX12_item 5 = .ok (.aload_n 0, 1) := by decide +kernel
theorem dX12_item_6 : decode cX12_item 6 = .ok (.getfield 264, 3) := by decide +kernel
theorem dX12_item_9 : decode cX12_item 9 = .ok (.imul, 1) := by decide +kernel
theorem dX12_item_10 : decode cX12_item 10 = .ok (.iload_n 1, 1) := by decide +kernel
theorem dX12_item_11 : decode cX12_item 11 = .ok (.iastore, 1) := by decide +kernel
theorem dX12_item_12 : decode cX12_item 12 = .ok (.aload_n 0, 1) := by decide +kernel
theorem dX12_item_13 : decode cX12_item 13 = .ok (.getfield 62, 3) := by decide +kernel
theorem dX12_item_16 : decode cX12_item 16 = .ok (.iconst 3, 1) := by decide +kernel
theorem dX12_item_17 : decode cX12_item 17 = .ok (.aload_n 0, 1) := by decide +kernel
theorem dX12_item_18 : decode cX12_item 18 = .ok (.getfield 264, 3) := by decide +kernel
theorem dX12_item_21 : decode cX12_item 21 = .ok (.imul, 1) := by decide +kernel
theorem dX12_item_22 : decode cX12_item 22 = .ok (.iconst 1, 1) := by decide +kernel
theorem dX12_item_23 : decode cX12_item 23 = .ok (.iadd, 1) := by decide +kernel
theorem dX12_item_24 : decode cX12_item 24 = .ok (.iload_n 2, 1) := by decide +kernel
theorem dX12_item_25 : decode cX12_item 25 = .ok (.iastore, 1) := by decide +kernel
theorem dX12_item_26 : decode cX12_item 26 = .ok (.aload_n 0, 1) := by decide +kernel
theorem dX12_item_27 : decode cX12_item 27 = .ok (.getfield 62, 3) := by decide +kernel
theorem dX12_item_30 : decode cX12_item 30 = .ok (.iconst 3, 1) := by decide +kernel
theorem dX12_item_31 : decode cX12_item 31 = .ok (.aload_n 0, 1) := by decide +kernel
theorem dX12_item_32 : decode cX12_item 32 = .ok (.getfield 264, 3) := by decide +kernel
theorem dX12_item_35 : decode cX12_item 35 = .ok (.imul, 1) := by decide +kernel
theorem dX12_item_36 : decode cX12_item 36 = .ok (.iconst 2, 1) := by decide +kernel
theorem dX12_item_37 : decode cX12_item 37 = .ok (.iadd, 1) := by decide +kernel
theorem dX12_item_38 : decode cX12_item 38 = .ok (.iload_n 3, 1) := by decide +kernel
theorem dX12_item_39 : decode cX12_item 39 = .ok (.iastore, 1) := by decide +kernel
theorem dX12_item_40 : decode cX12_item 40 = .ok (.aload_n 0, 1) := by decide +kernel
theorem dX12_item_41 : decode cX12_item 41 = .ok (.getfield 65, 3) := by decide +kernel
theorem dX12_item_44 : decode cX12_item 44 = .ok (.aload_n 0, 1) := by decide +kernel
theorem dX12_item_45 : decode cX12_item 45 = .ok (.getfield 264, 3) := by decide +kernel
theorem dX12_item_48 : decode cX12_item 48 = .ok (.lload 4, 2) := by decide +kernel
theorem dX12_item_50 : decode cX12_item 50 = .ok (.lastore, 1) := by decide +kernel
theorem dX12_item_51 : decode cX12_item 51 = .ok (.aload_n 0, 1) := by decide +kernel
theorem dX12_item_52 : decode cX12_item 52 = .ok (.dup, 1) := by decide +kernel
theorem dX12_item_53 : decode cX12_item 53 = .ok (.getfield 264, 3) := by decide +kernel
theorem dX12_item_56 : decode cX12_item 56 = .ok (.iconst 1, 1) := by decide +kernel
theorem dX12_item_57 : decode cX12_item 57 = .ok (.iadd, 1) := by decide +kernel
theorem dX12_item_58 : decode cX12_item 58 = .ok (.putfield 264, 3) := by decide +kernel
theorem dX12_item_61 : decode cX12_item 61 = .ok (.return_, 1) := by decide +kernel
def k_X12_item_0 (F : FT) (Q : QT) : KT := o_aload 0 (o_getR 12 18 (o_ic (nI 3) (o_aload 0 (o_getI 12 20 (o_imul (o_iload 1 (o_iast (o_aload 0 (o_getR 12 18 (o_ic (nI 3) (o_aload 0 (o_getI 12 20 (o_imul (o_ic (nI 1) (o_iadd (o_iload 2 (o_iast (o_aload 0 (o_getR 12 18 (o_ic (nI 3) (o_aload 0 (o_getI 12 20 (o_imul (o_ic (nI 2) (o_iadd (o_iload 3 (o_iast (o_aload 0 (o_getR 12 19 (o_aload 0 (o_getI 12 20 (o_lload 4 (o_last (o_aload 0 (o_dup (o_getI 12 20 (o_ic (nI 1) (o_iadd (o_putI 12 20 (o_vret Q))))))))))))))))))))))))))))))))))))))))
set_option maxRecDepth 20000 in
theorem r_X12_item {a0 : Nat} {a1 : Int32} {a2 : Int32} {a3 : Int32} {a4 : Int64} {n : Nat} {R : RR} {I : II} {J : JJ} {Q : QT} (hn : n + 0 ≤ 90) (h : ∀ F : FT, al_Wk F → al_Ok F (k_X12_item_0 F Q) 0 → F 0 [some (.ref a0), some (.int a1), some (.int a2), some (.int a3), some (.long a4), none] [] n R I J) : CT m_X12_item 0 [.ref a0, .int a1, .int a2, .int a3, .long a4] n R I J Q :=
  CT.of (by decide) hn (fun _ => rfl) (fun _ => Nat.le_of_ble_eq_true rfl) (fun F p l e s m args below meth c Rm t Q0 C hQ hr hm => h F (fun _ _ _ _ _ _ _ _ => S_wk C)
    (S_aload_n C dX12_item_0 rfl (S_getR (ci := 12) (j := 18) C inG12 rfl (Nat.le_of_ble_eq_true rfl) rfl (al_at 936 (by decide +kernel) rfl) dX12_item_1 (S_iconst C dX12_item_4 (by decide +kernel) (S_aload_n C dX12_item_5 rfl (S_getI (ci := 12) (j := 20) C inG12 rfl (Nat.le_of_ble_eq_true rfl) rfl (al_at 938 (by decide +kernel) rfl) dX12_item_6 (S_imul C dX12_item_9 (S_iload_n C dX12_item_10 rfl (S_iast C dX12_item_11 (S_aload_n C dX12_item_12 rfl (S_getR (ci := 12) (j := 18) C inG12 rfl (Nat.le_of_ble_eq_true rfl) rfl (al_at 936 (by decide +kernel) rfl) dX12_item_13 (S_iconst C dX12_item_16 (by decide +kernel) (S_aload_n C dX12_item_17 rfl (S_getI (ci := 12) (j := 20) C inG12 rfl (Nat.le_of_ble_eq_true rfl) rfl (al_at 938 (by decide +kernel) rfl) dX12_item_18 (S_imul C dX12_item_21 (S_iconst C dX12_item_22 (by decide +kernel) (S_iadd C dX12_item_23 (S_iload_n C dX12_item_24 rfl (S_iast C dX12_item_25 (S_aload_n C dX12_item_26 rfl (S_getR (ci := 12) (j := 18) C inG12 rfl (Nat.le_of_ble_eq_true rfl) rfl (al_at 936 (by decide +kernel) rfl) dX12_item_27 (S_iconst C dX12_item_30 (by decide +kernel) (S_aload_n C dX12_item_31 rfl (S_getI (ci := 12) (j := 20) C inG12 rfl (Nat.le_of_ble_eq_true rfl) rfl (al_at 938 (by decide +kernel) rfl) dX12_item_32 (S_imul C dX12_item_35 (S_iconst C dX12_item_36 (by decide +kernel) (S_iadd C dX12_item_37 (S_iload_n C dX12_item_38 rfl (S_iast C dX12_item_39 (S_aload_n C dX12_item_40 rfl (S_getR (ci := 12) (j := 19) C inG12 rfl (Nat.le_of_ble_eq_true rfl) rfl (al_at 937 (by decide +kernel) rfl) dX12_item_41 (S_aload_n C dX12_item_44 rfl (S_getI (ci := 12) (j := 20) C inG12 rfl (Nat.le_of_ble_eq_true rfl) rfl (al_at 938 (by decide +kernel) rfl) dX12_item_45 (S_lload C dX12_item_48 (S_last C dX12_item_50 (S_aload_n C dX12_item_51 rfl (S_dup C dX12_item_52 (S_getI (ci := 12) (j := 20) C inG12 rfl (Nat.le_of_ble_eq_true rfl) rfl (al_at 938 (by decide +kernel) rfl) dX12_item_53 (S_iconst C dX12_item_56 (by decide +kernel) (S_iadd C dX12_item_57 (S_putI (ci := 12) (j := 20) C inG12 rfl (Nat.le_of_ble_eq_true rfl) tyX12 tyX12_ok nmX12 rfl rfl (tyX12_ok 20 (Nat.le_of_ble_eq_true rfl)) (al_at 938 (by decide +kernel) rfl) dX12_item_58 (S_vret C hQ hr dX12_item_61))))))))))))))))))))))))))))))))))))))))))
theorem dX12_must_0 : decode cX12_must 0 = .ok (.aload_n 0, 1) := by decide +kernel
theorem dX12_must_1 : decode cX12_must 1 = .ok (.aload_n 0, 1) := by decide +kernel
theorem dX12_must_2 : decode cX12_must 2 = .ok (.getfield 250, 3) := by decide +kernel
theorem dX12_must_5 : decode cX12_must 5 = .ok (.ifCond .ne 7, 3) := by decide +kernel
theorem dX12_must_8 : decode cX12_must 8 = .ok (.iload_n 1, 1) := by decide +kernel
theorem dX12_must_9 : decode cX12_must 9 = .ok (.ifCond .ne 7, 3) := by decide +kernel
theorem dX12_must_12 : decode cX12_must 12 = .ok (.iconst 1, 1) := by decide +kernel
theorem dX12_must_13 : decode cX12_must 13 = .ok (.goto 4, 3) := by decide +kernel
theorem dX12_must_16 : decode cX12_must 16 = .ok (.iconst 0, 1) := by decide +kernel
theorem dX12_must_17 : decode cX12_must 17 = .ok (.putfield 250, 3) := by decide +kernel
theorem dX12_must_20 : decode cX12_must 20 = .ok (.aload_n 0, 1) := by decide +kernel
theorem dX12_must_21 : decode cX12_must 21 = .ok (.getfield 250, 3) := by decide +kernel
theorem dX12_must_24 : decode cX12_must 24 = .ok (.ifCond .ne 7, 3) := by decide +kernel
theorem dX12_must_27 : decode cX12_must 27 = .ok (.aload_n 0, 1) := by decide +kernel
theorem dX12_must_28 : decode cX12_must 28 = .ok (.invokevirtual 253, 3) := by decide +kernel
theorem dX12_must_31 : decode cX12_must 31 = .ok (.return_, 1) := by decide +kernel
def k_X12_must_0 (F : FT) (Q : QT) : KT := o_aload 0 (o_aload 0 (o_getI 12 15 (o_ifne (F 12) (o_iload 1 (o_ifne (F 16) (F 12))))))
def k_X12_must_12 (F : FT) (Q : QT) : KT := o_ic (nI 1) (F 17)
def k_X12_must_16 (F : FT) (Q : QT) : KT := o_ic (nI 0) (F 17)
def k_X12_must_17 (F : FT) (Q : QT) : KT := o_putZ 12 15 (o_aload 0 (o_getI 12 15 (o_ifne (F 31) (o_aload 0 (o_cV 12 m_X12_next 1 (F 31))))))
def k_X12_must_31 (F : FT) (Q : QT) : KT := o_vret Q
set_option maxRecDepth 20000 in
theorem r_X12_must {a0 : Nat} {a1 : Int32} {n : Nat} {R : RR} {I : II} {J : JJ} {Q : QT} (hn : n + 0 ≤ 90) (h : ∀ F : FT, al_Wk F → al_Ok F (k_X12_must_0 F Q) 0 → al_Ok F (k_X12_must_12 F Q) 12 → al_Ok F (k_X12_must_16 F Q) 16 → al_Ok F (k_X12_must_17 F Q) 17 → al_Ok F (k_X12_must_31 F Q) 31 → F 0 [some (.ref a0), some (.int a1)] [] n R I J) : CT m_X12_must 0 [.ref a0, .int a1] n R I J Q :=
  CT.of (by decide) hn (fun _ => rfl) (fun _ => Nat.le_of_ble_eq_true rfl) (fun F p l e s m args below meth c Rm t Q0 C hQ hr hm => h F (fun _ _ _ _ _ _ _ _ => S_wk C)
    (S_aload_n C dX12_must_0 rfl (S_aload_n C dX12_must_1 rfl (S_getZ (ci := 12) (j := 15) C inG12 rfl (Nat.le_of_ble_eq_true rfl) rfl (al_at 933 (by decide +kernel) rfl) dX12_must_2 (S_ifne (tgt := 12) C dX12_must_5 (by decide) (S_iload_n C dX12_must_8 rfl (S_ifne (tgt := 16) C dX12_must_9 (by decide) (fun _ _ _ _ _ _ h9 => h9)))))))
    (S_iconst C dX12_must_12 (by decide +kernel) (S_goto (tgt := 17) C dX12_must_13 (by decide)))
    (S_iconst C dX12_must_16 (by decide +kernel) (fun _ _ _ _ _ _ h9 => h9))
    (S_putZ (ci := 12) (j := 15) C inG12 rfl (Nat.le_of_ble_eq_true rfl) tyX12 tyX12_ok nmX12 rfl rfl (tyX12_ok 15 (Nat.le_of_ble_eq_true rfl)) (al_at 933 (by decide +kernel) rfl) dX12_must_17 (S_aload_n C dX12_must_20 rfl (S_getZ (ci := 12) (j := 15) C inG12 rfl (Nat.le_of_ble_eq_true rfl) rfl (al_at 933 (by decide +kernel) rfl) dX12_must_21 (S_ifne (tgt := 31) C dX12_must_24 (by decide) (S_aload_n C dX12_must_27 rfl (S_cV (ci := 12) C ok_X12_next rfl (al_at 1243 (by decide +kernel) rfl) (Nat.le_of_ble_eq_true rfl) (Nat.le_of_ble_eq_true rfl) dX12_must_28 (fun _ _ _ _ _ _ h9 => h9)))))))
    (S_vret C hQ hr dX12_must_31))
theorem dX12_next_0 : decode cX12_next 0 = .ok (.aload_n 0, 1) := by decide +kernel
theorem dX12_next_1 : decode cX12_next 1 = .ok (.aload_n 0, 1) := by decide +kernel
theorem dX12_next_2 : decode cX12_next 2 = .ok (.getfield 228, 3) := by decide +kernel
theorem dX12_next_5 : decode cX12_next 5 = .ok (.putfield 231, 3) := by decide +kernel
theorem dX12_next_8 : decode cX12_next 8 = .ok (.aload_n 0, 1) := by decide +kernel
theorem dX12_next_9 : decode cX12_next 9 = .ok (.aload_n 0, 1) := by decide +kernel
theorem dX12_next_10 : decode cX12_next 10 = .ok (.getfield 231, 3) := by decide +kernel
theorem dX12_next_13 : decode cX12_next 13 = .ok (.invokevirtual 234, 3) := by decide +kernel
theorem dX12_next_16 : decode cX12_next 16 = .ok (.bipush 32, 2) := by decide +kernel
theorem dX12_next_18 : decode cX12_next 18 = .ok (.if_icmp .ne 16, 3) := by decide +kernel
theorem dX12_next_21 : decode cX12_next 21 = .ok (.aload_n 0, 1) := by decide +kernel
theorem dX12_next_22 : decode cX12_next 22 = .ok (.dup, 1) := by decide +kernel
theorem dX12_next_23 : decode cX12_next 23 = .ok (.getfield 231, 3) := by decide +kernel
theorem dX12_next_26 : decode cX12_next 26 = .ok (.iconst 1, 1) := by decide +kernel
theorem dX12_next_27 : decode cX12_next 27 = .ok (.iadd, 1) := by decide +kernel
theorem dX12_next_28 : decode cX12_next 28 = .ok (.putfield 231, 3) := by decide +kernel
theorem dX12_next_31 : decode cX12_next 31 = .ok (.goto (-23), 3) := by decide +kernel
theorem dX12_next_34 : decode cX12_next 34 = .ok (.aload_n 0, 1) := by decide +kernel
theorem dX12_next_35 : decode cX12_next 35 = .ok (.aload_n 0, 1) := by decide +kernel
theorem dX12_next_36 : decode cX12_next 36 = .ok (.getfield 231, 3) := by decide +kernel
theorem dX12_next_39 : decode cX12_next 39 = .ok (.invokevirtual 234, 3) := by decide +kernel
theorem dX12_next_42 : decode cX12_next 42 = .ok (.istore_n 1, 1) := by decide +kernel
theorem dX12_next_43 : decode cX12_next 43 = .ok (.aload_n 0, 1) := by decide +kernel
theorem dX12_next_44 : decode cX12_next 44 = .ok (.aload_n 0, 1) := by decide +kernel
theorem dX12_next_45 : decode cX12_next 45 = .ok (.getfield 231, 3) := by decide +kernel
theorem dX12_next_48 : decode cX12_next 48 = .ok (.putfield 228, 3) := by decide +kernel
theorem dX12_next_51 : decode cX12_next 51 = .ok (.aload_n 0, 1) := by decide +kernel
theorem dX12_next_52 : decode cX12_next 52 = .ok (.iconst 0, 1) := by decide +kernel
theorem dX12_next_53 : decode cX12_next 53 = .ok (.putfield 237, 3) := by decide +kernel
theorem dX12_next_56 : decode cX12_next 56 = .ok (.iload_n 1, 1) := by decide +kernel
theorem dX12_next_57 : decode cX12_next 57 = .ok (.ifCond .ge 11, 3) := by decide +kernel
theorem dX12_next_60 : decode cX12_next 60 = .ok (.aload_n 0, 1) := by decide +kernel
theorem dX12_next_61 : decode cX12_next 61 = .ok (.iconst 0, 1) := by decide +kernel
theorem dX12_next_62 : decode cX12_next 62 = .ok (.putfield 240, 3) := by decide +kernel
theorem dX12_next_65 : decode cX12_next 65 = .ok (.goto 141, 3) := by decide +kernel
theorem dX12_next_68 : decode cX12_next 68 = .ok (.iload_n 1, 1) := by decide +kernel
theorem dX12_next_69 : decode cX12_next 69 = .ok (.bipush 97, 2) := by decide +kernel
theorem dX12_next_71 : decode cX12_next 71 = .ok (.bipush 122, 2) := by decide +kernel
theorem dX12_next_73 : decode cX12_next 73 = .ok (.invokestatic 81, 3) := by decide +kernel
theorem dX12_next_76 : decode cX12_next 76 = .ok (.ifCond .eq 39, 3) := by decide +kernel
theorem dX12_next_79 : decode cX12_next 79 = .ok (.aload_n 0, 1) := by decide +kernel
theorem dX12_next_80 : decode cX12_next 80 = .ok (.iconst 1, 1) := by decide +kernel
theorem dX12_next_81 : decode cX12_next 81 = .ok (.putfield 240, 3) := by decide +kernel
theorem dX12_next_84 : decode cX12_next 84 = .ok (.aload_n 0, 1) := by decide +kernel
theorem dX12_next_85 : decode cX12_next 85 = .ok (.aload_n 0, 1) := by decide +kernel
theorem dX12_next_86 : decode cX12_next 86 = .ok (.getfield 228, 3) := by decide +kernel
theorem dX12_next_89 : decode cX12_next 89 = .ok (.invokevirtual 234, 3) := by decide +kernel
theorem dX12_next_92 : decode cX12_next 92 = .ok (.bipush 97, 2) := by decide +kernel
theorem dX12_next_94 : decode cX12_next 94 = .ok (.bipush 122, 2) := by decide +kernel
theorem dX12_next_96 : decode cX12_next 96 = .ok (.invokestatic 81, 3) := by decide +kernel
theorem dX12_next_99 : decode cX12_next 99 = .ok (.ifCond .eq 107, 3) := by decide +kernel
theorem dX12_next_102 : decode cX12_next 102 = .ok (.aload_n 0, 1) := by decide +kernel
theorem dX12_next_103 : decode cX12_next 103 = .ok (.dup, 1) := by decide +kernel
theorem dX12_next_104 : decode cX12_next 104 = .ok (.getfield 228, 3) := by decide +kernel
theorem dX12_next_107 : decode cX12_next 107 = .ok (.iconst 1, 1) := by decide +kernel
theorem dX12_next_108 : decode cX12_next 108 = .ok (.iadd, 1) := by decide +kernel
theorem dX12_next_109 : decode cX12_next 109 = .ok (.putfield 228, 3) := by decide +kernel
theorem dX12_next_112 : decode cX12_next 112 = .ok (.goto (-28), 3) := by decide +kernel
theorem dX12_next_115 : decode cX12_next 115 = .ok (.iload_n 1, 1) := by decide +kernel
theorem dX12_next_116 : decode cX12_next 116 = .ok (.bipush 48, 2) := by decide +kernel
theorem dX12_next_118 : decode cX12_next 118 = .ok (.bipush 57, 2) := by decide +kernel
theorem dX12_next_120 : decode cX12_next 120 = .ok (.invokestatic 81, 3) := by decide +kernel
theorem dX12_next_123 : decode cX12_next 123 = .ok (.ifCond .eq 68, 3) := by decide +kernel
theorem dX12_next_126 : decode cX12_next 126 = .ok (.aload_n 0, 1) := by decide +kernel
theorem dX12_next_127 : decode cX12_next 127 = .ok (.iconst 2, 1) := by decide +kernel
theorem dX12_next_128 : decode cX12_next 128 = .ok (.putfield 240, 3) := by decide +kernel
theorem dX12_next_131 : decode cX12_next 131 = .ok (.aload_n 0, 1) := by decide +kernel
theorem dX12_next_132 : decode cX12_next 132 = .ok (.aload_n 0, 1) := by decide +kernel
theorem dX12_next_133 : decode cX12_next 133 = .ok (.getfield 228, 3) := by decide +kernel
theorem dX12_next_136 : decode cX12_next 136 = .ok (.invokevirtual 234, 3) := by decide +kernel
theorem dX12_next_139 : decode cX12_next 139 = .ok (.bipush 48, 2) := by decide +kernel
theorem dX12_next_141 : decode cX12_next 141 = .ok (.bipush 57, 2) := by decide +kernel
theorem dX12_next_143 : decode cX12_next 143 = .ok (.invokestatic 81, 3) := by decide +kernel
theorem dX12_next_146 : decode cX12_next 146 = .ok (.ifCond .eq 60, 3) := by decide +kernel
theorem dX12_next_149 : decode cX12_next 149 = .ok (.aload_n 0, 1) := by decide +kernel
theorem dX12_next_150 : decode cX12_next 150 = .ok (.sipush 10000, 3) := by decide +kernel
theorem dX12_next_153 : decode cX12_next 153 = .ok (.bipush 10, 2) := by decide +kernel
theorem dX12_next_155 : decode cX12_next 155 = .ok (.aload_n 0, 1) := by decide +kernel
theorem dX12_next_156 : decode cX12_next 156 = .ok (.getfield 237, 3) := by decide +kernel
theorem dX12_next_159 : decode cX12_next 159 = .ok (.imul, 1) := by decide +kernel
theorem dX12_next_160 : decode cX12_next 160 = .ok (.aload_n 0, 1) := by decide +kernel
theorem dX12_next_161 : decode cX12_next 161 = .ok (.aload_n 0, 1) := by decide +kernel
theorem dX12_next_162 : decode cX12_next 162 = .ok (.getfield 228, 3) := by decide +kernel
theorem dX12_next_165 : decode cX12_next 165 = .ok (.invokevirtual 234, 3) := by decide +kernel
theorem dX12_next_168 : decode cX12_next 168 = .ok (.iadd, 1) := by decide +kernel
theorem dX12_next_169 : decode cX12_next 169 = .ok (.bipush 48, 2) := by decide +kernel
theorem dX12_next_171 : decode cX12_next 171 = .ok (.isub, 1) := by decide +kernel
theorem dX12_next_172 : decode cX12_next 172 = .ok (.invokestatic 117, 3) := by decide +kernel
theorem dX12_next_175 : decode cX12_next 175 = .ok (.putfield 237, 3) := by decide +kernel
theorem dX12_next_178 : decode cX12_next 178 = .ok (.aload_n 0, 1) := by decide +kernel
theorem dX12_next_179 : decode cX12_next 179 = .ok (.dup, 1) := by decide +kernel
theorem dX12_next_180 : decode cX12_next 180 = .ok (.getfield 228, 3) := by decide +kernel
theorem dX12_next_183 : decode cX12_next 183 = .ok (.iconst 1, 1) := by decide +kernel
theorem dX12_next_184 : decode cX12_next 184 = .ok (.iadd, 1) := by decide +kernel
theorem dX12_next_185 : decode cX12_next 185 = .ok (.putfield 228, 3) := by decide +kernel
theorem dX12_next_188 : decode cX12_next 188 = .ok (.goto (-57), 3) := by decide +kernel
theorem dX12_next_191 : decode cX12_next 191 = .ok (.aload_n 0, 1) := by decide +kernel
theorem dX12_next_192 : decode cX12_next 192 = .ok (.iconst 3, 1) := by decide +kernel
theorem dX12_next_193 : decode cX12_next 193 = .ok (.putfield 240, 3) := by decide +kernel
theorem dX12_next_196 : decode cX12_next 196 = .ok (.aload_n 0, 1) := by decide +kernel
theorem dX12_next_197 : decode cX12_next 197 = .ok (.dup, 1) := by decide +kernel
theorem dX12_next_198 : decode cX12_next 198 = .ok (.getfield 228, 3) := by decide +kernel
theorem dX12_next_201 : decode cX12_next 201 = .ok (.iconst 1, 1) := by decide +kernel
theorem dX12_next_202 : decode cX12_next 202 = .ok (.iadd, 1) := by decide +kernel
theorem dX12_next_203 : decode cX12_next 203 = .ok (.putfield 228, 3) := by decide +kernel
theorem dX12_next_206 : decode cX12_next 206 = .ok (.return_, 1) := by decide +kernel
def k_X12_next_0 (F : FT) (Q : QT) : KT := o_aload 0 (o_aload 0 (o_getI 12 12 (o_putI 12 11 (F 8))))
def k_X12_next_8 (F : FT) (Q : QT) : KT := o_aload 0 (o_aload 0 (o_getI 12 11 (o_cV 12 m_X12_byteAt 2 (o_ic (nI 32) (o_icne (F 34) (o_aload 0 (o_dup (o_getI 12 11 (o_ic (nI 1) (o_iadd (o_putI 12 11 (F 8))))))))))))
def k_X12_next_34 (F : FT) (Q : QT) : KT := o_aload 0 (o_aload 0 (o_getI 12 11 (o_cV 12 m_X12_byteAt 2 (o_istore 1 (o_aload 0 (o_aload 0 (o_getI 12 11 (o_putI 12 12 (o_aload 0 (o_ic (nI 0) (o_putI 12 14 (o_iload 1 (o_ifge (F 68) (o_aload 0 (o_ic (nI 0) (o_putI 12 13 (F 206)))))))))))))))))
def k_X12_next_68 (F : FT) (Q : QT) : KT := o_iload 1 (o_ic (nI 97) (o_ic (nI 122) (o_cS m_X12_within 3 (o_ifeq (F 115) (o_aload 0 (o_ic (nI 1) (o_putI 12 13 (F 84))))))))
def k_X12_next_84 (F : FT) (Q : QT) : KT := o_aload 0 (o_aload 0 (o_getI 12 12 (o_cV 12 m_X12_byteAt 2 (o_ic (nI 97) (o_ic (nI 122) (o_cS m_X12_within 3 (o_ifeq (F 206) (o_aload 0 (o_dup (o_getI 12 12 (o_ic (nI 1) (o_iadd (o_putI 12 12 (F 84))))))))))))))
def k_X12_next_115 (F : FT) (Q : QT) : KT := o_iload 1 (o_ic (nI 48) (o_ic (nI 57) (o_cS m_X12_within 3 (o_ifeq (F 191) (o_aload 0 (o_ic (nI 2) (o_putI 12 13 (F 131))))))))
def k_X12_next_131 (F : FT) (Q : QT) : KT := o_aload 0 (o_aload 0 (o_getI 12 12 (o_cV 12 m_X12_byteAt 2 (o_ic (nI 48) (o_ic (nI 57) (o_cS m_X12_within 3 (o_ifeq (F 206) (o_aload 0 (o_ic (nI 10000) (o_ic (nI 10) (o_aload 0 (o_getI 12 14 (o_imul (o_aload 0 (o_aload 0 (o_getI 12 12 (o_cV 12 m_X12_byteAt 2 (o_iadd (o_ic (nI 48) (o_isub (o_mmin (o_putI 12 14 (o_aload 0 (o_dup (o_getI 12 12 (o_ic (nI 1) (o_iadd (o_putI 12 12 (F 131)))))))))))))))))))))))))))))
def k_X12_next_191 (F : FT) (Q : QT) : KT := o_aload 0 (o_ic (nI 3) (o_putI 12 13 (o_aload 0 (o_dup (o_getI 12 12 (o_ic (nI 1) (o_iadd (o_putI 12 12 (F 206)))))))))
def k_X12_next_206 (F : FT) (Q : QT) : KT := o_vret Q
set_option maxRecDepth 20000 in
theorem r_X12_next {a0 : Nat} {n : Nat} {R : RR} {I : II} {J : JJ} {Q : QT} (hn : n + 0 ≤ 90) (h : ∀ F : FT, al_Wk F → al_Ok F (k_X12_next_0 F Q) 0 → al_Ok F (k_X12_next_8 F Q) 8 → al_Ok F (k_X12_next_34 F Q) 34 → al_Ok F (k_X12_next_68 F Q) 68 → al_Ok F (k_X12_next_84 F Q) 84 → al_Ok F (k_X12_next_115 F Q) 115 → al_Ok F (k_X12_next_131 F Q) 131 → al_Ok F (k_X12_next_191 F Q) 191 → al_Ok F (k_X12_next_206 F Q) 206 → F 0 [some (.ref a0), none] [] n R I J) : CT m_X12_next 0 [.ref a0] n R I J Q :=
  CT.of (by decide) hn (fun _ => rfl) (fun _ => Nat.le_of_ble_eq_true rfl) (fun F p l e s m args below meth c Rm t Q0 C hQ hr hm => h F (fun _ _ _ _ _ _ _ _ => S_wk C)
    (S_aload_n C dX12_next_0 rfl (S_aload_n C dX12_next_1 rfl (S_getI (ci := 12) (j := 12) C inG12 rfl (Nat.le_of_ble_eq_true rfl) rfl (al_at 930 (by decide +kernel) rfl) dX12_next_2 (S_putI (ci := 12) (j := 11) C inG12 rfl (Nat.le_of_ble_eq_true rfl) tyX12 tyX12_ok nmX12 rfl rfl (tyX12_ok 11 (Nat.le_of_ble_eq_true rfl)) (al_at 929 (by decide +kernel) rfl) dX12_next_5 (fun _ _ _ _ _ _ h9 => h9)))))
    (S_aload_n C dX12_next_8 rfl (S_aload_n C dX12_next_9 rfl (S_getI (ci := 12) (j := 11) C inG12 rfl (Nat.le_of_ble_eq_true rfl) rfl (al_at 929 (by decide +kernel) rfl) dX12_next_10 (S_cV (ci := 12) C ok_X12_byteAt rfl (al_at 1247 (by decide +kernel) rfl) (Nat.le_of_ble_eq_true rfl) (Nat.le_of_ble_eq_true rfl) dX12_next_13 (S_bipush C dX12_next_16 (by decide +kernel) (S_icmpne (tgt := 34) C dX12_next_18 (by decide) (S_aload_n C dX12_next_21 rfl (S_dup C dX12_next_22 (S_getI (ci := 12) (j := 11) C inG12 rfl (Nat.le_of_ble_eq_true rfl) rfl (al_at 929 (by decide +kernel) rfl) dX12_next_23 (S_iconst C dX12_next_26 (by decide +kernel) (S_iadd C dX12_next_27 (S_putI (ci := 12) (j := 11) C inG12 rfl (Nat.le_of_ble_eq_true rfl) tyX12 tyX12_ok nmX12 rfl rfl (tyX12_ok 11 (Nat.le_of_ble_eq_true rfl)) (al_at 929 (by decide +kernel) rfl) dX12_next_28 (S_goto (tgt := 8) C dX12_next_31 (by decide))))))))))))))
    (S_aload_n C dX12_next_34 rfl (S_aload_n C dX12_next_35 rfl (S_getI (ci := 12) (j := 11) C inG12 rfl (Nat.le_of_ble_eq_true rfl) rfl (al_at 929 (by decide +kernel) rfl) dX12_next_36 (S_cV (ci := 12) C ok_X12_byteAt rfl (al_at 1247 (by decide +kernel) rfl) (Nat.le_of_ble_eq_true rfl) (Nat.le_of_ble_eq_true rfl) dX12_next_39 (S_istore_n C dX12_next_42 rfl (Nat.le_of_ble_eq_true rfl) (S_aload_n C dX12_next_43 rfl (S_aload_n C dX12_next_44 rfl (S_getI (ci := 12) (j := 11) C inG12 rfl (Nat.le_of_ble_eq_true rfl) rfl (al_at 929 (by decide +kernel) rfl) dX12_next_45 (S_putI (ci := 12) (j := 12) C inG12 rfl (Nat.le_of_ble_eq_true rfl) tyX12 tyX12_ok nmX12 rfl rfl (tyX12_ok 12 (Nat.le_of_ble_eq_true rfl)) (al_at 930 (by decide +kernel) rfl) dX12_next_48 (S_aload_n C dX12_next_51 rfl (S_iconst C dX12_next_52 (by decide +kernel) (S_putI (ci := 12) (j := 14) C inG12 rfl (Nat.le_of_ble_eq_true rfl) tyX12 tyX12_ok nmX12 rfl rfl (tyX12_ok 14 (Nat.le_of_ble_eq_true rfl)) (al_at 932 (by decide +kernel) rfl) dX12_next_53 (S_iload_n C dX12_next_56 rfl (S_ifge (tgt := 68) C dX12_next_57 (by decide) (S_aload_n C dX12_next_60 rfl (S_iconst C dX12_next_61 (by decide +kernel) (S_putI (ci := 12) (j := 13) C inG12 rfl (Nat.le_of_ble_eq_true rfl) tyX12 tyX12_ok nmX12 rfl rfl (tyX12_ok 13 (Nat.le_of_ble_eq_true rfl)) (al_at 931 (by decide +kernel) rfl) dX12_next_62 (S_goto (tgt := 206) C dX12_next_65 (by decide)))))))))))))))))))
    (S_iload_n C dX12_next_68 rfl (S_bipush C dX12_next_69 (by decide +kernel) (S_bipush C dX12_next_71 (by decide +kernel) (S_cS C ok_X12_within (al_at 1005 (by decide +kernel) rfl) (Nat.le_of_ble_eq_true rfl) (Nat.le_of_ble_eq_true rfl) dX12_next_73 (S_ifeq (tgt := 115) C dX12_next_76 (by decide) (S_aload_n C dX12_next_79 rfl (S_iconst C dX12_next_80 (by decide +kernel) (S_putI (ci := 12) (j := 13) C inG12 rfl (Nat.le_of_ble_eq_true rfl) tyX12 tyX12_ok nmX12 rfl rfl (tyX12_ok 13 (Nat.le_of_ble_eq_true rfl)) (al_at 931 (by decide +kernel) rfl) dX12_next_81 (fun _ _ _ _ _ _ h9 => h9)))))))))
    (S_aload_n C dX12_next_84 rfl (S_aload_n C dX12_next_85 rfl (S_getI (ci := 12) (j := 12) C inG12 rfl (Nat.le_of_ble_eq_true rfl) rfl (al_at 930 (by decide +kernel) rfl) dX12_next_86 (S_cV (ci := 12) C ok_X12_byteAt rfl (al_at 1247 (by decide +kernel) rfl) (Nat.le_of_ble_eq_true rfl) (Nat.le_of_ble_eq_true rfl) dX12_next_89 (S_bipush C dX12_next_92 (by decide +kernel) (S_bipush C dX12_next_94 (by decide +kernel) (S_cS C ok_X12_within (al_at 1005 (by decide +kernel) rfl) (Nat.le_of_ble_eq_true rfl) (Nat.le_of_ble_eq_true rfl) dX12_next_96 (S_ifeq (tgt := 206) C dX12_next_99 (by decide) (S_aload_n C dX12_next_102 rfl (S_dup C dX12_next_103 (S_getI (ci := 12) (j := 12) C inG12 rfl (Nat.le_of_ble_eq_true rfl) rfl (al_at 930 (by decide +kernel) rfl) dX12_next_104 (S_iconst C dX12_next_107 (by decide +kernel) (S_iadd C dX12_next_108 (S_putI (ci := 12) (j := 12) C inG12 rfl (Nat.le_of_ble_eq_true rfl) tyX12 tyX12_ok nmX12 rfl rfl (tyX12_ok 12 (Nat.le_of_ble_eq_true rfl)) (al_at 930 (by decide +kernel) rfl) dX12_next_109 (S_goto (tgt := 84) C dX12_next_112 (by decide))))))))))))))))
    (S_iload_n C dX12_next_115 rfl (S_bipush C dX12_next_116 (by decide +kernel) (S_bipush C dX12_next_118 (by decide +kernel) (S_cS C ok_X12_within (al_at 1005 (by decide +kernel) rfl) (Nat.le_of_ble_eq_true rfl) (Nat.le_of_ble_eq_true rfl) dX12_next_120 (S_ifeq (tgt := 191) C dX12_next_123 (by decide) (S_aload_n C dX12_next_126 rfl (S_iconst C dX12_next_127 (by decide +kernel) (S_putI (ci := 12) (j := 13) C inG12 rfl (Nat.le_of_ble_eq_true rfl) tyX12 tyX12_ok nmX12 rfl rfl (tyX12_ok 13 (Nat.le_of_ble_eq_true rfl)) (al_at 931 (by decide +kernel) rfl) dX12_next_128 (fun _ _ _ _ _ _ h9 => h9)))))))))
    (S_aload_n C dX12_next_131 rfl (S_aload_n C dX12_next_132 rfl (S_getI (ci := 12) (j := 12) C inG12 rfl (Nat.le_of_ble_eq_true rfl) rfl (al_at 930 (by decide +kernel) rfl) dX12_next_133 (S_cV (ci := 12) C ok_X12_byteAt rfl (al_at 1247 (by decide +kernel) rfl) (Nat.le_of_ble_eq_true rfl) (Nat.le_of_ble_eq_true rfl) dX12_next_136 (S_bipush C dX12_next_139 (by decide +kernel) (S_bipush C dX12_next_141 (by decide +kernel) (S_cS C ok_X12_within (al_at 1005 (by decide +kernel) rfl) (Nat.le_of_ble_eq_true rfl) (Nat.le_of_ble_eq_true rfl) dX12_next_143 (S_ifeq (tgt := 206) C dX12_next_146 (by decide) (S_aload_n C dX12_next_149 rfl (S_sipush C dX12_next_150 (by decide +kernel) (S_bipush C dX12_next_153 (by decide +kernel) (S_aload_n C dX12_next_155 rfl (S_getI (ci := 12) (j := 14) C inG12 rfl (Nat.le_of_ble_eq_true rfl) rfl (al_at 932 (by decide +kernel) rfl) dX12_next_156 (S_imul C dX12_next_159 (S_aload_n C dX12_next_160 rfl (S_aload_n C dX12_next_161 rfl (S_getI (ci := 12) (j := 12) C inG12 rfl (Nat.le_of_ble_eq_true rfl) rfl (al_at 930 (by decide +kernel) rfl) dX12_next_162 (S_cV (ci := 12) C ok_X12_byteAt rfl (al_at 1247 (by decide +kernel) rfl) (Nat.le_of_ble_eq_true rfl) (Nat.le_of_ble_eq_true rfl) dX12_next_165 (S_iadd C dX12_next_168 (S_bipush C dX12_next_169 (by decide +kernel) (S_isub C dX12_next_171 (S_mmin C (al_at 1098 (by decide +kernel) rfl) (al_at 658 (by decide +kernel) rfl) (al_at 73 (by decide +kernel) rfl) (al_at 659 (by decide +kernel) rfl) (Nat.le_of_ble_eq_true rfl) (Nat.le_of_ble_eq_true rfl) dX12_next_172 (S_putI (ci := 12) (j := 14) C inG12 rfl (Nat.le_of_ble_eq_true rfl) tyX12 tyX12_ok nmX12 rfl rfl (tyX12_ok 14 (Nat.le_of_ble_eq_true rfl)) (al_at 932 (by decide +kernel) rfl) dX12_next_175 (S_aload_n C dX12_next_178 rfl (S_dup C dX12_next_179 (S_getI (ci := 12) (j := 12) C inG12 rfl (Nat.le_of_ble_eq_true rfl) rfl (al_at 930 (by decide +kernel) rfl) dX12_next_180 (S_iconst C dX12_next_183 (by decide +kernel) (S_iadd C dX12_next_184 (S_putI (ci := 12) (j := 12) C inG12 rfl (Nat.le_of_ble_eq_true rfl) tyX12 tyX12_ok nmX12 rfl rfl (tyX12_ok 12 (Nat.le_of_ble_eq_true rfl)) (al_at 930 (by decide +kernel) rfl) dX12_next_185 (S_goto (tgt := 131) C dX12_next_188 (by decide)))))))))))))))))))))))))))))))
    (S_aload_n C dX12_next_191 rfl (S_iconst C dX12_next_192 (by decide +kernel) (S_putI (ci := 12) (j := 13) C inG12 rfl (Nat.le_of_ble_eq_true rfl) tyX12 tyX12_ok nmX12 rfl rfl (tyX12_ok 13 (Nat.le_of_ble_eq_true rfl)) (al_at 931 (by decide +kernel) rfl) dX12_next_193 (S_aload_n C dX12_next_196 rfl (S_dup C dX12_next_197 (S_getI (ci := 12) (j := 12) C inG12 rfl (Nat.le_of_ble_eq_true rfl) rfl (al_at 930 (by decide +kernel) rfl) dX12_next_198 (S_iconst C dX12_next_201 (by decide +kernel) (S_iadd C dX12_next_202 (S_putI (ci := 12) (j := 12) C inG12 rfl (Nat.le_of_ble_eq_true rfl) tyX12 tyX12_ok nmX12 rfl rfl (tyX12_ok 12 (Nat.le_of_ble_eq_true rfl)) (al_at 930 (by decide +kernel) rfl) dX12_next_203 (fun _ _ _ _ _ _ h9 => h9))))))))))
    (S_vret C hQ hr dX12_next_206))
theorem dX12_number_0 : decode cX12_number 0 = .ok (.aload_n 0, 1) := by decide +kernel
theorem dX12_number_1 : decode cX12_number 1 = .ok (.getfield 237, 3) := by decide +kernel
theorem dX12_number_4 : decode cX12_number 4 = .ok (.istore_n 3, 1) := by decide +kernel
theorem dX12_number_5 : decode cX12_number 5 = .ok (.aload_n 0, 1) := by decide +kernel
theorem dX12_number_6 : decode cX12_number 6 = .ok (.aload_n 0, 1) := by decide +kernel
theorem dX12_number_7 : decode cX12_number 7 = .ok (.getfield 240, 3) := by decide +kernel
theorem dX12_number_10 : decode cX12_number 10 = .ok (.iconst 2, 1) := by decide +kernel
theorem dX12_number_11 : decode cX12_number 11 = .ok (.if_icmp .ne 16, 3) := by decide +kernel
theorem dX12_number_14 : decode cX12_number 14 = .ok (.iload_n 3, 1) := by decide +kernel
theorem dX12_number_15 : decode cX12_number 15 = .ok (.iload_n 1, 1) := by decide +kernel
theorem dX12_number_16 : decode cX12_number 16 = .ok (.iload_n 2, 1) := by decide +kernel
theorem dX12_number_17 : decode cX12_number 17 = .ok (.invokestatic 81, 3) := by decide +kernel
theorem dX12_number_20 : decode cX12_number 20 = .ok (.ifCond .eq 7, 3) := by decide +kernel
theorem dX12_number_23 : decode cX12_number 23 = .ok (.iconst 1, 1) := by decide +kernel
theorem dX12_number_24 : decode cX12_number 24 = .ok (.goto 4, 3) := by decide +kernel
theorem dX12_number_27 : decode cX12_number 27 = .ok (.iconst 0, 1) := by decide +kernel
theorem dX12_number_28 : decode cX12_number 28 = .ok (.invokevirtual 256, 3) := by decide +kernel
theorem dX12_number_31 : decode cX12_number 31 = .ok (.iload_n 3, 1) := by decide +kernel
theorem dX12_number_32 : decode cX12_number 32 = .ok (.ireturn, 1) := by decide +kernel
def k_X12_number_0 (F : FT) (Q : QT) : KT := o_aload 0 (o_getI 12 14 (o_istore 3 (o_aload 0 (o_aload 0 (o_getI 12 13 (o_ic (nI 2) (o_icne (F 27) (o_iload 3 (o_iload 1 (o_iload 2 (o_cS m_X12_within 3 (o_ifeq (F 27) (o_ic (nI 1) (F 28))))))))))))))
def k_X12_number_27 (F : FT) (Q : QT) : KT := o_ic (nI 0) (F 28)
def k_X12_number_28 (F : FT) (Q : QT) : KT := o_cV 12 m_X12_must 2 (o_iload 3 (o_iret Q))
set_option maxRecDepth 20000 in
theorem r_X12_number {a0 : Nat} {a1 : Int32} {a2 : Int32} {n : Nat} {R : RR} {I : II} {J : JJ} {Q : QT} (hn : n + 0 ≤ 90) (h : ∀ F : FT, al_Wk F → al_Ok F (k_X12_number_0 F Q) 0 → al_Ok F (k_X12_number_27 F Q) 27 → al_Ok F (k_X12_number_28 F Q) 28 → F 0 [some (.ref a0), some (.int a1), some (.int a2), none] [] n R I J) : CT m_X12_number 0 [.ref a0, .int a1, .int a2] n R I J Q :=
  CT.of (by decide) hn (fun _ => rfl) (fun _ => Nat.le_of_ble_eq_true rfl) (fun F p l e s m args below meth c Rm t Q0 C hQ hr hm => h F (fun _ _ _ _ _ _ _ _ => S_wk C)
    (S_aload_n C dX12_number_0 rfl (S_getI (ci := 12) (j := 14) C inG12 rfl (Nat.le_of_ble_eq_true rfl) rfl (al_at 932 (by decide +kernel) rfl) dX12_number_1 (S_istore_n C dX12_number_4 rfl (Nat.le_of_ble_eq_true rfl) (S_aload_n C dX12_number_5 rfl (S_aload_n C dX12_number_6 rfl (S_getI (ci := 12) (j := 13) C inG12 rfl (Nat.le_of_ble_eq_true rfl) rfl (al_at 931 (by decide +kernel) rfl) dX12_number_7 (S_iconst C dX12_number_10 (by decide +kernel) (S_icmpne (tgt := 27) C dX12_number_11 (by decide) (S_iload_n C dX12_number_14 rfl (S_iload_n C dX12_number_15 rfl (S_iload_n C dX12_number_16 rfl (S_cS C ok_X12_within (al_at 1005 (by decide +kernel) rfl) (Nat.le_of_ble_eq_true rfl) (Nat.le_of_ble_eq_true rfl) dX12_number_17 (S_ifeq (tgt := 27) C dX12_number_20 (by decide) (S_iconst C dX12_number_23 (by decide +kernel) (S_goto (tgt := 28) C dX12_number_24 (by decide))))))))))))))))
    (S_iconst C dX12_number_27 (by decide +kernel) (fun _ _ _ _ _ _ h9 => h9))
    (S_cV (ci := 12) C ok_X12_must rfl (al_at 1265 (by decide +kernel) rfl) (Nat.le_of_ble_eq_true rfl) (Nat.le_of_ble_eq_true rfl) dX12_number_28 (S_iload_n C dX12_number_31 rfl (S_iret C hQ hr dX12_number_32))))
theorem dX12_readItem_0 : decode cX12_readItem 0 = .ok (.aload_n 0, 1) := by decide +kernel
theorem dX12_readItem_1 : decode cX12_readItem 1 = .ok (.aload_n 0, 1) := by decide +kernel
theorem dX12_readItem_2 : decode cX12_readItem 2 = .ok (.getfield 43, 3) := by decide +kernel
theorem dX12_readItem_5 : decode cX12_readItem 5 = .ok (.invokevirtual 272, 3) := by decide +kernel
theorem dX12_readItem_8 : decode cX12_readItem 8 = .ok (.istore_n 1, 1) := by decide +kernel
theorem dX12_readItem_9 : decode cX12_readItem 9 = .ok (.aload_n 0, 1) := by decide +kernel
theorem dX12_readItem_10 : decode cX12_readItem 10 = .ok (.aload_n 0, 1) := by decide +kernel
theorem dX12_readItem_11 : decode cX12_readItem 11 = .ok (.getfield 59, 3) := by decide +kernel
theorem dX12_readItem_14 : decode cX12_readItem 14 = .ok (.invokevirtual 272, 3) := by decide +kernel
theorem dX12_readItem_17 : decode cX12_readItem 17 = .ok (.istore_n 2, 1) := by decide +kernel
theorem dX12_readItem_18 : decode cX12_readItem 18 = .ok (.iload_n 1, 1) := by decide +kernel
theorem dX12_readItem_19 : decode cX12_readItem 19 = .ok (.ifCond .lt 22, 3) := by decide +kernel
theorem dX12_readItem_22 : decode cX12_readItem 22 = .ok (.aload_n 0, 1) := by decide +kernel
theorem dX12_readItem_23 : decode cX12_readItem 23 = .ok (.iconst 1, 1) := by decide +kernel
theorem dX12_readItem_24 : decode cX12_readItem 24 = .ok (.invokevirtual 256, 3) := by decide +kernel
theorem dX12_readItem_27 : decode cX12_readItem 27 = .ok (.aload_n 0, 1) := by decide +kernel
theorem dX12_readItem_28 : decode cX12_readItem 28 = .ok (.iload_n 1, 1) := by decide +kernel
theorem dX12_readItem_29 : decode cX12_readItem 29 = .ok (.iconst 0, 1) := by decide +kernel
theorem dX12_readItem_30 : decode cX12_readItem 30 = .ok (.iconst 0, 1) := by decide +kernel
theorem dX12_readItem_31 : decode cX12_readItem 31 = .ok (.aload_n 0, 1) := by decide +kernel
theorem dX12_readItem_32 : decode cX12_readItem 32 = .ok (.invokevirtual 276, 3) := by decide +kernel
theorem dX12_readItem_35 : decode cX12_readItem 35 = .ok (.invokevirtual 280, 3) := by decide +kernel
theorem dX12_readItem_38 : decode cX12_readItem 38 = .ok (.goto 158, 3) := by decide +kernel
theorem dX12_readItem_41 : decode cX12_readItem 41 = .ok (.iload_n 2, 1) := by decide +kernel
theorem dX12_readItem_42 : decode cX12_readItem 42 = .ok (.ifCond .lt 106, 3) := by decide +kernel
theorem dX12_readItem_45 : decode cX12_readItem 45 = .ok (.aload_n 0, 1) := by decide +kernel
theorem dX12_readItem_46 : decode cX12_readItem 46 = .ok (.aload_n 0, 1) := by decide +kernel
theorem dX12_readItem_47 : decode cX12_readItem 47 = .ok (.getfield 9, 3) := by decide +kernel
theorem dX12_readItem_50 : decode cX12_readItem 50 = .ok (.sipush 142, 3) := by decide +kernel
theorem dX12_readItem_53 : decode cX12_readItem 53 = .ok (.iaload, 1) := by decide +kernel
theorem dX12_readItem_54 : decode cX12_readItem 54 = .ok (.aload_n 0, 1) := by decide +kernel
theorem dX12_readItem_55 : decode cX12_readItem 55 = .ok (.getfield 284, 3) := by decide +kernel
theorem dX12_readItem_58 : decode cX12_readItem 58 = .ok (.iadd, 1) := by decide +kernel
theorem dX12_readItem_59 : decode cX12_readItem 59 = .ok (.bipush 6, 2) := by decide +kernel
theorem dX12_readItem_61 : decode cX12_readItem 61 = .ok (.if_icmp .ge 7, 3) := by decide +kernel
theorem dX12_readItem_64 : decode cX12_readItem 64 = .ok (.iconst 1, 1) := by decide +kernel
theorem dX12_readItem_65 : decode cX12_readItem 65 = .ok (.goto 4, 3) := by decide +kernel
theorem dX12_readItem_68 : decode cX12_readItem 68 = .ok (.iconst 0, 1) := by decide +kernel
theorem dX12_readItem_69 : decode cX12_readItem 69 = .ok (.invokevirtual 256, 3) := by decide +kernel
theorem dX12_readItem_72 : decode cX12_readItem 72 = .ok (.aload_n 0, 1) := by decide +kernel
theorem dX12_readItem_73 : decode cX12_readItem 73 = .ok (.dup, 1) := by decide +kernel
theorem dX12_readItem_74 : decode cX12_readItem 74 = .ok (.getfield 284, 3) := by decide +kernel
theorem dX12_readItem_77 : decode cX12_readItem 77 = .ok (.iconst 1, 1) := by decide +kernel
theorem dX12_readItem_78 : decode cX12_readItem 78 = .ok (.iadd, 1) := by decide +kernel
theorem dX12_readItem_79 : decode cX12_readItem 79 = .ok (.putfield 284, 3) := by decide +kernel
theorem dX12_readItem_82 : decode cX12_readItem 82 = .ok (.aload_n 0, 1) := by decide +kernel
theorem dX12_readItem_83 : decode cX12_readItem 83 = .ok (.iconst 1, 1) := by decide +kernel
theorem dX12_readItem_84 : decode cX12_readItem 84 = .ok (.bipush 99, 2) := by decide +kernel
theorem dX12_readItem_86 : decode cX12_readItem 86 = .ok (.invokevirtual 267, 3) := by decide +kernel
theorem dX12_readItem_89 : decode cX12_readItem 89 = .ok (.istore_n 3, 1) := by decide +kernel
theorem dX12_readItem_90 : decode cX12_readItem 90 = .ok (.aload_n 0, 1) := by decide +kernel
theorem dX12_readItem_91 : decode cX12_readItem 91 = .ok (.getfield 250, 3) := by decide +kernel
theorem dX12_readItem_94 : decode cX12_readItem 94 = .ok (.ifCond .ne 17, 3) := by decide +kernel
theorem dX12_readItem_97 : decode cX12_readItem 97 = .ok (.aload_n 0, 1) := by decide +kernel
theorem dX12_readItem_98 : decode cX12_readItem 98 = .ok (.ldc_w 287, 3) := by decide +kernel
theorem dX12_readItem_101 : decode cX12_readItem 101 = .ok (.invokevirtual 260, 3) := by decide +kernel
theorem dX12_readItem_104 : decode cX12_readItem 104 = .ok (.ifCond .eq 7, 3) := by decide +kernel
theorem dX12_readItem_107 : decode cX12_readItem 107 = .ok (.iconst 1, 1) := by decide +kernel
theorem dX12_readItem_108 : decode cX12_readItem 108 = .ok (.goto 4, 3) := by decide +kernel
theorem dX12_readItem_111 : decode cX12_readItem 111 = .ok (.iconst 0, 1) := by decide +kernel
theorem dX12_readItem_112 : decode cX12_readItem 112 = .ok (.istore 4, 2) := by decide +kernel
theorem dX12_readItem_114 : decode cX12_readItem 114 = .ok (.iload 4, 2) := by decide +kernel
theorem dX12_readItem_116 : decode cX12_readItem 116 = .ok (.ifCond .eq 8, 3) := by decide +kernel
theorem dX12_readItem_119 : decode cX12_readItem 119 = .ok (.aload_n 0, 1) := by decide +kernel
theorem dX12_readItem_120 : decode cX12_readItem 120 = .ok (.iconst 1, 1) := by decide +kernel
theorem dX12_readItem_121 : decode cX12_readItem 121 = .ok (.invokevirtual 256, 3) := by decide +kernel
theorem dX12_readItem_124 : decode cX12_readItem 124 = .ok (.aload_n 0, 1) := by decide +kernel
theorem dX12_readItem_125 : decode cX12_readItem 125 = .ok (.bipush 10, 2) := by decide +kernel
theorem dX12_readItem_127 : decode cX12_readItem 127 = .ok (.iload_n 2, 1) := by decide +kernel
theorem dX12_readItem_128 : decode cX12_readItem 128 = .ok (.iload_n 3, 1) := by decide +kernel
theorem dX12_readItem_129 : decode cX12_readItem 129 = .ok (.iload 4, 2) := by decide +kernel
theorem dX12_readItem_131 : decode cX12_readItem 131 = .ok (.ifCond .eq 10, 3) := by decide +kernel
theorem dX12_readItem_134 : decode cX12_readItem 134 = .ok (.aload_n 0, 1) := by decide +kernel
theorem dX12_readItem_135 : decode cX12_readItem 135 = .ok (.invokevirtual 276, 3) := by decide +kernel
theorem dX12_readItem_138 : decode cX12_readItem 138 = .ok (.goto 4, 3) := by decide +kernel
theorem dX12_readItem_141 : decode cX12_readItem 141 = .ok (.lconst 0, 1) := by decide +kernel
theorem dX12_readItem_142 : decode cX12_readItem 142 = .ok (.invokevirtual 280, 3) := by decide +kernel
theorem dX12_readItem_145 : decode cX12_readItem 145 = .ok (.goto 51, 3) := by decide +kernel
theorem dX12_readItem_148 : decode cX12_readItem 148 = .ok (.aload_n 0, 1) := by decide +kernel
theorem dX12_readItem_149 : decode cX12_readItem 149 = .ok (.aload_n 0, 1) := by decide +kernel
theorem dX12_readItem_150 : decode cX12_readItem 150 = .ok (.ldc_w 289, 3) := by decide +kernel
theorem dX12_readItem_153 : decode cX12_readItem 153 = .ok (.invokevirtual 260, 3) := by decide +kernel
theorem dX12_readItem_156 : decode cX12_readItem 156 = .ok (.invokevirtual 256, 3) := by decide +kernel
theorem dX12_readItem_159 : decode cX12_readItem 159 = .ok (.aload_n 0, 1) := by decide +kernel
theorem dX12_readItem_160 : decode cX12_readItem 160 = .ok (.iconst 0, 1) := by decide +kernel
theorem dX12_readItem_161 : decode cX12_readItem 161 = .ok (.aload_n 0, 1) := by decide +kernel
theorem dX12_readItem_162 : decode cX12_readItem 162 = .ok (.getfield 9, 3) := by decide +kernel
theorem dX12_readItem_165 : decode cX12_readItem 165 = .ok (.sipush 142, 3) := by decide +kernel
theorem dX12_readItem_168 : decode cX12_readItem 168 = .ok (.iaload, 1) := by decide +kernel
theorem dX12_readItem_169 : decode cX12_readItem 169 = .ok (.aload_n 0, 1) := by decide +kernel
theorem dX12_readItem_170 : decode cX12_readItem 170 = .ok (.getfield 284, 3) := by decide +kernel
theorem dX12_readItem_173 : decode cX12_readItem 173 = .ok (.iadd, 1) := by decide +kernel
theorem dX12_readItem_174 : decode cX12_readItem 174 = .ok (.iconst 1, 1) := by decide +kernel
theorem dX12_readItem_175 : decode cX12_readItem 175 = .ok (.isub, 1) := by decide +kernel
theorem dX12_readItem_176 : decode cX12_readItem 176 = .ok (.invokevirtual 267, 3) := by decide +kernel
theorem dX12_readItem_179 : decode cX12_readItem 179 = .ok (.istore_n 3, 1) := by decide +kernel
theorem dX12_readItem_180 : decode cX12_readItem 180 = .ok (.aload_n 0, 1) := by decide +kernel
theorem dX12_readItem_181 : decode cX12_readItem 181 = .ok (.bipush 11, 2) := by decide +kernel
theorem dX12_readItem_183 : decode cX12_readItem 183 = .ok (.iload_n 3, 1) := by decide +kernel
theorem dX12_readItem_184 : decode cX12_readItem 184 = .ok (.aload_n 0, 1) := by decide +kernel
theorem dX12_readItem_185 : decode cX12_readItem 185 = .ok (.iconst 0, 1) := by decide +kernel
theorem dX12_readItem_186 : decode cX12_readItem 186 = .ok (.sipush 9999, 3) := by decide +kernel
theorem dX12_readItem_189 : decode cX12_readItem 189 = .ok (.invokevirtual 267, 3) := by decide +kernel
theorem dX12_readItem_192 : decode cX12_readItem 192 = .ok (.lconst 0, 1) := by decide +kernel
theorem dX12_readItem_193 : decode cX12_readItem 193 = .ok (.invokevirtual 280, 3) := by decide +kernel
theorem dX12_readItem_196 : decode cX12_readItem 196 = .ok (.return_, 1) := by decide +kernel
def k_X12_readItem_0 (F : FT) (Q : QT) : KT := o_aload 0 (o_aload 0 (o_getR 12 16 (o_cV 12 m_X12_which 2 (o_istore 1 (o_aload 0 (o_aload 0 (o_getR 12 17 (o_cV 12 m_X12_which 2 (o_istore 2 (o_iload 1 (o_iflt (F 41) (o_aload 0 (o_ic (nI 1) (o_cV 12 m_X12_must 2 (o_aload 0 (o_iload 1 (o_ic (nI 0) (o_ic (nI 0) (o_aload 0 (o_cV 12 m_X12_squares 1 (o_cV 12 m_X12_item 5 (F 196))))))))))))))))))))))
def k_X12_readItem_41 (F : FT) (Q : QT) : KT := o_iload 2 (o_iflt (F 148) (o_aload 0 (o_aload 0 (o_getR 12 0 (o_ic (nI 142) (o_iald (o_aload 0 (o_getI 12 21 (o_iadd (o_ic (nI 6) (o_icge (F 68) (o_ic (nI 1) (F 69)))))))))))))
def k_X12_readItem_68 (F : FT) (Q : QT) : KT := o_ic (nI 0) (F 69)
def k_X12_readItem_69 (F : FT) (Q : QT) : KT := o_cV 12 m_X12_must 2 (o_aload 0 (o_dup (o_getI 12 21 (o_ic (nI 1) (o_iadd (o_putI 12 21 (o_aload 0 (o_ic (nI 1) (o_ic (nI 99) (o_cV 12 m_X12_number 3 (o_istore 3 (o_aload 0 (o_getI 12 15 (o_ifne (F 111) (o_aload 0 (o_sc 11 (o_cV 12 m_X12_isWord 2 (o_ifeq (F 111) (o_ic (nI 1) (F 112))))))))))))))))))))
def k_X12_readItem_111 (F : FT) (Q : QT) : KT := o_ic (nI 0) (F 112)
def k_X12_readItem_112 (F : FT) (Q : QT) : KT := o_istore 4 (o_iload 4 (o_ifeq (F 124) (o_aload 0 (o_ic (nI 1) (o_cV 12 m_X12_must 2 (F 124))))))
def k_X12_readItem_124 (F : FT) (Q : QT) : KT := o_aload 0 (o_ic (nI 10) (o_iload 2 (o_iload 3 (o_iload 4 (o_ifeq (F 141) (o_aload 0 (o_cV 12 m_X12_squares 1 (F 142))))))))
def k_X12_readItem_141 (F : FT) (Q : QT) : KT := o_lc (lN 0) (F 142)
def k_X12_readItem_142 (F : FT) (Q : QT) : KT := o_cV 12 m_X12_item 5 (F 196)
def k_X12_readItem_148 (F : FT) (Q : QT) : KT := o_aload 0 (o_aload 0 (o_sc 10 (o_cV 12 m_X12_isWord 2 (o_cV 12 m_X12_must 2 (o_aload 0 (o_ic (nI 0) (o_aload 0 (o_getR 12 0 (o_ic (nI 142) (o_iald (o_aload 0 (o_getI 12 21 (o_iadd (o_ic (nI 1) (o_isub (o_cV 12 m_X12_number 3 (o_istore 3 (o_aload 0 (o_ic (nI 11) (o_iload 3 (o_aload 0 (o_ic (nI 0) (o_ic (nI 9999) (o_cV 12 m_X12_number 3 (o_lc (lN 0) (o_cV 12 m_X12_item 5 (F 196)))))))))))))))))))))))))))
def k_X12_readItem_196 (F : FT) (Q : QT) : KT := o_vret Q
set_option maxRecDepth 20000 in
theorem r_X12_readItem {a0 : Nat} {n : Nat} {R : RR} {I : II} {J : JJ} {Q : QT} (hn : n + 0 ≤ 90) (h : ∀ F : FT, al_Wk F → al_Ok F (k_X12_readItem_0 F Q) 0 → al_Ok F (k_X12_readItem_41 F Q) 41 → al_Ok F (k_X12_readItem_68 F Q) 68 → al_Ok F (k_X12_readItem_69 F Q) 69 → al_Ok F (k_X12_readItem_111 F Q) 111 → al_Ok F (k_X12_readItem_112 F Q) 112 → al_Ok F (k_X12_readItem_124 F Q) 124 → al_Ok F (k_X12_readItem_141 F Q) 141 → al_Ok F (k_X12_readItem_142 F Q) 142 → al_Ok F (k_X12_readItem_148 F Q) 148 → al_Ok F (k_X12_readItem_196 F Q) 196 → F 0 [some (.ref a0), none, none, none, none] [] n R I J) : CT m_X12_readItem 0 [.ref a0] n R I J Q :=
  CT.of (by decide) hn (fun _ => rfl) (fun _ => Nat.le_of_ble_eq_true rfl) (fun F p l e s m args below meth c Rm t Q0 C hQ hr hm => h F (fun _ _ _ _ _ _ _ _ => S_wk C)
    (S_aload_n C dX12_readItem_0 rfl (S_aload_n C dX12_readItem_1 rfl (S_getR (ci := 12) (j := 16) C inG12 rfl (Nat.le_of_ble_eq_true rfl) rfl (al_at 934 (by decide +kernel) rfl) dX12_readItem_2 (S_cV (ci := 12) C ok_X12_which rfl (al_at 1255 (by decide +kernel) rfl) (Nat.le_of_ble_eq_true rfl) (Nat.le_of_ble_eq_true rfl) dX12_readItem_5 (S_istore_n C dX12_readItem_8 rfl (Nat.le_of_ble_eq_true rfl) (S_aload_n C dX12_readItem_9 rfl (S_aload_n C dX12_readItem_10 rfl (S_getR (ci := 12) (j := 17) C inG12 rfl (Nat.le_of_ble_eq_true rfl) rfl (al_at 935 (by decide +kernel) rfl) dX12_readItem_11 (S_cV (ci := 12) C ok_X12_which rfl (al_at 1255 (by decide +kernel) rfl) (Nat.le_of_ble_eq_true rfl) (Nat.le_of_ble_eq_true rfl) dX12_readItem_14 (S_istore_n C dX12_readItem_17 rfl (Nat.le_of_ble_eq_true rfl) (S_iload_n C dX12_readItem_18 rfl (S_iflt (tgt := 41) C dX12_readItem_19 (by decide) (S_aload_n C dX12_readItem_22 rfl (S_iconst C dX12_readItem_23 (by decide +kernel) (S_cV (ci := 12) C ok_X12_must rfl (al_at 1265 (by decide +kernel) rfl) (Nat.le_of_ble_eq_true rfl) (Nat.le_of_ble_eq_true rfl) dX12_readItem_24 (S_aload_n C dX12_readItem_27 rfl (S_iload_n C dX12_readItem_28 rfl (S_iconst C dX12_readItem_29 (by decide +kernel) (S_iconst C dX12_readItem_30 (by decide +kernel) (S_aload_n C dX12_readItem_31 rfl (S_cV (ci := 12) C ok_X12_squares rfl (al_at 1269 (by decide +kernel) rfl) (Nat.le_of_ble_eq_true rfl) (Nat.le_of_ble_eq_true rfl) dX12_readItem_32 (S_cV (ci := 12) C ok_X12_item rfl (al_at 1278 (by decide +kernel) rfl) (Nat.le_of_ble_eq_true rfl) (Nat.le_of_ble_eq_true rfl) dX12_readItem_35 (S_goto (tgt := 196) C dX12_readItem_38 (by decide))))))))))))))))))))))))
    (S_iload_n C dX12_readItem_41 rfl (S_iflt (tgt := 148) C dX12_readItem_42 (by decide) (S_aload_n C dX12_readItem_45 rfl (S_aload_n C dX12_readItem_46 rfl (S_getR (ci := 12) (j := 0) C inG12 rfl (Nat.le_of_ble_eq_true rfl) rfl (al_at 918 (by decide +kernel) rfl) dX12_readItem_47 (S_sipush C dX12_readItem_50 (by decide +kernel) (S_iald C dX12_readItem_53 (S_aload_n C dX12_readItem_54 rfl (S_getI (ci := 12) (j := 21) C inG12 rfl (Nat.le_of_ble_eq_true rfl) rfl (al_at 939 (by decide +kernel) rfl) dX12_readItem_55 (S_iadd C dX12_readItem_58 (S_bipush C dX12_readItem_59 (by decide +kernel) (S_icmpge (tgt := 68) C dX12_readItem_61 (by decide) (S_iconst C dX12_readItem_64 (by decide +kernel) (S_goto (tgt := 69) C dX12_readItem_65 (by decide)))))))))))))))
    (S_iconst C dX12_readItem_68 (by decide +kernel) (fun _ _ _ _ _ _ h9 => h9))
    (S_cV (ci := 12) C ok_X12_must rfl (al_at 1265 (by decide +kernel) rfl) (Nat.le_of_ble_eq_true rfl) (Nat.le_of_ble_eq_true rfl) dX12_readItem_69 (S_aload_n C dX12_readItem_72 rfl (S_dup C dX12_readItem_73 (S_getI (ci := 12) (j := 21) C inG12 rfl (Nat.le_of_ble_eq_true rfl) rfl (al_at 939 (by decide +kernel) rfl) dX12_readItem_74 (S_iconst C dX12_readItem_77 (by decide +kernel) (S_iadd C dX12_readItem_78 (S_putI (ci := 12) (j := 21) C inG12 rfl (Nat.le_of_ble_eq_true rfl) tyX12 tyX12_ok nmX12 rfl rfl (tyX12_ok 21 (Nat.le_of_ble_eq_true rfl)) (al_at 939 (by decide +kernel) rfl) dX12_readItem_79 (S_aload_n C dX12_readItem_82 rfl (S_iconst C dX12_readItem_83 (by decide +kernel) (S_bipush C dX12_readItem_84 (by decide +kernel) (S_cV (ci := 12) C ok_X12_number rfl (al_at 1273 (by decide +kernel) rfl) (Nat.le_of_ble_eq_true rfl) (Nat.le_of_ble_eq_true rfl) dX12_readItem_86 (S_istore_n C dX12_readItem_89 rfl (Nat.le_of_ble_eq_true rfl) (S_aload_n C dX12_readItem_90 rfl (S_getZ (ci := 12) (j := 15) C inG12 rfl (Nat.le_of_ble_eq_true rfl) rfl (al_at 933 (by decide +kernel) rfl) dX12_readItem_91 (S_ifne (tgt := 111) C dX12_readItem_94 (by decide) (S_aload_n C dX12_readItem_97 rfl (S_ldcSw (tx := "on") C (by decide) dX12_readItem_98 (by decide +kernel) (S_cV (ci := 12) C ok_X12_isWord rfl (al_at 1259 (by decide +kernel) rfl) (Nat.le_of_ble_eq_true rfl) (Nat.le_of_ble_eq_true rfl) dX12_readItem_101 (S_ifeq (tgt := 111) C dX12_readItem_104 (by decide) (S_iconst C dX12_readItem_107 (by decide +kernel) (S_goto (tgt := 112) C dX12_readItem_108 (by decide))))))))))))))))))))))
    (S_iconst C dX12_readItem_111 (by decide +kernel) (fun _ _ _ _ _ _ h9 => h9))
    (S_istore C dX12_readItem_112 (Nat.le_of_ble_eq_true rfl) (S_iload C dX12_readItem_114 (S_ifeq (tgt := 124) C dX12_readItem_116 (by decide) (S_aload_n C dX12_readItem_119 rfl (S_iconst C dX12_readItem_120 (by decide +kernel) (S_cV (ci := 12) C ok_X12_must rfl (al_at 1265 (by decide +kernel) rfl) (Nat.le_of_ble_eq_true rfl) (Nat.le_of_ble_eq_true rfl) dX12_readItem_121 (fun _ _ _ _ _ _ h9 => h9)))))))
    (S_aload_n C dX12_readItem_124 rfl (S_bipush C dX12_readItem_125 (by decide +kernel) (S_iload_n C dX12_readItem_127 rfl (S_iload_n C dX12_readItem_128 rfl (S_iload C dX12_readItem_129 (S_ifeq (tgt := 141) C dX12_readItem_131 (by decide) (S_aload_n C dX12_readItem_134 rfl (S_cV (ci := 12) C ok_X12_squares rfl (al_at 1269 (by decide +kernel) rfl) (Nat.le_of_ble_eq_true rfl) (Nat.le_of_ble_eq_true rfl) dX12_readItem_135 (S_goto (tgt := 142) C dX12_readItem_138 (by decide))))))))))
    (S_lconst C dX12_readItem_141 (by decide +kernel) (fun _ _ _ _ _ _ h9 => h9))
    (S_cV (ci := 12) C ok_X12_item rfl (al_at 1278 (by decide +kernel) rfl) (Nat.le_of_ble_eq_true rfl) (Nat.le_of_ble_eq_true rfl) dX12_readItem_142 (S_goto (tgt := 196) C dX12_readItem_145 (by decide)))
    (S_aload_n C dX12_readItem_148 rfl (S_aload_n C dX12_readItem_149 rfl (S_ldcSw (tx := "rich") C (by decide) dX12_readItem_150 (by decide +kernel) (S_cV (ci := 12) C ok_X12_isWord rfl (al_at 1259 (by decide +kernel) rfl) (Nat.le_of_ble_eq_true rfl) (Nat.le_of_ble_eq_true rfl) dX12_readItem_153 (S_cV (ci := 12) C ok_X12_must rfl (al_at 1265 (by decide +kernel) rfl) (Nat.le_of_ble_eq_true rfl) (Nat.le_of_ble_eq_true rfl) dX12_readItem_156 (S_aload_n C dX12_readItem_159 rfl (S_iconst C dX12_readItem_160 (by decide +kernel) (S_aload_n C dX12_readItem_161 rfl (S_getR (ci := 12) (j := 0) C inG12 rfl (Nat.le_of_ble_eq_true rfl) rfl (al_at 918 (by decide +kernel) rfl) dX12_readItem_162 (S_sipush C dX12_readItem_165 (by decide +kernel) (S_iald C dX12_readItem_168 (S_aload_n C dX12_readItem_169 rfl (S_getI (ci := 12) (j := 21) C inG12 rfl (Nat.le_of_ble_eq_true rfl) rfl (al_at 939 (by decide +kernel) rfl) dX12_readItem_170 (S_iadd C dX12_readItem_173 (S_iconst C dX12_readItem_174 (by decide +kernel) (S_isub C dX12_readItem_175 (S_cV (ci := 12) C ok_X12_number rfl (al_at 1273 (by decide +kernel) rfl) (Nat.le_of_ble_eq_true rfl) (Nat.le_of_ble_eq_true rfl) dX12_readItem_176 (S_istore_n C dX12_readItem_179 rfl (Nat.le_of_ble_eq_true rfl) (S_aload_n C dX12_readItem_180 rfl (S_bipush C dX12_readItem_181 (by decide +kernel) (S_iload_n C dX12_readItem_183 rfl (S_aload_n C dX12_readItem_184 rfl (S_iconst C dX12_readItem_185 (by decide +kernel) (S_sipush C dX12_readItem_186 (by decide +kernel) (S_cV (ci := 12) C ok_X12_number rfl (al_at 1273 (by decide +kernel) rfl) (Nat.le_of_ble_eq_true rfl) (Nat.le_of_ble_eq_true rfl) dX12_readItem_189 (S_lconst C dX12_readItem_192 (by decide +kernel) (S_cV (ci := 12) C ok_X12_item rfl (al_at 1278 (by decide +kernel) rfl) (Nat.le_of_ble_eq_true rfl) (Nat.le_of_ble_eq_true rfl) dX12_readItem_193 (fun _ _ _ _ _ _ h9 => h9))))))))))))))))))))))))))))
    (S_vret C hQ hr dX12_readItem_196))
theorem dX12_squares_0 : decode cX12_squares 0 = .ok (.aload_n 0, 1) := by decide +kernel
theorem dX12_squares_1 : decode cX12_squares 1 = .ok (.iconst 0, 1) := by decide +kernel
theorem dX12_squares_2 : decode cX12_squares 2 = .ok (.bipush 63, 2) := by decide +kernel
theorem dX12_squares_4 : decode cX12_squares 4 = .ok (.invokevirtual 267, 3) := by decide +kernel
theorem dX12_squares_7 : decode cX12_squares 7 = .ok (.istore_n 1, 1) := by decide +kernel
theorem dX12_squares_8 : decode cX12_squares 8 = .ok (.aload_n 0, 1) := by decide +kernel
theorem dX12_squares_9 : decode cX12_squares 9 = .ok (.getfield 250, 3) := by decide +kernel
theorem dX12_squares_12 : decode cX12_squares 12 = .ok (.ifCond .eq 7, 3) := by decide +kernel
theorem dX12_squares_15 : decode cX12_squares 15 = .ok (.lconst 0, 1) := by decide +kernel
theorem dX12_squares_16 : decode cX12_squares 16 = .ok (.goto 6, 3) := by decide +kernel
theorem dX12_squares_19 : decode cX12_squares 19 = .ok (.lconst 1, 1) := by decide +kernel
theorem dX12_squares_20 : decode cX12_squares 20 = .ok (.iload_n 1, 1) := by decide +kernel
theorem dX12_squares_21 : decode cX12_squares 21 = .ok (.lshl, 1) := by decide +kernel
theorem dX12_squares_22 : decode cX12_squares 22 = .ok (.lstore_n 2, 1) := by decide +kernel
theorem dX12_squares_23 : decode cX12_squares 23 = .ok (.aload_n 0, 1) := by decide +kernel
theorem dX12_squares_24 : decode cX12_squares 24 = .ok (.getfield 250, 3) := by decide +kernel
theorem dX12_squares_27 : decode cX12_squares 27 = .ok (.ifCond .ne 41, 3) := by decide +kernel
theorem dX12_squares_30 : decode cX12_squares 30 = .ok (.aload_n 0, 1) := by decide +kernel
theorem dX12_squares_31 : decode cX12_squares 31 = .ok (.getfield 240, 3) := by decide +kernel
theorem dX12_squares_34 : decode cX12_squares 34 = .ok (.iconst 2, 1) := by decide +kernel
theorem dX12_squares_35 : decode cX12_squares 35 = .ok (.if_icmp .ne 33, 3) := by decide +kernel
theorem dX12_squares_38 : decode cX12_squares 38 = .ok (.aload_n 0, 1) := by decide +kernel
theorem dX12_squares_39 : decode cX12_squares 39 = .ok (.iload_n 1, 1) := by decide +kernel
theorem dX12_squares_40 : decode cX12_squares 40 = .ok (.iconst 1, 1) := by decide +kernel
theorem dX12_squares_41 : decode cX12_squares 41 = .ok (.iadd, 1) := by decide +kernel
theorem dX12_squares_42 : decode cX12_squares 42 = .ok (.bipush 63, 2) := by decide +kernel
theorem dX12_squares_44 : decode cX12_squares 44 = .ok (.invokevirtual 267, 3) := by decide +kernel
theorem dX12_squares_47 : decode cX12_squares 47 = .ok (.istore_n 1, 1) := by decide +kernel
theorem dX12_squares_48 : decode cX12_squares 48 = .ok (.lload_n 2, 1) := by decide +kernel
theorem dX12_squares_49 : decode cX12_squares 49 = .ok (.aload_n 0, 1) := by decide +kernel
theorem dX12_squares_50 : decode cX12_squares 50 = .ok (.getfield 250, 3) := by decide +kernel
theorem dX12_squares_53 : decode cX12_squares 53 = .ok (.ifCond .eq 7, 3) := by decide +kernel
theorem dX12_squares_56 : decode cX12_squares 56 = .ok (.lconst 0, 1) := by decide +kernel
theorem dX12_squares_57 : decode cX12_squares 57 = .ok (.goto 6, 3) := by decide +kernel
theorem dX12_squares_60 : decode cX12_squares 60 = .ok (.lconst 1, 1) := by decide +kernel
theorem dX12_squares_61 : decode cX12_squares 61 = .ok (.iload_n 1, 1) := by decide +kernel
theorem dX12_squares_62 : decode cX12_squares 62 = .ok (.lshl, 1) := by decide +kernel
theorem dX12_squares_63 : decode cX12_squares 63 = .ok (.lor, 1) := by decide +kernel
theorem dX12_squares_64 : decode cX12_squares 64 = .ok (.lstore_n 2, 1) := by decide +kernel
theorem dX12_squares_65 : decode cX12_squares 65 = .ok (.goto (-42), 3) := by decide +kernel
theorem dX12_squares_68 : decode cX12_squares 68 = .ok (.aload_n 0, 1) := by decide +kernel
theorem dX12_squares_69 : decode cX12_squares 69 = .ok (.getfield 250, 3) := by decide +kernel
theorem dX12_squares_72 : decode cX12_squares 72 = .ok (.ifCond .ne 61, 3) := by decide +kernel
theorem dX12_squares_75 : decode cX12_squares 75 = .ok (.aload_n 0, 1) := by decide +kernel
theorem dX12_squares_76 : decode cX12_squares 76 = .ok (.ldc_w 270, 3) := by decide +kernel
theorem dX12_squares_79 : decode cX12_squares 79 = .ok (.invokevirtual 260, 3) := by decide +kernel
theorem dX12_squares_82 : decode cX12_squares 82 = .ok (.ifCond .eq 51, 3) := by decide +kernel
theorem dX12_squares_85 : decode cX12_squares 85 = .ok (.aload_n 0, 1) := by decide +kernel
theorem dX12_squares_86 : decode cX12_squares 86 = .ok (.iconst 1, 1) := by decide +kernel
theorem dX12_squares_87 : decode cX12_squares 87 = .ok (.invokevirtual 256, 3) := by decide +kernel
theorem dX12_squares_90 : decode cX12_squares 90 = .ok (.aload_n 0, 1) := by decide +kernel
theorem dX12_squares_91 : decode cX12_squares 91 = .ok (.iload_n 1, 1) := by decide +kernel
theorem dX12_squares_92 : decode cX12_squares 92 = .ok (.iconst 1, 1) := by decide +kernel
theorem dX12_squares_93 : decode cX12_squares 93 = .ok (.iadd, 1) := by decide +kernel
theorem dX12_squares_94 : decode cX12_squares 94 = .ok (.bipush 63, 2) := by decide +kernel
theorem dX12_squares_96 : decode cX12_squares 96 = .ok (.invokevirtual 267, 3) := by decide +kernel
theorem dX12_squares_99 : decode cX12_squares 99 = .ok (.istore 4, 2) := by decide +kernel
theorem dX12_squares_101 : decode cX12_squares 101 = .ok (.iload_n 1, 1) := by decide +kernel
theorem dX12_squares_102 : decode cX12_squares 102 = .ok (.iconst 1, 1) := by decide +kernel
theorem dX12_squares_103 : decode cX12_squares 103 = .ok (.iadd, 1) := by decide +kernel
theorem dX12_squares_104 : decode cX12_squares 104 = .ok (.istore 5, 2) := by decide +kernel
theorem dX12_squares_106 : decode cX12_squares 106 = .ok (.iload 5, 2) := by decide +kernel
theorem dX12_squares_108 : decode cX12_squares 108 = .ok (.iload 4, 2) := by decide +kernel
theorem dX12_squares_110 : decode cX12_squares 110 = .ok (.if_icmp .gt 23, 3) := by decide +kernel
theorem dX12_squares_113 : decode cX12_squares 113 = .ok (.aload_n 0, 1) := by decide +kernel
theorem dX12_squares_114 : decode cX12_squares 114 = .ok (.getfield 250, 3) := by decide +kernel
theorem dX12_squares_117 : decode cX12_squares 117 = .ok (.ifCond .ne 16, 3) := by decide +kernel
theorem dX12_squares_120 : decode cX12_squares 120 = .ok (.lload_n 2, 1) := by decide +kernel
theorem dX12_squares_121 : decode cX12_squares 121 = .ok (.lconst 1, 1) := by decide +kernel
theorem dX12_squares_122 : decode cX12_squares 122 = .ok (.iload 5, 2) := by decide +kernel
theorem dX12_squares_124 : decode cX12_squares 124 = .ok (.lshl, 1) := by decide +kernel
theorem dX12_squares_125 : decode cX12_squares 125 = .ok (.lor, 1) := by decide +kernel
theorem dX12_squares_126 : decode cX12_squares 126 = .ok (.lstore_n 2, 1) := by decide +kernel
theorem dX12_squares_127 : decode cX12_squares 127 = .ok (.iinc 5 1, 3) := by decide +kernel
theorem dX12_squares_130 : decode cX12_squares 130 = .ok (.goto (-24), 3) := by decide +kernel
theorem dX12_squares_133 : decode cX12_squares 133 = .ok (.lload_n 2, 1) := by decide +kernel
theorem dX12_squares_134 : decode cX12_squares 134 = .ok (.lreturn, 1) := by decide +kernel
def k_X12_squares_0 (F : FT) (Q : QT) : KT := o_aload 0 (o_ic (nI 0) (o_ic (nI 63) (o_cV 12 m_X12_number 3 (o_istore 1 (o_aload 0 (o_getI 12 15 (o_ifeq (F 19) (o_lc (lN 0) (F 22)))))))))
def k_X12_squares_19 (F : FT) (Q : QT) : KT := o_lc (lN 1) (o_iload 1 (o_lshl (F 22)))
def k_X12_squares_22 (F : FT) (Q : QT) : KT := o_lstore 2 (F 23)
def k_X12_squares_23 (F : FT) (Q : QT) : KT := o_aload 0 (o_getI 12 15 (o_ifne (F 68) (o_aload 0 (o_getI 12 13 (o_ic (nI 2) (o_icne (F 68) (o_aload 0 (o_iload 1 (o_ic (nI 1) (o_iadd (o_ic (nI 63) (o_cV 12 m_X12_number 3 (o_istore 1 (o_lload 2 (o_aload 0 (o_getI 12 15 (o_ifeq (F 60) (o_lc (lN 0) (F 63)))))))))))))))))))
def k_X12_squares_60 (F : FT) (Q : QT) : KT := o_lc (lN 1) (o_iload 1 (o_lshl (F 63)))
def k_X12_squares_63 (F : FT) (Q : QT) : KT := o_lor (o_lstore 2 (F 23))
def k_X12_squares_68 (F : FT) (Q : QT) : KT := o_aload 0 (o_getI 12 15 (o_ifne (F 133) (o_aload 0 (o_sc 12 (o_cV 12 m_X12_isWord 2 (o_ifeq (F 133) (o_aload 0 (o_ic (nI 1) (o_cV 12 m_X12_must 2 (o_aload 0 (o_iload 1 (o_ic (nI 1) (o_iadd (o_ic (nI 63) (o_cV 12 m_X12_number 3 (o_istore 4 (o_iload 1 (o_ic (nI 1) (o_iadd (o_istore 5 (F 106)))))))))))))))))))))
def k_X12_squares_106 (F : FT) (Q : QT) : KT := o_iload 5 (o_iload 4 (o_icgt (F 133) (o_aload 0 (o_getI 12 15 (o_ifne (F 133) (o_lload 2 (o_lc (lN 1) (o_iload 5 (o_lshl (o_lor (o_lstore 2 (o_iinc 5 (nI 1) (F 106)))))))))))))
def k_X12_squares_133 (F : FT) (Q : QT) : KT := o_lload 2 (o_lret Q)
set_option maxRecDepth 20000 in
theorem r_X12_squares {a0 : Nat} {n : Nat} {R : RR} {I : II} {J : JJ} {Q : QT} (hn : n + 0 ≤ 90) (h : ∀ F : FT, al_Wk F → al_Ok F (k_X12_squares_0 F Q) 0 → al_Ok F (k_X12_squares_19 F Q) 19 → al_Ok F (k_X12_squares_22 F Q) 22 → al_Ok F (k_X12_squares_23 F Q) 23 → al_Ok F (k_X12_squares_60 F Q) 60 → al_Ok F (k_X12_squares_63 F Q) 63 → al_Ok F (k_X12_squares_68 F Q) 68 → al_Ok F (k_X12_squares_106 F Q) 106 → al_Ok F (k_X12_squares_133 F Q) 133 → F 0 [some (.ref a0), none, none, none, none, none] [] n R I J) : CT m_X12_squares 0 [.ref a0] n R I J Q :=
  CT.of (by decide) hn (fun _ => rfl) (fun _ => Nat.le_of_ble_eq_true rfl) (fun F p l e s m args below meth c Rm t Q0 C hQ hr hm => h F (fun _ _ _ _ _ _ _ _ => S_wk C)
    (S_aload_n C dX12_squares_0 rfl (S_iconst C dX12_squares_1 (by decide +kernel) (S_bipush C dX12_squares_2 (by decide +kernel) (S_cV (ci := 12) C ok_X12_number rfl (al_at 1273 (by decide +kernel) rfl) (Nat.le_of_ble_eq_true rfl) (Nat.le_of_ble_eq_true rfl) dX12_squares_4 (S_istore_n C dX12_squares_7 rfl (Nat.le_of_ble_eq_true rfl) (S_aload_n C dX12_squares_8 rfl (S_getZ (ci := 12) (j := 15) C inG12 rfl (Nat.le_of_ble_eq_true rfl) rfl (al_at 933 (by decide +kernel) rfl) dX12_squares_9 (S_ifeq (tgt := 19) C dX12_squares_12 (by decide) (S_lconst C dX12_squares_15 (by decide +kernel) (S_goto (tgt := 22) C dX12_squares_16 (by decide)))))))))))
    (S_lconst C dX12_squares_19 (by decide +kernel) (S_iload_n C dX12_squares_20 rfl (S_lshl C dX12_squares_21 (fun _ _ _ _ _ _ h9 => h9))))
    (S_lstore_n C dX12_squares_22 rfl (Nat.le_of_ble_eq_true rfl) (fun _ _ _ _ _ _ h9 => h9))
    (S_aload_n C dX12_squares_23 rfl (S_getZ (ci := 12) (j := 15) C inG12 rfl (Nat.le_of_ble_eq_true rfl) rfl (al_at 933 (by decide +kernel) rfl) dX12_squares_24 (S_ifne (tgt := 68) C dX12_squares_27 (by decide) (S_aload_n C dX12_squares_30 rfl (S_getI (ci := 12) (j := 13) C inG12 rfl (Nat.le_of_ble_eq_true rfl) rfl (al_at 931 (by decide +kernel) rfl) dX12_squares_31 (S_iconst C dX12_squares_34 (by decide +kernel) (S_icmpne (tgt := 68) C dX12_squares_35 (by decide) (S_aload_n C dX12_squares_38 rfl (S_iload_n C dX12_squares_39 rfl (S_iconst C dX12_squares_40 (by decide +kernel) (S_iadd C dX12_squares_41 (S_bipush C dX12_squares_42 (by decide +kernel) (S_cV (ci := 12) C ok_X12_number rfl (al_at 1273 (by decide +kernel) rfl) (Nat.le_of_ble_eq_true rfl) (Nat.le_of_ble_eq_true rfl) dX12_squares_44 (S_istore_n C dX12_squares_47 rfl (Nat.le_of_ble_eq_true rfl) (S_lload_n C dX12_squares_48 rfl (S_aload_n C dX12_squares_49 rfl (S_getZ (ci := 12) (j := 15) C inG12 rfl (Nat.le_of_ble_eq_true rfl) rfl (al_at 933 (by decide +kernel) rfl) dX12_squares_50 (S_ifeq (tgt := 60) C dX12_squares_53 (by decide) (S_lconst C dX12_squares_56 (by decide +kernel) (S_goto (tgt := 63) C dX12_squares_57 (by decide)))))))))))))))))))))
    (S_lconst C dX12_squares_60 (by decide +kernel) (S_iload_n C dX12_squares_61 rfl (S_lshl C dX12_squares_62 (fun _ _ _ _ _ _ h9 => h9))))
    (S_lor C dX12_squares_63 (S_lstore_n C dX12_squares_64 rfl (Nat.le_of_ble_eq_true rfl) (S_goto (tgt := 23) C dX12_squares_65 (by decide))))
    (S_aload_n C dX12_squares_68 rfl (S_getZ (ci := 12) (j := 15) C inG12 rfl (Nat.le_of_ble_eq_true rfl) rfl (al_at 933 (by decide +kernel) rfl) dX12_squares_69 (S_ifne (tgt := 133) C dX12_squares_72 (by decide) (S_aload_n C dX12_squares_75 rfl (S_ldcSw (tx := "to") C (by decide) dX12_squares_76 (by decide +kernel) (S_cV (ci := 12) C ok_X12_isWord rfl (al_at 1259 (by decide +kernel) rfl) (Nat.le_of_ble_eq_true rfl) (Nat.le_of_ble_eq_true rfl) dX12_squares_79 (S_ifeq (tgt := 133) C dX12_squares_82 (by decide) (S_aload_n C dX12_squares_85 rfl (S_iconst C dX12_squares_86 (by decide +kernel) (S_cV (ci := 12) C ok_X12_must rfl (al_at 1265 (by decide +kernel) rfl) (Nat.le_of_ble_eq_true rfl) (Nat.le_of_ble_eq_true rfl) dX12_squares_87 (S_aload_n C dX12_squares_90 rfl (S_iload_n C dX12_squares_91 rfl (S_iconst C dX12_squares_92 (by decide +kernel) (S_iadd C dX12_squares_93 (S_bipush C dX12_squares_94 (by decide +kernel) (S_cV (ci := 12) C ok_X12_number rfl (al_at 1273 (by decide +kernel) rfl) (Nat.le_of_ble_eq_true rfl) (Nat.le_of_ble_eq_true rfl) dX12_squares_96 (S_istore C dX12_squares_99 (Nat.le_of_ble_eq_true rfl) (S_iload_n C dX12_squares_101 rfl (S_iconst C dX12_squares_102 (by decide +kernel) (S_iadd C dX12_squares_103 (S_istore C dX12_squares_104 (Nat.le_of_ble_eq_true rfl) (fun _ _ _ _ _ _ h9 => h9))))))))))))))))))))))
    (S_iload C dX12_squares_106 (S_iload C dX12_squares_108 (S_icmpgt (tgt := 133) C dX12_squares_110 (by decide) (S_aload_n C dX12_squares_113 rfl (S_getZ (ci := 12) (j := 15) C inG12 rfl (Nat.le_of_ble_eq_true rfl) rfl (al_at 933 (by decide +kernel) rfl) dX12_squares_114 (S_ifne (tgt := 133) C dX12_squares_117 (by decide) (S_lload_n C dX12_squares_120 rfl (S_lconst C dX12_squares_121 (by decide +kernel) (S_iload C dX12_squares_122 (S_lshl C dX12_squares_124 (S_lor C dX12_squares_125 (S_lstore_n C dX12_squares_126 rfl (Nat.le_of_ble_eq_true rfl) (S_iinc C dX12_squares_127 (by decide +kernel) (Nat.le_of_ble_eq_true rfl) (S_goto (tgt := 106) C dX12_squares_130 (by decide)))))))))))))))
    (S_lload_n C dX12_squares_133 rfl (S_lret C hQ hr dX12_squares_134)))
theorem dX12_town_0 : decode cX12_town 0 = .ok (.aload_n 0, 1) := by decide +kernel
theorem dX12_town_1 : decode cX12_town 1 = .ok (.iconst 0, 1) := by decide +kernel
theorem dX12_town_2 : decode cX12_town 2 = .ok (.putfield 228, 3) := by decide +kernel
theorem dX12_town_5 : decode cX12_town 5 = .ok (.aload_n 0, 1) := by decide +kernel
theorem dX12_town_6 : decode cX12_town 6 = .ok (.iconst 0, 1) := by decide +kernel
theorem dX12_town_7 : decode cX12_town 7 = .ok (.putfield 250, 3) := by decide +kernel
theorem dX12_town_10 : decode cX12_town 10 = .ok (.aload_n 0, 1) := by decide +kernel
theorem dX12_town_11 : decode cX12_town 11 = .ok (.iconst 0, 1) := by decide +kernel
theorem dX12_town_12 : decode cX12_town 12 = .ok (.putfield 264, 3) := by decide +kernel
theorem dX12_town_15 : decode cX12_town 15 = .ok (.aload_n 0, 1) := by decide +kernel
theorem dX12_town_16 : decode cX12_town 16 = .ok (.iconst 0, 1) := by decide +kernel
theorem dX12_town_17 : decode cX12_town 17 = .ok (.putfield 284, 3) := by decide +kernel
theorem dX12_town_20 : decode cX12_town 20 = .ok (.aload_n 0, 1) := by decide +kernel
theorem dX12_town_21 : decode cX12_town 21 = .ok (.invokevirtual 253, 3) := by decide +kernel
theorem dX12_town_24 : decode cX12_town 24 = .ok (.aload_n 0, 1) := by decide +kernel
theorem dX12_town_25 : decode cX12_town 25 = .ok (.invokevirtual 291, 3) := by decide +kernel
theorem dX12_town_28 : decode cX12_town 28 = .ok (.aload_n 0, 1) := by decide +kernel
theorem dX12_town_29 : decode cX12_town 29 = .ok (.getfield 250, 3) := by decide +kernel
theorem dX12_town_32 : decode cX12_town 32 = .ok (.ifCond .ne 37, 3) := by decide +kernel
theorem dX12_town_35 : decode cX12_town 35 = .ok (.aload_n 0, 1) := by decide +kernel
theorem dX12_town_36 : decode cX12_town 36 = .ok (.getfield 240, 3) := by decide +kernel
theorem dX12_town_39 : decode cX12_town 39 = .ok (.iconst 3, 1) := by decide +kernel
theorem dX12_town_40 : decode cX12_town 40 = .ok (.if_icmp .ne 29, 3) := by decide +kernel
theorem dX12_town_43 : decode cX12_town 43 = .ok (.aload_n 0, 1) := by decide +kernel
theorem dX12_town_44 : decode cX12_town 44 = .ok (.getfield 30, 3) := by decide +kernel
theorem dX12_town_47 : decode cX12_town 47 = .ok (.aload_n 0, 1) := by decide +kernel
theorem dX12_town_48 : decode cX12_town 48 = .ok (.getfield 231, 3) := by decide +kernel
theorem dX12_town_51 : decode cX12_town 51 = .ok (.iaload, 1) := by decide +kernel
theorem dX12_town_52 : decode cX12_town 52 = .ok (.bipush 59, 2) := by decide +kernel
theorem dX12_town_54 : decode cX12_town 54 = .ok (.if_icmp .ne 15, 3) := by decide +kernel
theorem dX12_town_57 : decode cX12_town 57 = .ok (.aload_n 0, 1) := by decide +kernel
theorem dX12_town_58 : decode cX12_town 58 = .ok (.iconst 1, 1) := by decide +kernel
theorem dX12_town_59 : decode cX12_town 59 = .ok (.invokevirtual 256, 3) := by decide +kernel
theorem dX12_town_62 : decode cX12_town 62 = .ok (.aload_n 0, 1) := by decide +kernel
theorem dX12_town_63 : decode cX12_town 63 = .ok (.invokevirtual 291, 3) := by decide +kernel
theorem dX12_town_66 : decode cX12_town 66 = .ok (.goto (-38), 3) := by decide +kernel
theorem dX12_town_69 : decode cX12_town 69 = .ok (.aload_n 0, 1) := by decide +kernel
theorem dX12_town_70 : decode cX12_town 70 = .ok (.aload_n 0, 1) := by decide +kernel
theorem dX12_town_71 : decode cX12_town 71 = .ok (.getfield 240, 3) := by decide +kernel
theorem dX12_town_74 : decode cX12_town 74 = .ok (.ifCond .ne 7, 3) := by decide +kernel
theorem dX12_town_77 : decode cX12_town 77 = .ok (.iconst 1, 1) := by decide +kernel
theorem dX12_town_78 : decode cX12_town 78 = .ok (.goto 4, 3) := by decide +kernel
theorem dX12_town_81 : decode cX12_town 81 = .ok (.iconst 0, 1) := by decide +kernel
theorem dX12_town_82 : decode cX12_town 82 = .ok (.invokevirtual 256, 3) := by decide +kernel
theorem dX12_town_85 : decode cX12_town 85 = .ok (.aload_n 0, 1) := by decide +kernel
theorem dX12_town_86 : decode cX12_town 86 = .ok (.iconst 0, 1) := by decide +kernel
theorem dX12_town_87 : decode cX12_town 87 = .ok (.putfield 225, 3) := by decide +kernel
theorem dX12_town_90 : decode cX12_town 90 = .ok (.aload_n 0, 1) := by decide +kernel
theorem dX12_town_91 : decode cX12_town 91 = .ok (.getfield 250, 3) := by decide +kernel
theorem dX12_town_94 : decode cX12_town 94 = .ok (.ifCond .eq 10, 3) := by decide +kernel
theorem dX12_town_97 : decode cX12_town 97 = .ok (.iconst (-1), 1) := by decide +kernel
theorem dX12_town_98 : decode cX12_town 98 = .ok (.aload_n 0, 1) := by decide +kernel
theorem dX12_town_99 : decode cX12_town 99 = .ok (.getfield 231, 3) := by decide +kernel
theorem dX12_town_102 : decode cX12_town 102 = .ok (.isub, 1) := by decide +kernel
theorem dX12_town_103 : decode cX12_town 103 = .ok (.ireturn, 1) := by decide +kernel
theorem dX12_town_104 : decode cX12_town 104 = .ok (.iconst 0, 1) := by decide +kernel
theorem dX12_town_105 : decode cX12_town 105 = .ok (.istore_n 1, 1) := by decide +kernel
theorem dX12_town_106 : decode cX12_town 106 = .ok (.iload_n 1, 1) := by decide +kernel
theorem dX12_town_107 : decode cX12_town 107 = .ok (.aload_n 0, 1) := by decide +kernel
theorem dX12_town_108 : decode cX12_town 108 = .ok (.getfield 264, 3) := by decide +kernel
theorem dX12_town_111 : decode cX12_town 111 = .ok (.if_icmp .ge 14, 3) := by decide +kernel
theorem dX12_town_114 : decode cX12_town 114 = .ok (.aload_n 0, 1) := by decide +kernel
theorem dX12_town_115 : decode cX12_town 115 = .ok (.iload_n 1, 1) := by decide +kernel
theorem dX12_town_116 : decode cX12_town 116 = .ok (.invokevirtual 294, 3) := by decide +kernel
theorem dX12_town_119 : decode cX12_town 119 = .ok (.iinc 1 1, 3) := by decide +kernel
theorem dX12_town_122 : decode cX12_town 122 = .ok (.goto (-16), 3) := by decide +kernel
theorem dX12_town_125 : decode cX12_town 125 = .ok (.aload_n 0, 1) := by decide +kernel
theorem dX12_town_126 : decode cX12_town 126 = .ok (.iconst 0, 1) := by decide +kernel
theorem dX12_town_127 : decode cX12_town 127 = .ok (.putfield 85, 3) := by decide +kernel
theorem dX12_town_130 : decode cX12_town 130 = .ok (.aload_n 0, 1) := by decide +kernel
theorem dX12_town_131 : decode cX12_town 131 = .ok (.getfield 264, 3) := by decide +kernel
theorem dX12_town_134 : decode cX12_town 134 = .ok (.ireturn, 1) := by decide +kernel
def k_X12_town_0 (F : FT) (Q : QT) : KT := o_aload 0 (o_ic (nI 0) (o_putI 12 12 (o_aload 0 (o_ic (nI 0) (o_putZ 12 15 (o_aload 0 (o_ic (nI 0) (o_putI 12 20 (o_aload 0 (o_ic (nI 0) (o_putI 12 21 (o_aload 0 (o_cV 12 m_X12_next 1 (o_aload 0 (o_cV 12 m_X12_readItem 1 (F 28))))))))))))))))
def k_X12_town_28 (F : FT) (Q : QT) : KT := o_aload 0 (o_getI 12 15 (o_ifne (F 69) (o_aload 0 (o_getI 12 13 (o_ic (nI 3) (o_icne (F 69) (o_aload 0 (o_getR 12 9 (o_aload 0 (o_getI 12 11 (o_iald (o_ic (nI 59) (o_icne (F 69) (o_aload 0 (o_ic (nI 1) (o_cV 12 m_X12_must 2 (o_aload 0 (o_cV 12 m_X12_readItem 1 (F 28)))))))))))))))))))
def k_X12_town_69 (F : FT) (Q : QT) : KT := o_aload 0 (o_aload 0 (o_getI 12 13 (o_ifne (F 81) (o_ic (nI 1) (F 82)))))
def k_X12_town_81 (F : FT) (Q : QT) : KT := o_ic (nI 0) (F 82)
def k_X12_town_82 (F : FT) (Q : QT) : KT := o_cV 12 m_X12_must 2 (o_aload 0 (o_ic (nI 0) (o_putI 12 10 (o_aload 0 (o_getI 12 15 (o_ifeq (F 104) (o_ic (-1) (o_aload 0 (o_getI 12 11 (o_isub (o_iret Q)))))))))))
def k_X12_town_104 (F : FT) (Q : QT) : KT := o_ic (nI 0) (o_istore 1 (F 106))
def k_X12_town_106 (F : FT) (Q : QT) : KT := o_iload 1 (o_aload 0 (o_getI 12 20 (o_icge (F 125) (o_aload 0 (o_iload 1 (o_cV 12 m_X12_isSo 2 (o_iinc 1 (nI 1) (F 106))))))))
def k_X12_town_125 (F : FT) (Q : QT) : KT := o_aload 0 (o_ic (nI 0) (o_putZ 12 5 (o_aload 0 (o_getI 12 20 (o_iret Q)))))
set_option maxRecDepth 20000 in
theorem r_X12_town {a0 : Nat} {n : Nat} {R : RR} {I : II} {J : JJ} {Q : QT} (hn : n + 0 ≤ 90) (h : ∀ F : FT, al_Wk F → al_Ok F (k_X12_town_0 F Q) 0 → al_Ok F (k_X12_town_28 F Q) 28 → al_Ok F (k_X12_town_69 F Q) 69 → al_Ok F (k_X12_town_81 F Q) 81 → al_Ok F (k_X12_town_82 F Q) 82 → al_Ok F (k_X12_town_104 F Q) 104 → al_Ok F (k_X12_town_106 F Q) 106 → al_Ok F (k_X12_town_125 F Q) 125 → F 0 [some (.ref a0), none] [] n R I J) : CT m_X12_town 0 [.ref a0] n R I J Q :=
  CT.of (by decide) hn (fun _ => rfl) (fun _ => Nat.le_of_ble_eq_true rfl) (fun F p l e s m args below meth c Rm t Q0 C hQ hr hm => h F (fun _ _ _ _ _ _ _ _ => S_wk C)
    (S_aload_n C dX12_town_0 rfl (S_iconst C dX12_town_1 (by decide +kernel) (S_putI (ci := 12) (j := 12) C inG12 rfl (Nat.le_of_ble_eq_true rfl) tyX12 tyX12_ok nmX12 rfl rfl (tyX12_ok 12 (Nat.le_of_ble_eq_true rfl)) (al_at 930 (by decide +kernel) rfl) dX12_town_2 (S_aload_n C dX12_town_5 rfl (S_iconst C dX12_town_6 (by decide +kernel) (S_putZ (ci := 12) (j := 15) C inG12 rfl (Nat.le_of_ble_eq_true rfl) tyX12 tyX12_ok nmX12 rfl rfl (tyX12_ok 15 (Nat.le_of_ble_eq_true rfl)) (al_at 933 (by decide +kernel) rfl) dX12_town_7 (S_aload_n C dX12_town_10 rfl (S_iconst C dX12_town_11 (by decide +kernel) (S_putI (ci := 12) (j := 20) C inG12 rfl (Nat.le_of_ble_eq_true rfl) tyX12 tyX12_ok nmX12 rfl rfl (tyX12_ok 20 (Nat.le_of_ble_eq_true rfl)) (al_at 938 (by decide +kernel) rfl) dX12_town_12 (S_aload_n C dX12_town_15 rfl (S_iconst C dX12_town_16 (by decide +kernel) (S_putI (ci := 12) (j := 21) C inG12 rfl (Nat.le_of_ble_eq_true rfl) tyX12 tyX12_ok nmX12 rfl rfl (tyX12_ok 21 (Nat.le_of_ble_eq_true rfl)) (al_at 939 (by decide +kernel) rfl) dX12_town_17 (S_aload_n C dX12_town_20 rfl (S_cV (ci := 12) C ok_X12_next rfl (al_at 1243 (by decide +kernel) rfl) (Nat.le_of_ble_eq_true rfl) (Nat.le_of_ble_eq_true rfl) dX12_town_21 (S_aload_n C dX12_town_24 rfl (S_cV (ci := 12) C ok_X12_readItem rfl (al_at 1251 (by decide +kernel) rfl) (Nat.le_of_ble_eq_true rfl) (Nat.le_of_ble_eq_true rfl) dX12_town_25 (fun _ _ _ _ _ _ h9 => h9)))))))))))))))))
    (S_aload_n C dX12_town_28 rfl (S_getZ (ci := 12) (j := 15) C inG12 rfl (Nat.le_of_ble_eq_true rfl) rfl (al_at 933 (by decide +kernel) rfl) dX12_town_29 (S_ifne (tgt := 69) C dX12_town_32 (by decide) (S_aload_n C dX12_town_35 rfl (S_getI (ci := 12) (j := 13) C inG12 rfl (Nat.le_of_ble_eq_true rfl) rfl (al_at 931 (by decide +kernel) rfl) dX12_town_36 (S_iconst C dX12_town_39 (by decide +kernel) (S_icmpne (tgt := 69) C dX12_town_40 (by decide) (S_aload_n C dX12_town_43 rfl (S_getR (ci := 12) (j := 9) C inG12 rfl (Nat.le_of_ble_eq_true rfl) rfl (al_at 927 (by decide +kernel) rfl) dX12_town_44 (S_aload_n C dX12_town_47 rfl (S_getI (ci := 12) (j := 11) C inG12 rfl (Nat.le_of_ble_eq_true rfl) rfl (al_at 929 (by decide +kernel) rfl) dX12_town_48 (S_iald C dX12_town_51 (S_bipush C dX12_town_52 (by decide +kernel) (S_icmpne (tgt := 69) C dX12_town_54 (by decide) (S_aload_n C dX12_town_57 rfl (S_iconst C dX12_town_58 (by decide +kernel) (S_cV (ci := 12) C ok_X12_must rfl (al_at 1265 (by decide +kernel) rfl) (Nat.le_of_ble_eq_true rfl) (Nat.le_of_ble_eq_true rfl) dX12_town_59 (S_aload_n C dX12_town_62 rfl (S_cV (ci := 12) C ok_X12_readItem rfl (al_at 1251 (by decide +kernel) rfl) (Nat.le_of_ble_eq_true rfl) (Nat.le_of_ble_eq_true rfl) dX12_town_63 (S_goto (tgt := 28) C dX12_town_66 (by decide)))))))))))))))))))))
    (S_aload_n C dX12_town_69 rfl (S_aload_n C dX12_town_70 rfl (S_getI (ci := 12) (j := 13) C inG12 rfl (Nat.le_of_ble_eq_true rfl) rfl (al_at 931 (by decide +kernel) rfl) dX12_town_71 (S_ifne (tgt := 81) C dX12_town_74 (by decide) (S_iconst C dX12_town_77 (by decide +kernel) (S_goto (tgt := 82) C dX12_town_78 (by decide)))))))
    (S_iconst C dX12_town_81 (by decide +kernel) (fun _ _ _ _ _ _ h9 => h9))
    (S_cV (ci := 12) C ok_X12_must rfl (al_at 1265 (by decide +kernel) rfl) (Nat.le_of_ble_eq_true rfl) (Nat.le_of_ble_eq_true rfl) dX12_town_82 (S_aload_n C dX12_town_85 rfl (S_iconst C dX12_town_86 (by decide +kernel) (S_putI (ci := 12) (j := 10) C inG12 rfl (Nat.le_of_ble_eq_true rfl) tyX12 tyX12_ok nmX12 rfl rfl (tyX12_ok 10 (Nat.le_of_ble_eq_true rfl)) (al_at 928 (by decide +kernel) rfl) dX12_town_87 (S_aload_n C dX12_town_90 rfl (S_getZ (ci := 12) (j := 15) C inG12 rfl (Nat.le_of_ble_eq_true rfl) rfl (al_at 933 (by decide +kernel) rfl) dX12_town_91 (S_ifeq (tgt := 104) C dX12_town_94 (by decide) (S_iconst C dX12_town_97 (by decide +kernel) (S_aload_n C dX12_town_98 rfl (S_getI (ci := 12) (j := 11) C inG12 rfl (Nat.le_of_ble_eq_true rfl) rfl (al_at 929 (by decide +kernel) rfl) dX12_town_99 (S_isub C dX12_town_102 (S_iret C hQ hr dX12_town_103))))))))))))
    (S_iconst C dX12_town_104 (by decide +kernel) (S_istore_n C dX12_town_105 rfl (Nat.le_of_ble_eq_true rfl) (fun _ _ _ _ _ _ h9 => h9)))
    (S_iload_n C dX12_town_106 rfl (S_aload_n C dX12_town_107 rfl (S_getI (ci := 12) (j := 20) C inG12 rfl (Nat.le_of_ble_eq_true rfl) rfl (al_at 938 (by decide +kernel) rfl) dX12_town_108 (S_icmpge (tgt := 125) C dX12_town_111 (by decide) (S_aload_n C dX12_town_114 rfl (S_iload_n C dX12_town_115 rfl (S_cV (ci := 12) C ok_X12_isSo rfl (al_at 1284 (by decide +kernel) rfl) (Nat.le_of_ble_eq_true rfl) (Nat.le_of_ble_eq_true rfl) dX12_town_116 (S_iinc C dX12_town_119 (by decide +kernel) (Nat.le_of_ble_eq_true rfl) (S_goto (tgt := 106) C dX12_town_122 (by decide))))))))))
    (S_aload_n C dX12_town_125 rfl (S_iconst C dX12_town_126 (by decide +kernel) (S_putZ (ci := 12) (j := 5) C inG12 rfl (Nat.le_of_ble_eq_true rfl) tyX12 tyX12_ok nmX12 rfl rfl (tyX12_ok 5 (Nat.le_of_ble_eq_true rfl)) (al_at 923 (by decide +kernel) rfl) dX12_town_127 (S_aload_n C dX12_town_130 rfl (S_getI (ci := 12) (j := 20) C inG12 rfl (Nat.le_of_ble_eq_true rfl) rfl (al_at 938 (by decide +kernel) rfl) dX12_town_131 (S_iret C hQ hr dX12_town_134)))))))
theorem dX12_which_0 : decode cX12_which 0 = .ok (.iconst (-1), 1) := by decide +kernel
theorem dX12_which_1 : decode cX12_which 1 = .ok (.istore_n 2, 1) := by decide +kernel
theorem dX12_which_2 : decode cX12_which 2 = .ok (.iconst 0, 1) := by decide +kernel
theorem dX12_which_3 : decode cX12_which 3 = .ok (.istore_n 3, 1) := by decide +kernel
theorem dX12_which_4 : decode cX12_which 4 = .ok (.iload_n 3, 1) := by decide +kernel
theorem dX12_which_5 : decode cX12_which 5 = .ok (.aload_n 1, 1) := by decide +kernel
theorem dX12_which_6 : decode cX12_which 6 = .ok (.arraylength, 1) := by decide +kernel
theorem dX12_which_7 : decode cX12_which 7 = .ok (.if_icmp .ge 25, 3) := by decide +kernel
theorem dX12_which_10 : decode cX12_which 10 = .ok (.aload_n 0, 1) := by decide +kernel
theorem dX12_which_11 : decode cX12_which 11 = .ok (.aload_n 1, 1) := by decide +kernel
theorem dX12_which_12 : decode cX12_which 12 = .ok (.iload_n 3, 1) := by decide +kernel
theorem dX12_which_13 : decode cX12_which 13 = .ok (.aaload, 1) := by decide +kernel
theorem dX12_which_14 : decode cX12_which 14 = .ok (.invokevirtual 260, 3) := by decide +kernel
theorem dX12_which_17 : decode cX12_which 17 = .ok (.ifCond .eq 7, 3) := by decide +kernel
theorem dX12_which_20 : decode cX12_which 20 = .ok (.iload_n 3, 1) := by decide +kernel
theorem dX12_which_21 : decode cX12_which 21 = .ok (.goto 4, 3) := by decide +kernel
theorem dX12_which_24 : decode cX12_which 24 = .ok (.iload_n 2, 1) := by decide +kernel
theorem dX12_which_25 : decode cX12_which 25 = .ok (.istore_n 2, 1) := by decide +kernel
theorem dX12_which_26 : decode cX12_which 26 = .ok (.iinc 3 1, 3) := by decide +kernel
theorem dX12_which_29 : decode cX12_which 29 = .ok (.goto (-25), 3) := by decide +kernel
theorem dX12_which_32 : decode cX12_which 32 = .ok (.iload_n 2, 1) := by decide +kernel
theorem dX12_which_33 : decode cX12_which 33 = .ok (.ireturn, 1) := by decide +kernel
def k_X12_which_0 (F : FT) (Q : QT) : KT := o_ic (-1) (o_istore 2 (o_ic (nI 0) (o_istore 3 (F 4))))
def k_X12_which_4 (F : FT) (Q : QT) : KT := o_iload 3 (o_aload 1 (o_alen 6 (o_icge (F 32) (o_aload 0 (o_aload 1 (o_iload 3 (o_aald 6 (o_cV 12 m_X12_isWord 2 (o_ifeq (F 24) (o_iload 3 (F 25)))))))))))
def k_X12_which_24 (F : FT) (Q : QT) : KT := o_iload 2 (F 25)
def k_X12_which_25 (F : FT) (Q : QT) : KT := o_istore 2 (o_iinc 3 (nI 1) (F 4))
def k_X12_which_32 (F : FT) (Q : QT) : KT := o_iload 2 (o_iret Q)
set_option maxRecDepth 20000 in
theorem r_X12_which {a0 : Nat} {a1 : Nat} {n : Nat} {R : RR} {I : II} {J : JJ} {Q : QT} (hn : n + 0 ≤ 90) (h : ∀ F : FT, al_Wk F → al_Ok F (k_X12_which_0 F Q) 0 → al_Ok F (k_X12_which_4 F Q) 4 → al_Ok F (k_X12_which_24 F Q) 24 → al_Ok F (k_X12_which_25 F Q) 25 → al_Ok F (k_X12_which_32 F Q) 32 → F 0 [some (.ref a0), some (.ref a1), none, none] [] n R I J) : CT m_X12_which 0 [.ref a0, .ref a1] n R I J Q :=
  CT.of (by decide) hn (fun _ => rfl) (fun _ => Nat.le_of_ble_eq_true rfl) (fun F p l e s m args below meth c Rm t Q0 C hQ hr hm => h F (fun _ _ _ _ _ _ _ _ => S_wk C)
    (S_iconst C dX12_which_0 (by decide +kernel) (S_istore_n C dX12_which_1 rfl (Nat.le_of_ble_eq_true rfl) (S_iconst C dX12_which_2 (by decide +kernel) (S_istore_n C dX12_which_3 rfl (Nat.le_of_ble_eq_true rfl) (fun _ _ _ _ _ _ h9 => h9)))))
    (S_iload_n C dX12_which_4 rfl (S_aload_n C dX12_which_5 rfl (S_alen (ak := 6) C (fun _ => rfl) dX12_which_6 (S_icmpge (tgt := 32) C dX12_which_7 (by decide) (S_aload_n C dX12_which_10 rfl (S_aload_n C dX12_which_11 rfl (S_iload_n C dX12_which_12 rfl (S_aald (ak := 6) C (fun _ _ _ _ _ _ => rfl) (fun _ => rfl) dX12_which_13 (S_cV (ci := 12) C ok_X12_isWord rfl (al_at 1259 (by decide +kernel) rfl) (Nat.le_of_ble_eq_true rfl) (Nat.le_of_ble_eq_true rfl) dX12_which_14 (S_ifeq (tgt := 24) C dX12_which_17 (by decide) (S_iload_n C dX12_which_20 rfl (S_goto (tgt := 25) C dX12_which_21 (by decide)))))))))))))
    (S_iload_n C dX12_which_24 rfl (fun _ _ _ _ _ _ h9 => h9))
    (S_istore_n C dX12_which_25 rfl (Nat.le_of_ble_eq_true rfl) (S_iinc C dX12_which_26 (by decide +kernel) (Nat.le_of_ble_eq_true rfl) (S_goto (tgt := 4) C dX12_which_29 (by decide))))
    (S_iload_n C dX12_which_32 rfl (S_iret C hQ hr dX12_which_33)))
