theorem dX10_advance_0 : decode cX10_advance 0 = .ok (.aload_n 0, 1) := by decide +kernel
theorem dX10_advance_1 : decode cX10_advance 1 = .ok (.aload_n 0, 1) := by decide +kernel
theorem dX10_advance_2 : decode cX10_advance 2 = .ok (.getfield 32, 3) := by decide +kernel
theorem dX10_advance_5 : decode cX10_advance 5 = .ok (.putfield 45, 3) := by decide +kernel
theorem dX10_advance_8 : decode cX10_advance 8 = .ok (.aload_n 0, 1) := by decide +kernel
theorem dX10_advance_9 : decode cX10_advance 9 = .ok (.getfield 45, 3) := by decide +kernel
theorem dX10_advance_12 : decode cX10_advance 12 = .ok (.aload_n 0, 1) := by decide +kernel
theorem dX10_advance_13 : decode cX10_advance 13 = .ok (.getfield 22, 3) := by decide +kernel
theorem dX10_advance_16 : decode cX10_advance 16 = .ok (.if_icmp .ge 30, 3) := by decide +kernel
theorem dX10_advance_19 : decode cX10_advance 19 = .ok (.aload_n 0, 1) := by decide +kernel
theorem dX10_advance_20 : decode cX10_advance 20 = .ok (.getfield 18, 3) := by decide +kernel
theorem dX10_advance_23 : decode cX10_advance 23 = .ok (.aload_n 0, 1) := by decide +kernel
theorem dX10_advance_24 : decode cX10_advance 24 = .ok (.getfield 45, 3) := by decide +kernel
theorem dX10_advance_27 : decode cX10_advance 27 = .ok (.iaload, 1) := by decide +kernel
theorem dX10_advance_28 : decode cX10_advance 28 = .ok (.bipush 32, 2) := by decide +kernel
theorem dX10_advance_30 : decode cX10_advance 30 = .ok (.if_icmp .ne 16, 3) := by decide +kernel
theorem dX10_advance_33 : decode cX10_advance 33 = .ok (.aload_n 0, 1) := by decide +kernel
theorem dX10_advance_34 : decode cX10_advance 34 = .ok (.dup, 1) := by decide +kernel
theorem dX10_advance_35 : decode cX10_advance 35 = .ok (.getfield 45, 3) := by decide +kernel
theorem dX10_advance_38 : decode cX10_advance 38 = .ok (.iconst 1, 1) := by decide +kernel
theorem dX10_advance_39 : decode cX10_advance 39 = .ok (.iadd, 1) := by decide +kernel
theorem dX10_advance_40 : decode cX10_advance 40 = .ok (.putfield 45, 3) := by decide +kernel
theorem dX10_advance_43 : decode cX10_advance 43 = .ok (.goto (-35), 3) := by decide +kernel
theorem dX10_advance_46 : decode cX10_advance 46 = .ok (.aload_n 0, 1) := by decide +kernel
theorem dX10_advance_47 : decode cX10_advance 47 = .ok (.aload_n 0, 1) := by decide +kernel
theorem dX10_advance_48 : decode cX10_advance 48 = .ok (.getfield 45, 3) := by decide +kernel
theorem dX10_advance_51 : decode cX10_advance 51 = .ok (.putfield 32, 3) := by decide +kernel
theorem dX10_advance_54 : decode cX10_advance 54 = .ok (.aload_n 0, 1) := by decide +kernel
theorem dX10_advance_55 : decode cX10_advance 55 = .ok (.getfield 45, 3) := by decide +kernel
theorem dX10_advance_58 : decode cX10_advance 58 = .ok (.aload_n 0, 1) := by decide +kernel
theorem dX10_advance_59 : decode cX10_advance 59 = .ok (.getfield 22, 3) := by decide +kernel
theorem dX10_advance_62 : decode cX10_advance 62 = .ok (.if_icmp .lt 11, 3) := by decide +kernel
theorem dX10_advance_65 : decode cX10_advance 65 = .ok (.aload_n 0, 1) := by decide +kernel
theorem dX10_advance_66 : decode cX10_advance 66 = .ok (.iconst 0, 1) := by decide +kernel
theorem dX10_advance_67 : decode cX10_advance 67 = .ok (.putfield 42, 3) := by decide +kernel
theorem dX10_advance_70 : decode cX10_advance 70 = .ok (.goto 90, 3) := by decide +kernel
theorem dX10_advance_73 : decode cX10_advance 73 = .ok (.aload_n 0, 1) := by decide +kernel
theorem dX10_advance_74 : decode cX10_advance 74 = .ok (.getfield 18, 3) := by decide +kernel
theorem dX10_advance_77 : decode cX10_advance 77 = .ok (.aload_n 0, 1) := by decide +kernel
theorem dX10_advance_78 : decode cX10_advance 78 = .ok (.getfield 45, 3) := by decide +kernel
theorem dX10_advance_81 : decode cX10_advance 81 = .ok (.iaload, 1) := by decide +kernel
theorem dX10_advance_82 : decode cX10_advance 82 = .ok (.invokestatic 128, 3) := by decide +kernel
theorem dX10_advance_85 : decode cX10_advance 85 = .ok (.ifCond .eq 15, 3) := by decide +kernel
theorem dX10_advance_88 : decode cX10_advance 88 = .ok (.aload_n 0, 1) := by decide +kernel
theorem dX10_advance_89 : decode cX10_advance 89 = .ok (.iconst 1, 1) := by decide +kernel
theorem dX10_advance_90 : decode cX10_advance 90 = .ok (.putfield 42, 3) := by decide +kernel
theorem dX10_advance_93 : decode cX10_advance 93 = .ok (.aload_n 0, 1) := by decide +kernel
theorem dX10_advance_94 : decode cX10_advance 94 = .ok (.invokevirtual 131, 3) := by decide +kernel
theorem dX10_advance_97 : decode cX10_advance 97 = .ok (.goto 63, 3) := by decide +kernel
theorem dX10_advance_100 : decode cX10_advance 100 = .ok (.aload_n 0, 1) := by decide +kernel
theorem dX10_advance_101 : decode cX10_advance 101 = .ok (.getfield 18, 3) := by decide +kernel
theorem dX10_advance_104 : decode cX10_advance 104 = .ok (.aload_n 0, 1) := by decide +kernel
theorem dX10_advance_105 : decode cX10_advance 105 = .ok (.getfield 45, 3) := by decide +kernel
theorem dX10_advance_108 : decode cX10_advance 108 = .ok (.iaload, 1) := by decide +kernel
theorem dX10_advance_109 : decode cX10_advance 109 = .ok (.invokestatic 134, 3) := by decide +kernel
theorem dX10_advance_112 : decode cX10_advance 112 = .ok (.ifCond .eq 15, 3) := by decide +kernel
theorem dX10_advance_115 : decode cX10_advance 115 = .ok (.aload_n 0, 1) := by decide +kernel
theorem dX10_advance_116 : decode cX10_advance 116 = .ok (.iconst 2, 1) := by decide +kernel
theorem dX10_advance_117 : decode cX10_advance 117 = .ok (.putfield 42, 3) := by decide +kernel
theorem dX10_advance_120 : decode cX10_advance 120 = .ok (.aload_n 0, 1) := by decide +kernel
theorem dX10_advance_121 : decode cX10_advance 121 = .ok (.invokevirtual 137, 3) := by decide +kernel
theorem dX10_advance_124 : decode cX10_advance 124 = .ok (.goto 36, 3) := by decide +kernel
theorem dX10_advance_127 : decode cX10_advance 127 = .ok (.aload_n 0, 1) := by decide +kernel
theorem dX10_advance_128 : decode cX10_advance 128 = .ok (.aload_n 0, 1) := by decide +kernel
theorem dX10_advance_129 : decode cX10_advance 129 = .ok (.getfield 18, 3) := by decide +kernel
theorem dX10_advance_132 : decode cX10_advance 132 = .ok (.aload_n 0, 1) := by decide +kernel
theorem dX10_advance_133 : decode cX10_advance 133 = .ok (.getfield 45, 3) := by decide +kernel
theorem dX10_advance_136 : decode cX10_advance 136 = .ok (.iaload, 1) := by decide +kernel
theorem dX10_advance_137 : decode cX10_advance 137 = .ok (.bipush 59, 2) := by decide +kernel
theorem dX10_advance_139 : decode cX10_advance 139 = .ok (.if_icmp .ne 7, 3) := by decide +kernel
theorem dX10_advance_142 : decode cX10_advance 142 = .ok (.iconst 3, 1) := by decide +kernel
theorem dX10_advance_143 : decode cX10_advance 143 = .ok (.goto 4, 3) := by decide +kernel
theorem dX10_advance_146 : decode cX10_advance 146 = .ok (.iconst 4, 1) := by decide +kernel
theorem dX10_advance_147 : decode cX10_advance 147 = .ok (.putfield 42, 3) := by decide +kernel
theorem dX10_advance_150 : decode cX10_advance 150 = .ok (.aload_n 0, 1) := by decide +kernel
theorem dX10_advance_151 : decode cX10_advance 151 = .ok (.aload_n 0, 1) := by decide +kernel
theorem dX10_advance_152 : decode cX10_advance 152 = .ok (.getfield 45, 3) := by decide +kernel
theorem dX10_advance_155 : decode cX10_advance 155 = .ok (.iconst 1, 1) := by decide +kernel
theorem dX10_advance_156 : decode cX10_advance 156 = .ok (.iadd, 1) := by decide +kernel
theorem dX10_advance_157 : decode cX10_advance 157 = .ok (.putfield 32, 3) := by decide +kernel
theorem dX10_advance_160 : decode cX10_advance 160 = .ok (.return_, 1) := by decide +kernel
def k_X10_advance_0 (F : FT) (Q : QT) : KT := o_aload 0 (o_aload 0 (o_getI 10 5 (o_putI 10 4 (F 8))))
def k_X10_advance_8 (F : FT) (Q : QT) : KT := o_aload 0 (o_getI 10 4 (o_aload 0 (o_getI 10 3 (o_icge (F 46) (o_aload 0 (o_getR 10 2 (o_aload 0 (o_getI 10 4 (o_iald (o_ic (nI 32) (o_icne (F 46) (o_aload 0 (o_dup (o_getI 10 4 (o_ic (nI 1) (o_iadd (o_putI 10 4 (F 8))))))))))))))))))
def k_X10_advance_46 (F : FT) (Q : QT) : KT := o_aload 0 (o_aload 0 (o_getI 10 4 (o_putI 10 5 (o_aload 0 (o_getI 10 4 (o_aload 0 (o_getI 10 3 (o_iclt (F 73) (o_aload 0 (o_ic (nI 0) (o_putI 10 6 (F 160))))))))))))
def k_X10_advance_73 (F : FT) (Q : QT) : KT := o_aload 0 (o_getR 10 2 (o_aload 0 (o_getI 10 4 (o_iald (o_cS m_X10_isLetter 1 (o_ifeq (F 100) (o_aload 0 (o_ic (nI 1) (o_putI 10 6 (o_aload 0 (o_cV 10 m_X10_passLetters 1 (F 160))))))))))))
def k_X10_advance_100 (F : FT) (Q : QT) : KT := o_aload 0 (o_getR 10 2 (o_aload 0 (o_getI 10 4 (o_iald (o_cS m_X10_isDigit 1 (o_ifeq (F 127) (o_aload 0 (o_ic (nI 2) (o_putI 10 6 (o_aload 0 (o_cV 10 m_X10_passDigits 1 (F 160))))))))))))
def k_X10_advance_127 (F : FT) (Q : QT) : KT := o_aload 0 (o_aload 0 (o_getR 10 2 (o_aload 0 (o_getI 10 4 (o_iald (o_ic (nI 59) (o_icne (F 146) (o_ic (nI 3) (F 147)))))))))
def k_X10_advance_146 (F : FT) (Q : QT) : KT := o_ic (nI 4) (F 147)
def k_X10_advance_147 (F : FT) (Q : QT) : KT := o_putI 10 6 (o_aload 0 (o_aload 0 (o_getI 10 4 (o_ic (nI 1) (o_iadd (o_putI 10 5 (F 160)))))))
def k_X10_advance_160 (F : FT) (Q : QT) : KT := o_vret Q
set_option maxRecDepth 20000 in
theorem r_X10_advance {a0 : Nat} {n : Nat} {R : RR} {I : II} {J : JJ} {Q : QT} (hn : n + 0 ≤ 90) (h : ∀ F : FT, al_Wk F → al_Ok F (k_X10_advance_0 F Q) 0 → al_Ok F (k_X10_advance_8 F Q) 8 → al_Ok F (k_X10_advance_46 F Q) 46 → al_Ok F (k_X10_advance_73 F Q) 73 → al_Ok F (k_X10_advance_100 F Q) 100 → al_Ok F (k_X10_advance_127 F Q) 127 → al_Ok F (k_X10_advance_146 F Q) 146 → al_Ok F (k_X10_advance_147 F Q) 147 → al_Ok F (k_X10_advance_160 F Q) 160 → F 0 [some (.ref a0)] [] n R I J) : CT m_X10_advance 0 [.ref a0] n R I J Q :=
  CT.of (by decide) hn (fun _ => rfl) (fun _ => Nat.le_of_ble_eq_true rfl) (fun F p l e s m args below meth c Rm t Q0 C hQ hr hm => h F (fun _ _ _ _ _ _ _ _ => S_wk C)
    (S_aload_n C dX10_advance_0 rfl (S_aload_n C dX10_advance_1 rfl (S_getI (ci := 10) (j := 5) C inG10 rfl (Nat.le_of_ble_eq_true rfl) rfl (al_at 249 (by decide +kernel) rfl) dX10_advance_2 (S_putI (ci := 10) (j := 4) C inG10 rfl (Nat.le_of_ble_eq_true rfl) tyX10 tyX10_ok nmX10 rfl rfl (tyX10_ok 4 (Nat.le_of_ble_eq_true rfl)) (al_at 248 (by decide +kernel) rfl) dX10_advance_5 (fun _ _ _ _ _ _ h9 => h9)))))
    (S_aload_n C dX10_advance_8 rfl (S_getI (ci := 10) (j := 4) C inG10 rfl (Nat.le_of_ble_eq_true rfl) rfl (al_at 248 (by decide +kernel) rfl) dX10_advance_9 (S_aload_n C dX10_advance_12 rfl (S_getI (ci := 10) (j := 3) C inG10 rfl (Nat.le_of_ble_eq_true rfl) rfl (al_at 246 (by decide +kernel) rfl) dX10_advance_13 (S_icmpge (tgt := 46) C dX10_advance_16 (by decide) (S_aload_n C dX10_advance_19 rfl (S_getR (ci := 10) (j := 2) C inG10 rfl (Nat.le_of_ble_eq_true rfl) rfl (al_at 245 (by decide +kernel) rfl) dX10_advance_20 (S_aload_n C dX10_advance_23 rfl (S_getI (ci := 10) (j := 4) C inG10 rfl (Nat.le_of_ble_eq_true rfl) rfl (al_at 248 (by decide +kernel) rfl) dX10_advance_24 (S_iald C dX10_advance_27 (S_bipush C dX10_advance_28 (by decide +kernel) (S_icmpne (tgt := 46) C dX10_advance_30 (by decide) (S_aload_n C dX10_advance_33 rfl (S_dup C dX10_advance_34 (S_getI (ci := 10) (j := 4) C inG10 rfl (Nat.le_of_ble_eq_true rfl) rfl (al_at 248 (by decide +kernel) rfl) dX10_advance_35 (S_iconst C dX10_advance_38 (by decide +kernel) (S_iadd C dX10_advance_39 (S_putI (ci := 10) (j := 4) C inG10 rfl (Nat.le_of_ble_eq_true rfl) tyX10 tyX10_ok nmX10 rfl rfl (tyX10_ok 4 (Nat.le_of_ble_eq_true rfl)) (al_at 248 (by decide +kernel) rfl) dX10_advance_40 (S_goto (tgt := 8) C dX10_advance_43 (by decide))))))))))))))))))))
    (S_aload_n C dX10_advance_46 rfl (S_aload_n C dX10_advance_47 rfl (S_getI (ci := 10) (j := 4) C inG10 rfl (Nat.le_of_ble_eq_true rfl) rfl (al_at 248 (by decide +kernel) rfl) dX10_advance_48 (S_putI (ci := 10) (j := 5) C inG10 rfl (Nat.le_of_ble_eq_true rfl) tyX10 tyX10_ok nmX10 rfl rfl (tyX10_ok 5 (Nat.le_of_ble_eq_true rfl)) (al_at 249 (by decide +kernel) rfl) dX10_advance_51 (S_aload_n C dX10_advance_54 rfl (S_getI (ci := 10) (j := 4) C inG10 rfl (Nat.le_of_ble_eq_true rfl) rfl (al_at 248 (by decide +kernel) rfl) dX10_advance_55 (S_aload_n C dX10_advance_58 rfl (S_getI (ci := 10) (j := 3) C inG10 rfl (Nat.le_of_ble_eq_true rfl) rfl (al_at 246 (by decide +kernel) rfl) dX10_advance_59 (S_icmplt (tgt := 73) C dX10_advance_62 (by decide) (S_aload_n C dX10_advance_65 rfl (S_iconst C dX10_advance_66 (by decide +kernel) (S_putI (ci := 10) (j := 6) C inG10 rfl (Nat.le_of_ble_eq_true rfl) tyX10 tyX10_ok nmX10 rfl rfl (tyX10_ok 6 (Nat.le_of_ble_eq_true rfl)) (al_at 250 (by decide +kernel) rfl) dX10_advance_67 (S_goto (tgt := 160) C dX10_advance_70 (by decide))))))))))))))
    (S_aload_n C dX10_advance_73 rfl (S_getR (ci := 10) (j := 2) C inG10 rfl (Nat.le_of_ble_eq_true rfl) rfl (al_at 245 (by decide +kernel) rfl) dX10_advance_74 (S_aload_n C dX10_advance_77 rfl (S_getI (ci := 10) (j := 4) C inG10 rfl (Nat.le_of_ble_eq_true rfl) rfl (al_at 248 (by decide +kernel) rfl) dX10_advance_78 (S_iald C dX10_advance_81 (S_cS C ok_X10_isLetter (al_at 700 (by decide +kernel) rfl) (Nat.le_of_ble_eq_true rfl) (Nat.le_of_ble_eq_true rfl) dX10_advance_82 (S_ifeq (tgt := 100) C dX10_advance_85 (by decide) (S_aload_n C dX10_advance_88 rfl (S_iconst C dX10_advance_89 (by decide +kernel) (S_putI (ci := 10) (j := 6) C inG10 rfl (Nat.le_of_ble_eq_true rfl) tyX10 tyX10_ok nmX10 rfl rfl (tyX10_ok 6 (Nat.le_of_ble_eq_true rfl)) (al_at 250 (by decide +kernel) rfl) dX10_advance_90 (S_aload_n C dX10_advance_93 rfl (S_cV (ci := 10) C ok_X10_passLetters rfl (al_at 703 (by decide +kernel) rfl) (Nat.le_of_ble_eq_true rfl) (Nat.le_of_ble_eq_true rfl) dX10_advance_94 (S_goto (tgt := 160) C dX10_advance_97 (by decide))))))))))))))
    (S_aload_n C dX10_advance_100 rfl (S_getR (ci := 10) (j := 2) C inG10 rfl (Nat.le_of_ble_eq_true rfl) rfl (al_at 245 (by decide +kernel) rfl) dX10_advance_101 (S_aload_n C dX10_advance_104 rfl (S_getI (ci := 10) (j := 4) C inG10 rfl (Nat.le_of_ble_eq_true rfl) rfl (al_at 248 (by decide +kernel) rfl) dX10_advance_105 (S_iald C dX10_advance_108 (S_cS C ok_X10_isDigit (al_at 707 (by decide +kernel) rfl) (Nat.le_of_ble_eq_true rfl) (Nat.le_of_ble_eq_true rfl) dX10_advance_109 (S_ifeq (tgt := 127) C dX10_advance_112 (by decide) (S_aload_n C dX10_advance_115 rfl (S_iconst C dX10_advance_116 (by decide +kernel) (S_putI (ci := 10) (j := 6) C inG10 rfl (Nat.le_of_ble_eq_true rfl) tyX10 tyX10_ok nmX10 rfl rfl (tyX10_ok 6 (Nat.le_of_ble_eq_true rfl)) (al_at 250 (by decide +kernel) rfl) dX10_advance_117 (S_aload_n C dX10_advance_120 rfl (S_cV (ci := 10) C ok_X10_passDigits rfl (al_at 710 (by decide +kernel) rfl) (Nat.le_of_ble_eq_true rfl) (Nat.le_of_ble_eq_true rfl) dX10_advance_121 (S_goto (tgt := 160) C dX10_advance_124 (by decide))))))))))))))
    (S_aload_n C dX10_advance_127 rfl (S_aload_n C dX10_advance_128 rfl (S_getR (ci := 10) (j := 2) C inG10 rfl (Nat.le_of_ble_eq_true rfl) rfl (al_at 245 (by decide +kernel) rfl) dX10_advance_129 (S_aload_n C dX10_advance_132 rfl (S_getI (ci := 10) (j := 4) C inG10 rfl (Nat.le_of_ble_eq_true rfl) rfl (al_at 248 (by decide +kernel) rfl) dX10_advance_133 (S_iald C dX10_advance_136 (S_bipush C dX10_advance_137 (by decide +kernel) (S_icmpne (tgt := 146) C dX10_advance_139 (by decide) (S_iconst C dX10_advance_142 (by decide +kernel) (S_goto (tgt := 147) C dX10_advance_143 (by decide)))))))))))
    (S_iconst C dX10_advance_146 (by decide +kernel) (fun _ _ _ _ _ _ h9 => h9))
    (S_putI (ci := 10) (j := 6) C inG10 rfl (Nat.le_of_ble_eq_true rfl) tyX10 tyX10_ok nmX10 rfl rfl (tyX10_ok 6 (Nat.le_of_ble_eq_true rfl)) (al_at 250 (by decide +kernel) rfl) dX10_advance_147 (S_aload_n C dX10_advance_150 rfl (S_aload_n C dX10_advance_151 rfl (S_getI (ci := 10) (j := 4) C inG10 rfl (Nat.le_of_ble_eq_true rfl) rfl (al_at 248 (by decide +kernel) rfl) dX10_advance_152 (S_iconst C dX10_advance_155 (by decide +kernel) (S_iadd C dX10_advance_156 (S_putI (ci := 10) (j := 5) C inG10 rfl (Nat.le_of_ble_eq_true rfl) tyX10 tyX10_ok nmX10 rfl rfl (tyX10_ok 5 (Nat.le_of_ble_eq_true rfl)) (al_at 249 (by decide +kernel) rfl) dX10_advance_157 (fun _ _ _ _ _ _ h9 => h9))))))))
    (S_vret C hQ hr dX10_advance_160))
theorem dX10_append_0 : decode cX10_append 0 = .ok (.aload_n 0, 1) := by decide +kernel
theorem dX10_append_1 : decode cX10_append 1 = .ok (.getfield 22, 3) := by decide +kernel
theorem dX10_append_4 : decode cX10_append 4 = .ok (.bipush 120, 2) := by decide +kernel
theorem dX10_append_6 : decode cX10_append 6 = .ok (.if_icmp .ge 27, 3) := by decide +kernel
theorem dX10_append_9 : decode cX10_append 9 = .ok (.aload_n 0, 1) := by decide +kernel
theorem dX10_append_10 : decode cX10_append 10 = .ok (.getfield 18, 3) := by decide +kernel
theorem dX10_append_13 : decode cX10_append 13 = .ok (.aload_n 0, 1) := by decide +kernel
theorem dX10_append_14 : decode cX10_append 14 = .ok (.getfield 22, 3) := by decide +kernel
theorem dX10_append_17 : decode cX10_append 17 = .ok (.iload_n 1, 1) := by decide +kernel
theorem dX10_append_18 : decode cX10_append 18 = .ok (.sipush 255, 3) := by decide +kernel
theorem dX10_append_21 : decode cX10_append 21 = .ok (.iand, 1) := by decide +kernel
theorem dX10_append_22 : decode cX10_append 22 = .ok (.iastore, 1) := by decide +kernel
theorem dX10_append_23 : decode cX10_append 23 = .ok (.aload_n 0, 1) := by decide +kernel
theorem dX10_append_24 : decode cX10_append 24 = .ok (.dup, 1) := by decide +kernel
theorem dX10_append_25 : decode cX10_append 25 = .ok (.getfield 22, 3) := by decide +kernel
theorem dX10_append_28 : decode cX10_append 28 = .ok (.iconst 1, 1) := by decide +kernel
theorem dX10_append_29 : decode cX10_append 29 = .ok (.iadd, 1) := by decide +kernel
theorem dX10_append_30 : decode cX10_append 30 = .ok (.putfield 22, 3) := by decide +kernel
theorem dX10_append_33 : decode cX10_append 33 = .ok (.return_, 1) := by decide +kernel
def k_X10_append_0 (F : FT) (Q : QT) : KT := o_aload 0 (o_getI 10 3 (o_ic (nI 120) (o_icge (F 33) (o_aload 0 (o_getR 10 2 (o_aload 0 (o_getI 10 3 (o_iload 1 (o_ic (nI 255) (o_iand (o_iast (o_aload 0 (o_dup (o_getI 10 3 (o_ic (nI 1) (o_iadd (o_putI 10 3 (F 33))))))))))))))))))
def k_X10_append_33 (F : FT) (Q : QT) : KT := o_vret Q
set_option maxRecDepth 20000 in
theorem r_X10_append {a0 : Nat} {a1 : Int32} {n : Nat} {R : RR} {I : II} {J : JJ} {Q : QT} (hn : n + 0 ≤ 90) (h : ∀ F : FT, al_Wk F → al_Ok F (k_X10_append_0 F Q) 0 → al_Ok F (k_X10_append_33 F Q) 33 → F 0 [some (.ref a0), some (.int a1)] [] n R I J) : CT m_X10_append 0 [.ref a0, .int a1] n R I J Q :=
  CT.of (by decide) hn (fun _ => rfl) (fun _ => Nat.le_of_ble_eq_true rfl) (fun F p l e s m args below meth c Rm t Q0 C hQ hr hm => h F (fun _ _ _ _ _ _ _ _ => S_wk C)
    (S_aload_n C dX10_append_0 rfl (S_getI (ci := 10) (j := 3) C inG10 rfl (Nat.le_of_ble_eq_true rfl) rfl (al_at 246 (by decide +kernel) rfl) dX10_append_1 (S_bipush C dX10_append_4 (by decide +kernel) (S_icmpge (tgt := 33) C dX10_append_6 (by decide) (S_aload_n C dX10_append_9 rfl (S_getR (ci := 10) (j := 2) C inG10 rfl (Nat.le_of_ble_eq_true rfl) rfl (al_at 245 (by decide +kernel) rfl) dX10_append_10 (S_aload_n C dX10_append_13 rfl (S_getI (ci := 10) (j := 3) C inG10 rfl (Nat.le_of_ble_eq_true rfl) rfl (al_at 246 (by decide +kernel) rfl) dX10_append_14 (S_iload_n C dX10_append_17 rfl (S_sipush C dX10_append_18 (by decide +kernel) (S_iand C dX10_append_21 (S_iast C dX10_append_22 (S_aload_n C dX10_append_23 rfl (S_dup C dX10_append_24 (S_getI (ci := 10) (j := 3) C inG10 rfl (Nat.le_of_ble_eq_true rfl) rfl (al_at 246 (by decide +kernel) rfl) dX10_append_25 (S_iconst C dX10_append_28 (by decide +kernel) (S_iadd C dX10_append_29 (S_putI (ci := 10) (j := 3) C inG10 rfl (Nat.le_of_ble_eq_true rfl) tyX10 tyX10_ok nmX10 rfl rfl (tyX10_ok 3 (Nat.le_of_ble_eq_true rfl)) (al_at 246 (by decide +kernel) rfl) dX10_append_30 (fun _ _ _ _ _ _ h9 => h9)))))))))))))))))))
    (S_vret C hQ hr dX10_append_33))
theorem dX10_init_0 : decode cX10_init 0 = .ok (.aload_n 0, 1) := by decide +kernel
theorem dX10_init_1 : decode cX10_init 1 = .ok (.invokespecial 3, 3) := by decide +kernel
theorem dX10_init_4 : decode cX10_init 4 = .ok (.aload_n 0, 1) := by decide +kernel
theorem dX10_init_5 : decode cX10_init 5 = .ok (.aload_n 1, 1) := by decide +kernel
theorem dX10_init_6 : decode cX10_init 6 = .ok (.putfield 9, 3) := by decide +kernel
theorem dX10_init_9 : decode cX10_init 9 = .ok (.aload_n 0, 1) := by decide +kernel
theorem dX10_init_10 : decode cX10_init 10 = .ok (.aload_n 2, 1) := by decide +kernel
theorem dX10_init_11 : decode cX10_init 11 = .ok (.putfield 15, 3) := by decide +kernel
theorem dX10_init_14 : decode cX10_init 14 = .ok (.aload_n 0, 1) := by decide +kernel
theorem dX10_init_15 : decode cX10_init 15 = .ok (.bipush 120, 2) := by decide +kernel
theorem dX10_init_17 : decode cX10_init 17 = .ok (.newarray .int, 2) := by decide +kernel
theorem dX10_init_19 : decode cX10_init 19 = .ok (.putfield 18, 3) := by decide +kernel
theorem dX10_init_22 : decode cX10_init 22 = .ok (.return_, 1) := by decide +kernel
def k_X10_init_0 (F : FT) (Q : QT) (ne : Nat) : KT := o_aload 0 (o_oinit (o_aload 0 (o_aload 1 (o_putR 10 0 (o_aload 0 (o_aload 2 (o_putR 10 1 (o_aload 0 (o_ic (nI 120) (o_newa ne 0 120 (o_putR 10 2 (o_cret ne Q))))))))))))
set_option maxRecDepth 20000 in
theorem r_X10_init {a0 : Nat} {a1 : Nat} {a2 : Nat} {n : Nat} {R : RR} {I : II} {J : JJ} {Q : QT} (hn : n + 1 ≤ 90) (h : ∀ F : FT, al_Wk F → al_Ok F (k_X10_init_0 F Q (n + 1)) 0 → F 0 [some (.ref a0), some (.ref a1), some (.ref a2)] [] n R I J) : CT m_X10_init 1 [.ref a0, .ref a1, .ref a2] n R I J Q :=
  CT.of (by decide) hn (fun _ => rfl) (fun _ => Nat.le_of_ble_eq_true rfl) (fun F p l e s m args below meth c Rm t Q0 C hQ hr hm => h F (fun _ _ _ _ _ _ _ _ => S_wk C)
    (S_aload_n C dX10_init_0 rfl (S_oinit C (al_at 242 (by decide +kernel) rfl) (al_at 87 (by decide +kernel) rfl) (al_at 88 (by decide +kernel) rfl) (Nat.le_of_ble_eq_true rfl) (Nat.le_of_ble_eq_true rfl) dX10_init_1 (S_aload_n C dX10_init_4 rfl (S_aload_n C dX10_init_5 rfl (S_putR (ci := 10) (j := 0) C inG10 rfl (Nat.le_of_ble_eq_true rfl) tyX10 tyX10_ok nmX10 rfl rfl (tyX10_ok 0 (Nat.le_of_ble_eq_true rfl)) (Or.inl ⟨_, rfl⟩) hm rfl (al_at 243 (by decide +kernel) rfl) dX10_init_6 (S_aload_n C dX10_init_9 rfl (S_aload_n C dX10_init_10 rfl (S_putR (ci := 10) (j := 1) C inG10 rfl (Nat.le_of_ble_eq_true rfl) tyX10 tyX10_ok nmX10 rfl rfl (tyX10_ok 1 (Nat.le_of_ble_eq_true rfl)) (Or.inl ⟨_, rfl⟩) hm rfl (al_at 244 (by decide +kernel) rfl) dX10_init_11 (S_aload_n C dX10_init_14 rfl (S_bipush C dX10_init_15 (by decide +kernel) (S_newa0 C (al_at 171 (by decide +kernel) rfl) dX10_init_17 (S_putR (ci := 10) (j := 2) C inG10 rfl (Nat.le_of_ble_eq_true rfl) tyX10 tyX10_ok nmX10 rfl rfl (tyX10_ok 2 (Nat.le_of_ble_eq_true rfl)) (Or.inr ⟨_, rfl⟩) hm rfl (al_at 245 (by decide +kernel) rfl) dX10_init_19 (S_cret C hQ hr dX10_init_22))))))))))))))
theorem dX10_isDigit_0 : decode cX10_isDigit 0 = .ok (.iload_n 0, 1) := by decide +kernel
theorem dX10_isDigit_1 : decode cX10_isDigit 1 = .ok (.bipush 48, 2) := by decide +kernel
theorem dX10_isDigit_3 : decode cX10_isDigit 3 = .ok (.if_icmp .lt 13, 3) := by decide +kernel
theorem dX10_isDigit_6 : decode cX10_isDigit 6 = .ok (.iload_n 0, 1) := by decide +kernel
theorem dX10_isDigit_7 : decode cX10_isDigit 7 = .ok (.bipush 57, 2) := by decide +kernel
theorem dX10_isDigit_9 : decode cX10_isDigit 9 = .ok (.if_icmp .gt 7, 3) := by decide +kernel
theorem dX10_isDigit_12 : decode cX10_isDigit 12 = .ok (.iconst 1, 1) := by decide +kernel
theorem dX10_isDigit_13 : decode cX10_isDigit 13 = .ok (.goto 4, 3) := by decide +kernel
theorem dX10_isDigit_16 : decode cX10_isDigit 16 = .ok (.iconst 0, 1) := by decide +kernel
theorem dX10_isDigit_17 : decode cX10_isDigit 17 = .ok (.ireturn, 1) := by decide +kernel
def k_X10_isDigit_0 (F : FT) (Q : QT) : KT := o_iload 0 (o_ic (nI 48) (o_iclt (F 16) (o_iload 0 (o_ic (nI 57) (o_icgt (F 16) (o_ic (nI 1) (F 17)))))))
def k_X10_isDigit_16 (F : FT) (Q : QT) : KT := o_ic (nI 0) (F 17)
def k_X10_isDigit_17 (F : FT) (Q : QT) : KT := o_zret Q
set_option maxRecDepth 20000 in
theorem r_X10_isDigit {a0 : Int32} {n : Nat} {R : RR} {I : II} {J : JJ} {Q : QT} (hn : n + 0 ≤ 90) (h : ∀ F : FT, al_Wk F → al_Ok F (k_X10_isDigit_0 F Q) 0 → al_Ok F (k_X10_isDigit_16 F Q) 16 → al_Ok F (k_X10_isDigit_17 F Q) 17 → F 0 [some (.int a0)] [] n R I J) : CT m_X10_isDigit 0 [.int a0] n R I J Q :=
  CT.of (by decide) hn (fun _ => rfl) (fun _ => Nat.le_of_ble_eq_true rfl) (fun F p l e s m args below meth c Rm t Q0 C hQ hr hm => h F (fun _ _ _ _ _ _ _ _ => S_wk C)
    (S_iload_n C dX10_isDigit_0 rfl (S_bipush C dX10_isDigit_1 (by decide +kernel) (S_icmplt (tgt := 16) C dX10_isDigit_3 (by decide) (S_iload_n C dX10_isDigit_6 rfl (S_bipush C dX10_isDigit_7 (by decide +kernel) (S_icmpgt (tgt := 16) C dX10_isDigit_9 (by decide) (S_iconst C dX10_isDigit_12 (by decide +kernel) (S_goto (tgt := 17) C dX10_isDigit_13 (by decide)))))))))
    (S_iconst C dX10_isDigit_16 (by decide +kernel) (fun _ _ _ _ _ _ h9 => h9))
    (S_zret C hQ hr dX10_isDigit_17))
theorem dX10_isLetter_0 : decode cX10_isLetter 0 = .ok (.iload_n 0, 1) := by decide +kernel
theorem dX10_isLetter_1 : decode cX10_isLetter 1 = .ok (.bipush 97, 2) := by decide +kernel
theorem dX10_isLetter_3 : decode cX10_isLetter 3 = .ok (.if_icmp .lt 13, 3) := by decide +kernel
theorem dX10_isLetter_6 : decode cX10_isLetter 6 = .ok (.iload_n 0, 1) := by decide +kernel
theorem dX10_isLetter_7 : decode cX10_isLetter 7 = .ok (.bipush 122, 2) := by decide +kernel
theorem dX10_isLetter_9 : decode cX10_isLetter 9 = .ok (.if_icmp .gt 7, 3) := by decide +kernel
theorem dX10_isLetter_12 : decode cX10_isLetter 12 = .ok (.iconst 1, 1) := by decide +kernel
theorem dX10_isLetter_13 : decode cX10_isLetter 13 = .ok (.goto 4, 3) := by decide +kernel
theorem dX10_isLetter_16 : decode cX10_isLetter 16 = .ok (.iconst 0, 1) := by decide +kernel
theorem dX10_isLetter_17 : decode cX10_isLetter 17 = .ok (.ireturn, 1) := by decide +kernel
def k_X10_isLetter_0 (F : FT) (Q : QT) : KT := o_iload 0 (o_ic (nI 97) (o_iclt (F 16) (o_iload 0 (o_ic (nI 122) (o_icgt (F 16) (o_ic (nI 1) (F 17)))))))
def k_X10_isLetter_16 (F : FT) (Q : QT) : KT := o_ic (nI 0) (F 17)
def k_X10_isLetter_17 (F : FT) (Q : QT) : KT := o_zret Q
set_option maxRecDepth 20000 in
theorem r_X10_isLetter {a0 : Int32} {n : Nat} {R : RR} {I : II} {J : JJ} {Q : QT} (hn : n + 0 ≤ 90) (h : ∀ F : FT, al_Wk F → al_Ok F (k_X10_isLetter_0 F Q) 0 → al_Ok F (k_X10_isLetter_16 F Q) 16 → al_Ok F (k_X10_isLetter_17 F Q) 17 → F 0 [some (.int a0)] [] n R I J) : CT m_X10_isLetter 0 [.int a0] n R I J Q :=
  CT.of (by decide) hn (fun _ => rfl) (fun _ => Nat.le_of_ble_eq_true rfl) (fun F p l e s m args below meth c Rm t Q0 C hQ hr hm => h F (fun _ _ _ _ _ _ _ _ => S_wk C)
    (S_iload_n C dX10_isLetter_0 rfl (S_bipush C dX10_isLetter_1 (by decide +kernel) (S_icmplt (tgt := 16) C dX10_isLetter_3 (by decide) (S_iload_n C dX10_isLetter_6 rfl (S_bipush C dX10_isLetter_7 (by decide +kernel) (S_icmpgt (tgt := 16) C dX10_isLetter_9 (by decide) (S_iconst C dX10_isLetter_12 (by decide +kernel) (S_goto (tgt := 17) C dX10_isLetter_13 (by decide)))))))))
    (S_iconst C dX10_isLetter_16 (by decide +kernel) (fun _ _ _ _ _ _ h9 => h9))
    (S_zret C hQ hr dX10_isLetter_17))
theorem dX10_isNumberWithin_0 : decode cX10_isNumberWithin 0 = .ok (.aload_n 0, 1) := by decide +kernel
theorem dX10_isNumberWithin_1 : decode cX10_isNumberWithin 1 = .ok (.getfield 42, 3) := by decide +kernel
theorem dX10_isNumberWithin_4 : decode cX10_isNumberWithin 4 = .ok (.iconst 2, 1) := by decide +kernel
theorem dX10_isNumberWithin_5 : decode cX10_isNumberWithin 5 = .ok (.if_icmp .ne 23, 3) := by decide +kernel
theorem dX10_isNumberWithin_8 : decode cX10_isNumberWithin 8 = .ok (.aload_n 0, 1) := by decide +kernel
theorem dX10_isNumberWithin_9 : decode cX10_isNumberWithin 9 = .ok (.getfield 80, 3) := by decide +kernel
theorem dX10_isNumberWithin_12 : decode cX10_isNumberWithin 12 = .ok (.iload_n 1, 1) := by decide +kernel
theorem dX10_isNumberWithin_13 : decode cX10_isNumberWithin 13 = .ok (.if_icmp .lt 15, 3) := by decide +kernel
theorem dX10_isNumberWithin_16 : decode cX10_isNumberWithin 16 = .ok (.aload_n 0, 1) := by decide +kernel
theorem dX10_isNumberWithin_17 : decode cX10_isNumberWithin 17 = .ok (.getfield 80, 3) := by decide +kernel
theorem dX10_isNumberWithin_20 : decode cX10_isNumberWithin 20 = .ok (.iload_n 2, 1) := by decide +kernel
theorem dX10_isNumberWithin_21 : decode cX10_isNumberWithin 21 = .ok (.if_icmp .gt 7, 3) := by decide +kernel
theorem dX10_isNumberWithin_24 : decode cX10_isNumberWithin 24 = .ok (.iconst 1, 1) := by decide +kernel
theorem dX10_isNumberWithin_25 : decode cX10_isNumberWithin 25 = .ok (.goto 4, 3) := by decide +kernel
theorem dX10_isNumberWithin_28 : decode cX10_isNumberWithin 28 = .ok (.iconst 0, 1) := by decide +kernel
theorem dX10_isNumberWithin_29 : decode cX10_isNumberWithin 29 = .ok (.ireturn, 1) := by decide +kernel
def k_X10_isNumberWithin_0 (F : FT) (Q : QT) : KT := o_aload 0 (o_getI 10 6 (o_ic (nI 2) (o_icne (F 28) (o_aload 0 (o_getI 10 7 (o_iload 1 (o_iclt (F 28) (o_aload 0 (o_getI 10 7 (o_iload 2 (o_icgt (F 28) (o_ic (nI 1) (F 29)))))))))))))
def k_X10_isNumberWithin_28 (F : FT) (Q : QT) : KT := o_ic (nI 0) (F 29)
def k_X10_isNumberWithin_29 (F : FT) (Q : QT) : KT := o_zret Q
set_option maxRecDepth 20000 in
theorem r_X10_isNumberWithin {a0 : Nat} {a1 : Int32} {a2 : Int32} {n : Nat} {R : RR} {I : II} {J : JJ} {Q : QT} (hn : n + 0 ≤ 90) (h : ∀ F : FT, al_Wk F → al_Ok F (k_X10_isNumberWithin_0 F Q) 0 → al_Ok F (k_X10_isNumberWithin_28 F Q) 28 → al_Ok F (k_X10_isNumberWithin_29 F Q) 29 → F 0 [some (.ref a0), some (.int a1), some (.int a2)] [] n R I J) : CT m_X10_isNumberWithin 0 [.ref a0, .int a1, .int a2] n R I J Q :=
  CT.of (by decide) hn (fun _ => rfl) (fun _ => Nat.le_of_ble_eq_true rfl) (fun F p l e s m args below meth c Rm t Q0 C hQ hr hm => h F (fun _ _ _ _ _ _ _ _ => S_wk C)
    (S_aload_n C dX10_isNumberWithin_0 rfl (S_getI (ci := 10) (j := 6) C inG10 rfl (Nat.le_of_ble_eq_true rfl) rfl (al_at 250 (by decide +kernel) rfl) dX10_isNumberWithin_1 (S_iconst C dX10_isNumberWithin_4 (by decide +kernel) (S_icmpne (tgt := 28) C dX10_isNumberWithin_5 (by decide) (S_aload_n C dX10_isNumberWithin_8 rfl (S_getI (ci := 10) (j := 7) C inG10 rfl (Nat.le_of_ble_eq_true rfl) rfl (al_at 251 (by decide +kernel) rfl) dX10_isNumberWithin_9 (S_iload_n C dX10_isNumberWithin_12 rfl (S_icmplt (tgt := 28) C dX10_isNumberWithin_13 (by decide) (S_aload_n C dX10_isNumberWithin_16 rfl (S_getI (ci := 10) (j := 7) C inG10 rfl (Nat.le_of_ble_eq_true rfl) rfl (al_at 251 (by decide +kernel) rfl) dX10_isNumberWithin_17 (S_iload_n C dX10_isNumberWithin_20 rfl (S_icmpgt (tgt := 28) C dX10_isNumberWithin_21 (by decide) (S_iconst C dX10_isNumberWithin_24 (by decide +kernel) (S_goto (tgt := 29) C dX10_isNumberWithin_25 (by decide)))))))))))))))
    (S_iconst C dX10_isNumberWithin_28 (by decide +kernel) (fun _ _ _ _ _ _ h9 => h9))
    (S_zret C hQ hr dX10_isNumberWithin_29))
theorem dX10_isWord_0 : decode cX10_isWord 0 = .ok (.aload_n 1, 1) := by decide +kernel
theorem dX10_isWord_1 : decode cX10_isWord 1 = .ok (.invokevirtual 120, 3) := by decide +kernel
theorem dX10_isWord_4 : decode cX10_isWord 4 = .ok (.aload_n 0, 1) := by decide +kernel
theorem dX10_isWord_5 : decode cX10_isWord 5 = .ok (.getfield 32, 3) := by decide +kernel
theorem dX10_isWord_8 : decode cX10_isWord 8 = .ok (.aload_n 0, 1) := by decide +kernel
theorem dX10_isWord_9 : decode cX10_isWord 9 = .ok (.getfield 45, 3) := by decide +kernel
theorem dX10_isWord_12 : decode cX10_isWord 12 = .ok (.isub, 1) := by decide +kernel
theorem dX10_isWord_13 : decode cX10_isWord 13 = .ok (.if_icmp .eq 5, 3) := by decide +kernel
theorem dX10_isWord_16 : decode cX10_isWord 16 = .ok (.iconst 0, 1) := by decide +kernel
theorem dX10_isWord_17 : decode cX10_isWord 17 = .ok (.ireturn, 1) := by decide +kernel
theorem dX10_isWord_18 : decode cX10_isWord 18 = .ok (.iconst 0, 1) := by decide +kernel
theorem dX10_isWord_19 : decode cX10_isWord 19 = .ok (.istore_n 2, 1) := by decide +kernel
theorem dX10_isWord_20 : decode cX10_isWord 20 = .ok (.iload_n 2, 1) := by decide +kernel
theorem dX10_isWord_21 : decode cX10_isWord 21 = .ok (.aload_n 1, 1) := by decide +kernel
theorem dX10_isWord_22 : decode cX10_isWord 22 = .ok (.invokevirtual 120, 3) := by decide +kernel
theorem dX10_isWord_25 : decode cX10_isWord 25 = .ok (.if_icmp .ge 30, 3) := by decide +kernel
theorem dX10_isWord_28 : decode cX10_isWord 28 = .ok (.aload_n 0, 1) := by decide +kernel
theorem dX10_isWord_29 : decode cX10_isWord 29 = .ok (.getfield 18, 3) := by decide +kernel
theorem dX10_isWord_32 : decode cX10_isWord 32 = .ok (.aload_n 0, 1) := by decide +kernel
theorem dX10_isWord_33 : decode cX10_isWord 33 = .ok (.getfield 45, 3) := by decide +kernel
theorem dX10_isWord_36 : decode cX10_isWord 36 = .ok (.iload_n 2, 1) := by decide +kernel
theorem dX10_isWord_37 : decode cX10_isWord 37 = .ok (.iadd, 1) := by decide +kernel
theorem dX10_isWord_38 : decode cX10_isWord 38 = .ok (.iaload, 1) := by decide +kernel
theorem dX10_isWord_39 : decode cX10_isWord 39 = .ok (.aload_n 1, 1) := by decide +kernel
theorem dX10_isWord_40 : decode cX10_isWord 40 = .ok (.iload_n 2, 1) := by decide +kernel
theorem dX10_isWord_41 : decode cX10_isWord 41 = .ok (.invokevirtual 124, 3) := by decide +kernel
theorem dX10_isWord_44 : decode cX10_isWord 44 = .ok (.if_icmp .eq 5, 3) := by decide +kernel
theorem dX10_isWord_47 : decode cX10_isWord 47 = .ok (.iconst 0, 1) := by decide +kernel
theorem dX10_isWord_48 : decode cX10_isWord 48 = .ok (.ireturn, 1) := by decide +kernel
theorem dX10_isWord_49 : decode cX10_isWord 49 = .ok (.iinc 2 1, 3) := by decide +kernel
theorem dX10_isWord_52 : decode cX10_isWord 52 = .ok (.goto (-32), 3) := by decide +kernel
theorem dX10_isWord_55 : decode cX10_isWord 55 = .ok (.iconst 1, 1) := by decide +kernel
theorem dX10_isWord_56 : decode cX10_isWord 56 = .ok (.ireturn, 1) := by decide +kernel
def k_X10_isWord_0 (F : FT) (Q : QT) : KT := o_aload 1 (o_cT m_J0_length_8abf5 1 (o_aload 0 (o_getI 10 5 (o_aload 0 (o_getI 10 4 (o_isub (o_iceq (F 18) (o_ic (nI 0) (o_zret Q)))))))))
def k_X10_isWord_18 (F : FT) (Q : QT) : KT := o_ic (nI 0) (o_istore 2 (F 20))
def k_X10_isWord_20 (F : FT) (Q : QT) : KT := o_iload 2 (o_aload 1 (o_cT m_J0_length_8abf5 1 (o_icge (F 55) (o_aload 0 (o_getR 10 2 (o_aload 0 (o_getI 10 4 (o_iload 2 (o_iadd (o_iald (o_aload 1 (o_iload 2 (o_cT m_J0_charAt_5068e 2 (o_iceq (F 49) (o_ic (nI 0) (o_zret Q))))))))))))))))
def k_X10_isWord_49 (F : FT) (Q : QT) : KT := o_iinc 2 (nI 1) (F 20)
def k_X10_isWord_55 (F : FT) (Q : QT) : KT := o_ic (nI 1) (o_zret Q)
set_option maxRecDepth 20000 in
theorem r_X10_isWord {a0 : Nat} {a1 : Nat} {n : Nat} {R : RR} {I : II} {J : JJ} {Q : QT} (hn : n + 0 ≤ 90) (h : ∀ F : FT, al_Wk F → al_Ok F (k_X10_isWord_0 F Q) 0 → al_Ok F (k_X10_isWord_18 F Q) 18 → al_Ok F (k_X10_isWord_20 F Q) 20 → al_Ok F (k_X10_isWord_49 F Q) 49 → al_Ok F (k_X10_isWord_55 F Q) 55 → F 0 [some (.ref a0), some (.ref a1), none] [] n R I J) : CT m_X10_isWord 0 [.ref a0, .ref a1] n R I J Q :=
  CT.of (by decide) hn (fun _ => rfl) (fun _ => Nat.le_of_ble_eq_true rfl) (fun F p l e s m args below meth c Rm t Q0 C hQ hr hm => h F (fun _ _ _ _ _ _ _ _ => S_wk C)
    (S_aload_n C dX10_isWord_0 rfl (S_cT C ok_J0_length_8abf5 rfl (al_at 724 (by decide +kernel) rfl) (Nat.le_of_ble_eq_true rfl) (Nat.le_of_ble_eq_true rfl) dX10_isWord_1 (S_aload_n C dX10_isWord_4 rfl (S_getI (ci := 10) (j := 5) C inG10 rfl (Nat.le_of_ble_eq_true rfl) rfl (al_at 249 (by decide +kernel) rfl) dX10_isWord_5 (S_aload_n C dX10_isWord_8 rfl (S_getI (ci := 10) (j := 4) C inG10 rfl (Nat.le_of_ble_eq_true rfl) rfl (al_at 248 (by decide +kernel) rfl) dX10_isWord_9 (S_isub C dX10_isWord_12 (S_icmpeq (tgt := 18) C dX10_isWord_13 (by decide) (S_iconst C dX10_isWord_16 (by decide +kernel) (S_zret C hQ hr dX10_isWord_17))))))))))
    (S_iconst C dX10_isWord_18 (by decide +kernel) (S_istore_n C dX10_isWord_19 rfl (Nat.le_of_ble_eq_true rfl) (fun _ _ _ _ _ _ h9 => h9)))
    (S_iload_n C dX10_isWord_20 rfl (S_aload_n C dX10_isWord_21 rfl (S_cT C ok_J0_length_8abf5 rfl (al_at 724 (by decide +kernel) rfl) (Nat.le_of_ble_eq_true rfl) (Nat.le_of_ble_eq_true rfl) dX10_isWord_22 (S_icmpge (tgt := 55) C dX10_isWord_25 (by decide) (S_aload_n C dX10_isWord_28 rfl (S_getR (ci := 10) (j := 2) C inG10 rfl (Nat.le_of_ble_eq_true rfl) rfl (al_at 245 (by decide +kernel) rfl) dX10_isWord_29 (S_aload_n C dX10_isWord_32 rfl (S_getI (ci := 10) (j := 4) C inG10 rfl (Nat.le_of_ble_eq_true rfl) rfl (al_at 248 (by decide +kernel) rfl) dX10_isWord_33 (S_iload_n C dX10_isWord_36 rfl (S_iadd C dX10_isWord_37 (S_iald C dX10_isWord_38 (S_aload_n C dX10_isWord_39 rfl (S_iload_n C dX10_isWord_40 rfl (S_cT C ok_J0_charAt_5068e rfl (al_at 734 (by decide +kernel) rfl) (Nat.le_of_ble_eq_true rfl) (Nat.le_of_ble_eq_true rfl) dX10_isWord_41 (S_icmpeq (tgt := 49) C dX10_isWord_44 (by decide) (S_iconst C dX10_isWord_47 (by decide +kernel) (S_zret C hQ hr dX10_isWord_48)))))))))))))))))
    (S_iinc C dX10_isWord_49 (by decide +kernel) (Nat.le_of_ble_eq_true rfl) (S_goto (tgt := 20) C dX10_isWord_52 (by decide)))
    (S_iconst C dX10_isWord_55 (by decide +kernel) (S_zret C hQ hr dX10_isWord_56)))
theorem dX10_kindNamed_0 : decode cX10_kindNamed 0 = .ok (.iconst 0, 1) := by decide +kernel
theorem dX10_kindNamed_1 : decode cX10_kindNamed 1 = .ok (.istore_n 1, 1) := by decide +kernel
theorem dX10_kindNamed_2 : decode cX10_kindNamed 2 = .ok (.iload_n 1, 1) := by decide +kernel
theorem dX10_kindNamed_3 : decode cX10_kindNamed 3 = .ok (.bipush 6, 2) := by decide +kernel
theorem dX10_kindNamed_5 : decode cX10_kindNamed 5 = .ok (.if_icmp .ge 30, 3) := by decide +kernel
theorem dX10_kindNamed_8 : decode cX10_kindNamed 8 = .ok (.aload_n 0, 1) := by decide +kernel
theorem dX10_kindNamed_9 : decode cX10_kindNamed 9 = .ok (.aload_n 0, 1) := by decide +kernel
theorem dX10_kindNamed_10 : decode cX10_kindNamed 10 = .ok (.getfield 9, 3) := by decide +kernel
theorem dX10_kindNamed_13 : decode cX10_kindNamed 13 = .ok (.getfield 110, 3) := by decide +kernel
theorem dX10_kindNamed_16 : decode cX10_kindNamed 16 = .ok (.iload_n 1, 1) := by decide +kernel
theorem dX10_kindNamed_17 : decode cX10_kindNamed 17 = .ok (.aaload, 1) := by decide +kernel
theorem dX10_kindNamed_18 : decode cX10_kindNamed 18 = .ok (.invokevirtual 114, 3) := by decide +kernel
theorem dX10_kindNamed_21 : decode cX10_kindNamed 21 = .ok (.invokevirtual 50, 3) := by decide +kernel
theorem dX10_kindNamed_24 : decode cX10_kindNamed 24 = .ok (.ifCond .eq 5, 3) := by decide +kernel
theorem dX10_kindNamed_27 : decode cX10_kindNamed 27 = .ok (.iload_n 1, 1) := by decide +kernel
theorem dX10_kindNamed_28 : decode cX10_kindNamed 28 = .ok (.ireturn, 1) := by decide +kernel
theorem dX10_kindNamed_29 : decode cX10_kindNamed 29 = .ok (.iinc 1 1, 3) := by decide +kernel
theorem dX10_kindNamed_32 : decode cX10_kindNamed 32 = .ok (.goto (-30), 3) := by decide +kernel
theorem dX10_kindNamed_35 : decode cX10_kindNamed 35 = .ok (.iconst (-1), 1) := by decide +kernel
theorem dX10_kindNamed_36 : decode cX10_kindNamed 36 = .ok (.ireturn, 1) := by decide +kernel
def k_X10_kindNamed_0 (F : FT) (Q : QT) : KT := o_ic (nI 0) (o_istore 1 (F 2))
def k_X10_kindNamed_2 (F : FT) (Q : QT) : KT := o_iload 1 (o_ic (nI 6) (o_icge (F 35) (o_aload 0 (o_aload 0 (o_getR 10 0 (o_getR 9 0 (o_iload 1 (o_aald 3 (o_cU f_title 1 (o_cV 10 m_X10_isWord 2 (o_ifeq (F 29) (o_iload 1 (o_iret Q)))))))))))))
def k_X10_kindNamed_29 (F : FT) (Q : QT) : KT := o_iinc 1 (nI 1) (F 2)
def k_X10_kindNamed_35 (F : FT) (Q : QT) : KT := o_ic (-1) (o_iret Q)
set_option maxRecDepth 20000 in
theorem r_X10_kindNamed {a0 : Nat} {n : Nat} {R : RR} {I : II} {J : JJ} {Q : QT} (hn : n + 0 ≤ 90) (h : ∀ F : FT, al_Wk F → al_Ok F (k_X10_kindNamed_0 F Q) 0 → al_Ok F (k_X10_kindNamed_2 F Q) 2 → al_Ok F (k_X10_kindNamed_29 F Q) 29 → al_Ok F (k_X10_kindNamed_35 F Q) 35 → F 0 [some (.ref a0), none] [] n R I J) : CT m_X10_kindNamed 0 [.ref a0] n R I J Q :=
  CT.of (by decide) hn (fun _ => rfl) (fun _ => Nat.le_of_ble_eq_true rfl) (fun F p l e s m args below meth c Rm t Q0 C hQ hr hm => h F (fun _ _ _ _ _ _ _ _ => S_wk C)
    (S_iconst C dX10_kindNamed_0 (by decide +kernel) (S_istore_n C dX10_kindNamed_1 rfl (Nat.le_of_ble_eq_true rfl) (fun _ _ _ _ _ _ h9 => h9)))
    (S_iload_n C dX10_kindNamed_2 rfl (S_bipush C dX10_kindNamed_3 (by decide +kernel) (S_icmpge (tgt := 35) C dX10_kindNamed_5 (by decide) (S_aload_n C dX10_kindNamed_8 rfl (S_aload_n C dX10_kindNamed_9 rfl (S_getR (ci := 10) (j := 0) C inG10 rfl (Nat.le_of_ble_eq_true rfl) rfl (al_at 243 (by decide +kernel) rfl) dX10_kindNamed_10 (S_getR (ci := 9) (j := 0) C inG9 rfl (Nat.le_of_ble_eq_true rfl) rfl (al_at 173 (by decide +kernel) rfl) dX10_kindNamed_13 (S_iload_n C dX10_kindNamed_16 rfl (S_aald (ak := 3) C (fun _ _ _ _ _ _ => rfl) (fun _ => rfl) dX10_kindNamed_17 (S_cU (b0 := cX3_title) (m0 := 1) (r0 := (some (.object "java/lang/String"))) C okU_title (al_at 795 (by decide +kernel) rfl) (al_at 793 (by decide +kernel) rfl) (al_at 816 (by decide +kernel) rfl) ⟨by decide, by decide⟩ (al_at 792 (by decide +kernel) rfl) (Nat.le_of_ble_eq_true rfl) (Nat.le_of_ble_eq_true rfl) dX10_kindNamed_18 (S_cV (ci := 10) C ok_X10_isWord rfl (al_at 720 (by decide +kernel) rfl) (Nat.le_of_ble_eq_true rfl) (Nat.le_of_ble_eq_true rfl) dX10_kindNamed_21 (S_ifeq (tgt := 29) C dX10_kindNamed_24 (by decide) (S_iload_n C dX10_kindNamed_27 rfl (S_iret C hQ hr dX10_kindNamed_28))))))))))))))
    (S_iinc C dX10_kindNamed_29 (by decide +kernel) (Nat.le_of_ble_eq_true rfl) (S_goto (tgt := 2) C dX10_kindNamed_32 (by decide)))
    (S_iconst C dX10_kindNamed_35 (by decide +kernel) (S_iret C hQ hr dX10_kindNamed_36)))
theorem dX10_passDigits_0 : decode cX10_passDigits 0 = .ok (.aload_n 0, 1) := by decide +kernel
theorem dX10_passDigits_1 : decode cX10_passDigits 1 = .ok (.iconst 0, 1) := by decide +kernel
theorem dX10_passDigits_2 : decode cX10_passDigits 2 = .ok (.putfield 80, 3) := by decide +kernel
theorem dX10_passDigits_5 : decode cX10_passDigits 5 = .ok (.aload_n 0, 1) := by decide +kernel
theorem dX10_passDigits_6 : decode cX10_passDigits 6 = .ok (.getfield 32, 3) := by decide +kernel
theorem dX10_passDigits_9 : decode cX10_passDigits 9 = .ok (.aload_n 0, 1) := by decide +kernel
theorem dX10_passDigits_10 : decode cX10_passDigits 10 = .ok (.getfield 22, 3) := by decide +kernel
theorem dX10_passDigits_13 : decode cX10_passDigits 13 = .ok (.if_icmp .ge 61, 3) := by decide +kernel
theorem dX10_passDigits_16 : decode cX10_passDigits 16 = .ok (.aload_n 0, 1) := by decide +kernel
theorem dX10_passDigits_17 : decode cX10_passDigits 17 = .ok (.getfield 18, 3) := by decide +kernel
theorem dX10_passDigits_20 : decode cX10_passDigits 20 = .ok (.aload_n 0, 1) := by decide +kernel
theorem dX10_passDigits_21 : decode cX10_passDigits 21 = .ok (.getfield 32, 3) := by decide +kernel
theorem dX10_passDigits_24 : decode cX10_passDigits 24 = .ok (.iaload, 1) := by decide +kernel
theorem dX10_passDigits_25 : decode cX10_passDigits 25 = .ok (.invokestatic 134, 3) := by decide +kernel
theorem dX10_passDigits_28 : decode cX10_passDigits 28 = .ok (.ifCond .eq 46, 3) := by decide +kernel
theorem dX10_passDigits_31 : decode cX10_passDigits 31 = .ok (.aload_n 0, 1) := by decide +kernel
theorem dX10_passDigits_32 : decode cX10_passDigits 32 = .ok (.bipush 10, 2) := by decide +kernel
theorem dX10_passDigits_34 : decode cX10_passDigits 34 = .ok (.aload_n 0, 1) := by decide +kernel
theorem dX10_passDigits_35 : decode cX10_passDigits 35 = .ok (.getfield 80, 3) := by decide +kernel
theorem dX10_passDigits_38 : decode cX10_passDigits 38 = .ok (.imul, 1) := by decide +kernel
theorem dX10_passDigits_39 : decode cX10_passDigits 39 = .ok (.aload_n 0, 1) := by decide +kernel
theorem dX10_passDigits_40 : decode cX10_passDigits 40 = .ok (.getfield 18, 3) := by decide +kernel
theorem dX10_passDigits_43 : decode cX10_passDigits 43 = .ok (.aload_n 0, 1) := by decide +kernel
theorem dX10_passDigits_44 : decode cX10_passDigits 44 = .ok (.getfield 32, 3) := by decide +kernel
theorem dX10_passDigits_47 : decode cX10_passDigits 47 = .ok (.iaload, 1) := by decide +kernel
theorem dX10_passDigits_48 : decode cX10_passDigits 48 = .ok (.iadd, 1) := by decide +kernel
theorem dX10_passDigits_49 : decode cX10_passDigits 49 = .ok (.bipush 48, 2) := by decide +kernel
theorem dX10_passDigits_51 : decode cX10_passDigits 51 = .ok (.isub, 1) := by decide +kernel
theorem dX10_passDigits_52 : decode cX10_passDigits 52 = .ok (.sipush 10000, 3) := by decide +kernel
theorem dX10_passDigits_55 : decode cX10_passDigits 55 = .ok (.invokestatic 140, 3) := by decide +kernel
theorem dX10_passDigits_58 : decode cX10_passDigits 58 = .ok (.putfield 80, 3) := by decide +kernel
theorem dX10_passDigits_61 : decode cX10_passDigits 61 = .ok (.aload_n 0, 1) := by decide +kernel
theorem dX10_passDigits_62 : decode cX10_passDigits 62 = .ok (.dup, 1) := by decide +kernel
theorem dX10_passDigits_63 : decode cX10_passDigits 63 = .ok (.getfield 32, 3) := by decide +kernel
theorem dX10_passDigits_66 : decode cX10_passDigits 66 = .ok (.iconst 1, 1) := by decide +kernel
theorem dX10_passDigits_67 : decode cX10_passDigits 67 = .ok (.iadd, 1) := by decide +kernel
theorem dX10_passDigits_68 : decode cX10_passDigits 68 = .ok (.putfield 32, 3) := by decide +kernel
theorem dX10_passDigits_71 : decode cX10_passDigits 71 = .ok (.goto (-66), 3) := by decide +kernel
theorem dX10_passDigits_74 : decode cX10_passDigits 74 = .ok (.return_, 1) := by decide +kernel
def k_X10_passDigits_0 (F : FT) (Q : QT) : KT := o_aload 0 (o_ic (nI 0) (o_putI 10 7 (F 5)))
def k_X10_passDigits_5 (F : FT) (Q : QT) : KT := o_aload 0 (o_getI 10 5 (o_aload 0 (o_getI 10 3 (o_icge (F 74) (o_aload 0 (o_getR 10 2 (o_aload 0 (o_getI 10 5 (o_iald (o_cS m_X10_isDigit 1 (o_ifeq (F 74) (o_aload 0 (o_ic (nI 10) (o_aload 0 (o_getI 10 7 (o_imul (o_aload 0 (o_getR 10 2 (o_aload 0 (o_getI 10 5 (o_iald (o_iadd (o_ic (nI 48) (o_isub (o_ic (nI 10000) (o_mmin (o_putI 10 7 (o_aload 0 (o_dup (o_getI 10 5 (o_ic (nI 1) (o_iadd (o_putI 10 5 (F 5))))))))))))))))))))))))))))))))))
def k_X10_passDigits_74 (F : FT) (Q : QT) : KT := o_vret Q
set_option maxRecDepth 20000 in
theorem r_X10_passDigits {a0 : Nat} {n : Nat} {R : RR} {I : II} {J : JJ} {Q : QT} (hn : n + 0 ≤ 90) (h : ∀ F : FT, al_Wk F → al_Ok F (k_X10_passDigits_0 F Q) 0 → al_Ok F (k_X10_passDigits_5 F Q) 5 → al_Ok F (k_X10_passDigits_74 F Q) 74 → F 0 [some (.ref a0)] [] n R I J) : CT m_X10_passDigits 0 [.ref a0] n R I J Q :=
  CT.of (by decide) hn (fun _ => rfl) (fun _ => Nat.le_of_ble_eq_true rfl) (fun F p l e s m args below meth c Rm t Q0 C hQ hr hm => h F (fun _ _ _ _ _ _ _ _ => S_wk C)
    (S_aload_n C dX10_passDigits_0 rfl (S_iconst C dX10_passDigits_1 (by decide +kernel) (S_putI (ci := 10) (j := 7) C inG10 rfl (Nat.le_of_ble_eq_true rfl) tyX10 tyX10_ok nmX10 rfl rfl (tyX10_ok 7 (Nat.le_of_ble_eq_true rfl)) (al_at 251 (by decide +kernel) rfl) dX10_passDigits_2 (fun _ _ _ _ _ _ h9 => h9))))
    (S_aload_n C dX10_passDigits_5 rfl (S_getI (ci := 10) (j := 5) C inG10 rfl (Nat.le_of_ble_eq_true rfl) rfl (al_at 249 (by decide +kernel) rfl) dX10_passDigits_6 (S_aload_n C dX10_passDigits_9 rfl (S_getI (ci := 10) (j := 3) C inG10 rfl (Nat.le_of_ble_eq_true rfl) rfl (al_at 246 (by decide +kernel) rfl) dX10_passDigits_10 (S_icmpge (tgt := 74) C dX10_passDigits_13 (by decide) (S_aload_n C dX10_passDigits_16 rfl (S_getR (ci := 10) (j := 2) C inG10 rfl (Nat.le_of_ble_eq_true rfl) rfl (al_at 245 (by decide +kernel) rfl) dX10_passDigits_17 (S_aload_n C dX10_passDigits_20 rfl (S_getI (ci := 10) (j := 5) C inG10 rfl (Nat.le_of_ble_eq_true rfl) rfl (al_at 249 (by decide +kernel) rfl) dX10_passDigits_21 (S_iald C dX10_passDigits_24 (S_cS C ok_X10_isDigit (al_at 707 (by decide +kernel) rfl) (Nat.le_of_ble_eq_true rfl) (Nat.le_of_ble_eq_true rfl) dX10_passDigits_25 (S_ifeq (tgt := 74) C dX10_passDigits_28 (by decide) (S_aload_n C dX10_passDigits_31 rfl (S_bipush C dX10_passDigits_32 (by decide +kernel) (S_aload_n C dX10_passDigits_34 rfl (S_getI (ci := 10) (j := 7) C inG10 rfl (Nat.le_of_ble_eq_true rfl) rfl (al_at 251 (by decide +kernel) rfl) dX10_passDigits_35 (S_imul C dX10_passDigits_38 (S_aload_n C dX10_passDigits_39 rfl (S_getR (ci := 10) (j := 2) C inG10 rfl (Nat.le_of_ble_eq_true rfl) rfl (al_at 245 (by decide +kernel) rfl) dX10_passDigits_40 (S_aload_n C dX10_passDigits_43 rfl (S_getI (ci := 10) (j := 5) C inG10 rfl (Nat.le_of_ble_eq_true rfl) rfl (al_at 249 (by decide +kernel) rfl) dX10_passDigits_44 (S_iald C dX10_passDigits_47 (S_iadd C dX10_passDigits_48 (S_bipush C dX10_passDigits_49 (by decide +kernel) (S_isub C dX10_passDigits_51 (S_sipush C dX10_passDigits_52 (by decide +kernel) (S_mmin C (al_at 714 (by decide +kernel) rfl) (al_at 658 (by decide +kernel) rfl) (al_at 73 (by decide +kernel) rfl) (al_at 659 (by decide +kernel) rfl) (Nat.le_of_ble_eq_true rfl) (Nat.le_of_ble_eq_true rfl) dX10_passDigits_55 (S_putI (ci := 10) (j := 7) C inG10 rfl (Nat.le_of_ble_eq_true rfl) tyX10 tyX10_ok nmX10 rfl rfl (tyX10_ok 7 (Nat.le_of_ble_eq_true rfl)) (al_at 251 (by decide +kernel) rfl) dX10_passDigits_58 (S_aload_n C dX10_passDigits_61 rfl (S_dup C dX10_passDigits_62 (S_getI (ci := 10) (j := 5) C inG10 rfl (Nat.le_of_ble_eq_true rfl) rfl (al_at 249 (by decide +kernel) rfl) dX10_passDigits_63 (S_iconst C dX10_passDigits_66 (by decide +kernel) (S_iadd C dX10_passDigits_67 (S_putI (ci := 10) (j := 5) C inG10 rfl (Nat.le_of_ble_eq_true rfl) tyX10 tyX10_ok nmX10 rfl rfl (tyX10_ok 5 (Nat.le_of_ble_eq_true rfl)) (al_at 249 (by decide +kernel) rfl) dX10_passDigits_68 (S_goto (tgt := 5) C dX10_passDigits_71 (by decide))))))))))))))))))))))))))))))))))))
    (S_vret C hQ hr dX10_passDigits_74))
theorem dX10_passLetters_0 : decode cX10_passLetters 0 = .ok (.aload_n 0, 1) := by decide +kernel
theorem dX10_passLetters_1 : decode cX10_passLetters 1 = .ok (.getfield 32, 3) := by decide +kernel
theorem dX10_passLetters_4 : decode cX10_passLetters 4 = .ok (.aload_n 0, 1) := by decide +kernel
theorem dX10_passLetters_5 : decode cX10_passLetters 5 = .ok (.getfield 22, 3) := by decide +kernel
theorem dX10_passLetters_8 : decode cX10_passLetters 8 = .ok (.if_icmp .ge 31, 3) := by decide +kernel
theorem dX10_passLetters_11 : decode cX10_passLetters 11 = .ok (.aload_n 0, 1) := by decide +kernel
theorem dX10_passLetters_12 : decode cX10_passLetters 12 = .ok (.getfield 18, 3) := by decide +kernel
theorem dX10_passLetters_15 : decode cX10_passLetters 15 = .ok (.aload_n 0, 1) := by decide +kernel
theorem dX10_passLetters_16 : decode cX10_passLetters 16 = .ok (.getfield 32, 3) := by decide +kernel
theorem dX10_passLetters_19 : decode cX10_passLetters 19 = .ok (.iaload, 1) := by decide +kernel
theorem dX10_passLetters_20 : decode cX10_passLetters 20 = .ok (.invokestatic 128, 3) := by decide +kernel
theorem dX10_passLetters_23 : decode cX10_passLetters 23 = .ok (.ifCond .eq 16, 3) := by decide +kernel
theorem dX10_passLetters_26 : decode cX10_passLetters 26 = .ok (.aload_n 0, 1) := by decide +kernel
theorem dX10_passLetters_27 : decode cX10_passLetters 27 = .ok (.dup, 1) := by decide +kernel
theorem dX10_passLetters_28 : decode cX10_passLetters 28 = .ok (.getfield 32, 3) := by decide +kernel
theorem dX10_passLetters_31 : decode cX10_passLetters 31 = .ok (.iconst 1, 1) := by decide +kernel
theorem dX10_passLetters_32 : decode cX10_passLetters 32 = .ok (.iadd, 1) := by decide +kernel
theorem dX10_passLetters_33 : decode cX10_passLetters 33 = .ok (.putfield 32, 3) := by decide +kernel
theorem dX10_passLetters_36 : decode cX10_passLetters 36 = .ok (.goto (-36), 3) := by decide +kernel
theorem dX10_passLetters_39 : decode cX10_passLetters 39 = .ok (.return_, 1) := by decide +kernel
def k_X10_passLetters_0 (F : FT) (Q : QT) : KT := o_aload 0 (o_getI 10 5 (o_aload 0 (o_getI 10 3 (o_icge (F 39) (o_aload 0 (o_getR 10 2 (o_aload 0 (o_getI 10 5 (o_iald (o_cS m_X10_isLetter 1 (o_ifeq (F 39) (o_aload 0 (o_dup (o_getI 10 5 (o_ic (nI 1) (o_iadd (o_putI 10 5 (F 0))))))))))))))))))
def k_X10_passLetters_39 (F : FT) (Q : QT) : KT := o_vret Q
set_option maxRecDepth 20000 in
theorem r_X10_passLetters {a0 : Nat} {n : Nat} {R : RR} {I : II} {J : JJ} {Q : QT} (hn : n + 0 ≤ 90) (h : ∀ F : FT, al_Wk F → al_Ok F (k_X10_passLetters_0 F Q) 0 → al_Ok F (k_X10_passLetters_39 F Q) 39 → F 0 [some (.ref a0)] [] n R I J) : CT m_X10_passLetters 0 [.ref a0] n R I J Q :=
  CT.of (by decide) hn (fun _ => rfl) (fun _ => Nat.le_of_ble_eq_true rfl) (fun F p l e s m args below meth c Rm t Q0 C hQ hr hm => h F (fun _ _ _ _ _ _ _ _ => S_wk C)
    (S_aload_n C dX10_passLetters_0 rfl (S_getI (ci := 10) (j := 5) C inG10 rfl (Nat.le_of_ble_eq_true rfl) rfl (al_at 249 (by decide +kernel) rfl) dX10_passLetters_1 (S_aload_n C dX10_passLetters_4 rfl (S_getI (ci := 10) (j := 3) C inG10 rfl (Nat.le_of_ble_eq_true rfl) rfl (al_at 246 (by decide +kernel) rfl) dX10_passLetters_5 (S_icmpge (tgt := 39) C dX10_passLetters_8 (by decide) (S_aload_n C dX10_passLetters_11 rfl (S_getR (ci := 10) (j := 2) C inG10 rfl (Nat.le_of_ble_eq_true rfl) rfl (al_at 245 (by decide +kernel) rfl) dX10_passLetters_12 (S_aload_n C dX10_passLetters_15 rfl (S_getI (ci := 10) (j := 5) C inG10 rfl (Nat.le_of_ble_eq_true rfl) rfl (al_at 249 (by decide +kernel) rfl) dX10_passLetters_16 (S_iald C dX10_passLetters_19 (S_cS C ok_X10_isLetter (al_at 700 (by decide +kernel) rfl) (Nat.le_of_ble_eq_true rfl) (Nat.le_of_ble_eq_true rfl) dX10_passLetters_20 (S_ifeq (tgt := 39) C dX10_passLetters_23 (by decide) (S_aload_n C dX10_passLetters_26 rfl (S_dup C dX10_passLetters_27 (S_getI (ci := 10) (j := 5) C inG10 rfl (Nat.le_of_ble_eq_true rfl) rfl (al_at 249 (by decide +kernel) rfl) dX10_passLetters_28 (S_iconst C dX10_passLetters_31 (by decide +kernel) (S_iadd C dX10_passLetters_32 (S_putI (ci := 10) (j := 5) C inG10 rfl (Nat.le_of_ble_eq_true rfl) tyX10 tyX10_ok nmX10 rfl rfl (tyX10_ok 5 (Nat.le_of_ble_eq_true rfl)) (al_at 249 (by decide +kernel) rfl) dX10_passLetters_33 (S_goto (tgt := 0) C dX10_passLetters_36 (by decide))))))))))))))))))))
    (S_vret C hQ hr dX10_passLetters_39))
theorem dX10_perform_0 : decode cX10_perform 0 = .ok (.aload_n 0, 1) := by decide +kernel
theorem dX10_perform_1 : decode cX10_perform 1 = .ok (.getfield 15, 3) := by decide +kernel
theorem dX10_perform_4 : decode cX10_perform 4 = .ok (.aload_n 0, 1) := by decide +kernel
theorem dX10_perform_5 : decode cX10_perform 5 = .ok (.getfield 9, 3) := by decide +kernel
theorem dX10_perform_8 : decode cX10_perform 8 = .ok (.invokevirtual 26, 3) := by decide +kernel
theorem dX10_perform_11 : decode cX10_perform 11 = .ok (.aload_n 0, 1) := by decide +kernel
theorem dX10_perform_12 : decode cX10_perform 12 = .ok (.iconst 0, 1) := by decide +kernel
theorem dX10_perform_13 : decode cX10_perform 13 = .ok (.putfield 32, 3) := by decide +kernel
theorem dX10_perform_16 : decode cX10_perform 16 = .ok (.aload_n 0, 1) := by decide +kernel
theorem dX10_perform_17 : decode cX10_perform 17 = .ok (.invokevirtual 35, 3) := by decide +kernel
theorem dX10_perform_20 : decode cX10_perform 20 = .ok (.iconst 0, 1) := by decide +kernel
theorem dX10_perform_21 : decode cX10_perform 21 = .ok (.istore_n 1, 1) := by decide +kernel
theorem dX10_perform_22 : decode cX10_perform 22 = .ok (.iload_n 1, 1) := by decide +kernel
theorem dX10_perform_23 : decode cX10_perform 23 = .ok (.bipush 120, 2) := by decide +kernel
theorem dX10_perform_25 : decode cX10_perform 25 = .ok (.if_icmp .ge 40, 3) := by decide +kernel
theorem dX10_perform_28 : decode cX10_perform 28 = .ok (.aload_n 0, 1) := by decide +kernel
theorem dX10_perform_29 : decode cX10_perform 29 = .ok (.invokevirtual 38, 3) := by decide +kernel
theorem dX10_perform_32 : decode cX10_perform 32 = .ok (.ifCond .eq 33, 3) := by decide +kernel
theorem dX10_perform_35 : decode cX10_perform 35 = .ok (.iinc 1 1, 3) := by decide +kernel
theorem dX10_perform_38 : decode cX10_perform 38 = .ok (.aload_n 0, 1) := by decide +kernel
theorem dX10_perform_39 : decode cX10_perform 39 = .ok (.getfield 42, 3) := by decide +kernel
theorem dX10_perform_42 : decode cX10_perform 42 = .ok (.ifCond .ne 5, 3) := by decide +kernel
theorem dX10_perform_45 : decode cX10_perform 45 = .ok (.iload_n 1, 1) := by decide +kernel
theorem dX10_perform_46 : decode cX10_perform 46 = .ok (.ireturn, 1) := by decide +kernel
theorem dX10_perform_47 : decode cX10_perform 47 = .ok (.aload_n 0, 1) := by decide +kernel
theorem dX10_perform_48 : decode cX10_perform 48 = .ok (.getfield 42, 3) := by decide +kernel
theorem dX10_perform_51 : decode cX10_perform 51 = .ok (.iconst 3, 1) := by decide +kernel
theorem dX10_perform_52 : decode cX10_perform 52 = .ok (.if_icmp .eq 6, 3) := by decide +kernel
theorem dX10_perform_55 : decode cX10_perform 55 = .ok (.goto 10, 3) := by decide +kernel
theorem dX10_perform_58 : decode cX10_perform 58 = .ok (.aload_n 0, 1) := by decide +kernel
theorem dX10_perform_59 : decode cX10_perform 59 = .ok (.invokevirtual 35, 3) := by decide +kernel
theorem dX10_perform_62 : decode cX10_perform 62 = .ok (.goto (-40), 3) := by decide +kernel
theorem dX10_perform_65 : decode cX10_perform 65 = .ok (.aload_n 0, 1) := by decide +kernel
theorem dX10_perform_66 : decode cX10_perform 66 = .ok (.getfield 9, 3) := by decide +kernel
theorem dX10_perform_69 : decode cX10_perform 69 = .ok (.aload_n 0, 1) := by decide +kernel
theorem dX10_perform_70 : decode cX10_perform 70 = .ok (.getfield 15, 3) := by decide +kernel
theorem dX10_perform_73 : decode cX10_perform 73 = .ok (.invokevirtual 26, 3) := by decide +kernel
theorem dX10_perform_76 : decode cX10_perform 76 = .ok (.iconst (-1), 1) := by decide +kernel
theorem dX10_perform_77 : decode cX10_perform 77 = .ok (.aload_n 0, 1) := by decide +kernel
theorem dX10_perform_78 : decode cX10_perform 78 = .ok (.getfield 45, 3) := by decide +kernel
theorem dX10_perform_81 : decode cX10_perform 81 = .ok (.isub, 1) := by decide +kernel
theorem dX10_perform_82 : decode cX10_perform 82 = .ok (.ireturn, 1) := by decide +kernel
def k_X10_perform_0 (F : FT) (Q : QT) : KT := o_aload 0 (o_getR 10 1 (o_aload 0 (o_getR 10 0 (o_cV 9 m_X9_become 2 (o_aload 0 (o_ic (nI 0) (o_putI 10 5 (o_aload 0 (o_cV 10 m_X10_advance 1 (o_ic (nI 0) (o_istore 1 (F 22))))))))))))
def k_X10_perform_22 (F : FT) (Q : QT) : KT := o_iload 1 (o_ic (nI 120) (o_icge (F 65) (o_aload 0 (o_cV 10 m_X10_takesItem 1 (o_ifeq (F 65) (o_iinc 1 (nI 1) (o_aload 0 (o_getI 10 6 (o_ifne (F 47) (o_iload 1 (o_iret Q)))))))))))
def k_X10_perform_47 (F : FT) (Q : QT) : KT := o_aload 0 (o_getI 10 6 (o_ic (nI 3) (o_iceq (F 58) (F 65))))
def k_X10_perform_58 (F : FT) (Q : QT) : KT := o_aload 0 (o_cV 10 m_X10_advance 1 (F 22))
def k_X10_perform_65 (F : FT) (Q : QT) : KT := o_aload 0 (o_getR 10 0 (o_aload 0 (o_getR 10 1 (o_cV 9 m_X9_become 2 (o_ic (-1) (o_aload 0 (o_getI 10 4 (o_isub (o_iret Q)))))))))
set_option maxRecDepth 20000 in
theorem r_X10_perform {a0 : Nat} {n : Nat} {R : RR} {I : II} {J : JJ} {Q : QT} (hn : n + 0 ≤ 90) (h : ∀ F : FT, al_Wk F → al_Ok F (k_X10_perform_0 F Q) 0 → al_Ok F (k_X10_perform_22 F Q) 22 → al_Ok F (k_X10_perform_47 F Q) 47 → al_Ok F (k_X10_perform_58 F Q) 58 → al_Ok F (k_X10_perform_65 F Q) 65 → F 0 [some (.ref a0), none] [] n R I J) : CT m_X10_perform 0 [.ref a0] n R I J Q :=
  CT.of (by decide) hn (fun _ => rfl) (fun _ => Nat.le_of_ble_eq_true rfl) (fun F p l e s m args below meth c Rm t Q0 C hQ hr hm => h F (fun _ _ _ _ _ _ _ _ => S_wk C)
    (S_aload_n C dX10_perform_0 rfl (S_getR (ci := 10) (j := 1) C inG10 rfl (Nat.le_of_ble_eq_true rfl) rfl (al_at 244 (by decide +kernel) rfl) dX10_perform_1 (S_aload_n C dX10_perform_4 rfl (S_getR (ci := 10) (j := 0) C inG10 rfl (Nat.le_of_ble_eq_true rfl) rfl (al_at 243 (by decide +kernel) rfl) dX10_perform_5 (S_cV (ci := 9) C ok_X9_become rfl (al_at 684 (by decide +kernel) rfl) (Nat.le_of_ble_eq_true rfl) (Nat.le_of_ble_eq_true rfl) dX10_perform_8 (S_aload_n C dX10_perform_11 rfl (S_iconst C dX10_perform_12 (by decide +kernel) (S_putI (ci := 10) (j := 5) C inG10 rfl (Nat.le_of_ble_eq_true rfl) tyX10 tyX10_ok nmX10 rfl rfl (tyX10_ok 5 (Nat.le_of_ble_eq_true rfl)) (al_at 249 (by decide +kernel) rfl) dX10_perform_13 (S_aload_n C dX10_perform_16 rfl (S_cV (ci := 10) C ok_X10_advance rfl (al_at 696 (by decide +kernel) rfl) (Nat.le_of_ble_eq_true rfl) (Nat.le_of_ble_eq_true rfl) dX10_perform_17 (S_iconst C dX10_perform_20 (by decide +kernel) (S_istore_n C dX10_perform_21 rfl (Nat.le_of_ble_eq_true rfl) (fun _ _ _ _ _ _ h9 => h9)))))))))))))
    (S_iload_n C dX10_perform_22 rfl (S_bipush C dX10_perform_23 (by decide +kernel) (S_icmpge (tgt := 65) C dX10_perform_25 (by decide) (S_aload_n C dX10_perform_28 rfl (S_cV (ci := 10) C ok_X10_takesItem rfl (al_at 715 (by decide +kernel) rfl) (Nat.le_of_ble_eq_true rfl) (Nat.le_of_ble_eq_true rfl) dX10_perform_29 (S_ifeq (tgt := 65) C dX10_perform_32 (by decide) (S_iinc C dX10_perform_35 (by decide +kernel) (Nat.le_of_ble_eq_true rfl) (S_aload_n C dX10_perform_38 rfl (S_getI (ci := 10) (j := 6) C inG10 rfl (Nat.le_of_ble_eq_true rfl) rfl (al_at 250 (by decide +kernel) rfl) dX10_perform_39 (S_ifne (tgt := 47) C dX10_perform_42 (by decide) (S_iload_n C dX10_perform_45 rfl (S_iret C hQ hr dX10_perform_46))))))))))))
    (S_aload_n C dX10_perform_47 rfl (S_getI (ci := 10) (j := 6) C inG10 rfl (Nat.le_of_ble_eq_true rfl) rfl (al_at 250 (by decide +kernel) rfl) dX10_perform_48 (S_iconst C dX10_perform_51 (by decide +kernel) (S_icmpeq (tgt := 58) C dX10_perform_52 (by decide) (S_goto (tgt := 65) C dX10_perform_55 (by decide))))))
    (S_aload_n C dX10_perform_58 rfl (S_cV (ci := 10) C ok_X10_advance rfl (al_at 696 (by decide +kernel) rfl) (Nat.le_of_ble_eq_true rfl) (Nat.le_of_ble_eq_true rfl) dX10_perform_59 (S_goto (tgt := 22) C dX10_perform_62 (by decide))))
    (S_aload_n C dX10_perform_65 rfl (S_getR (ci := 10) (j := 0) C inG10 rfl (Nat.le_of_ble_eq_true rfl) rfl (al_at 243 (by decide +kernel) rfl) dX10_perform_66 (S_aload_n C dX10_perform_69 rfl (S_getR (ci := 10) (j := 1) C inG10 rfl (Nat.le_of_ble_eq_true rfl) rfl (al_at 244 (by decide +kernel) rfl) dX10_perform_70 (S_cV (ci := 9) C ok_X9_become rfl (al_at 684 (by decide +kernel) rfl) (Nat.le_of_ble_eq_true rfl) (Nat.le_of_ble_eq_true rfl) dX10_perform_73 (S_iconst C dX10_perform_76 (by decide +kernel) (S_aload_n C dX10_perform_77 rfl (S_getI (ci := 10) (j := 4) C inG10 rfl (Nat.le_of_ble_eq_true rfl) rfl (al_at 248 (by decide +kernel) rfl) dX10_perform_78 (S_isub C dX10_perform_81 (S_iret C hQ hr dX10_perform_82)))))))))))
theorem dX10_plainSquare_0 : decode cX10_plainSquare 0 = .ok (.aload_n 0, 1) := by decide +kernel
theorem dX10_plainSquare_1 : decode cX10_plainSquare 1 = .ok (.ldc 102, 2) := by decide +kernel
theorem dX10_plainSquare_3 : decode cX10_plainSquare 3 = .ok (.invokevirtual 50, 3) := by decide +kernel
theorem dX10_plainSquare_6 : decode cX10_plainSquare 6 = .ok (.ifCond .eq 5, 3) := by decide +kernel
theorem dX10_plainSquare_9 : decode cX10_plainSquare 9 = .ok (.iconst 0, 1) := by decide +kernel
theorem dX10_plainSquare_10 : decode cX10_plainSquare 10 = .ok (.ireturn, 1) := by decide +kernel
theorem dX10_plainSquare_11 : decode cX10_plainSquare 11 = .ok (.aload_n 0, 1) := by decide +kernel
theorem dX10_plainSquare_12 : decode cX10_plainSquare 12 = .ok (.ldc 104, 2) := by decide +kernel
theorem dX10_plainSquare_14 : decode cX10_plainSquare 14 = .ok (.invokevirtual 50, 3) := by decide +kernel
theorem dX10_plainSquare_17 : decode cX10_plainSquare 17 = .ok (.ifCond .eq 5, 3) := by decide +kernel
theorem dX10_plainSquare_20 : decode cX10_plainSquare 20 = .ok (.iconst 1, 1) := by decide +kernel
theorem dX10_plainSquare_21 : decode cX10_plainSquare 21 = .ok (.ireturn, 1) := by decide +kernel
theorem dX10_plainSquare_22 : decode cX10_plainSquare 22 = .ok (.aload_n 0, 1) := by decide +kernel
theorem dX10_plainSquare_23 : decode cX10_plainSquare 23 = .ok (.ldc 106, 2) := by decide +kernel
theorem dX10_plainSquare_25 : decode cX10_plainSquare 25 = .ok (.invokevirtual 50, 3) := by decide +kernel
theorem dX10_plainSquare_28 : decode cX10_plainSquare 28 = .ok (.ifCond .eq 5, 3) := by decide +kernel
theorem dX10_plainSquare_31 : decode cX10_plainSquare 31 = .ok (.iconst 2, 1) := by decide +kernel
theorem dX10_plainSquare_32 : decode cX10_plainSquare 32 = .ok (.ireturn, 1) := by decide +kernel
theorem dX10_plainSquare_33 : decode cX10_plainSquare 33 = .ok (.aload_n 0, 1) := by decide +kernel
theorem dX10_plainSquare_34 : decode cX10_plainSquare 34 = .ok (.ldc 108, 2) := by decide +kernel
theorem dX10_plainSquare_36 : decode cX10_plainSquare 36 = .ok (.invokevirtual 50, 3) := by decide +kernel
theorem dX10_plainSquare_39 : decode cX10_plainSquare 39 = .ok (.ifCond .eq 7, 3) := by decide +kernel
theorem dX10_plainSquare_42 : decode cX10_plainSquare 42 = .ok (.iconst 3, 1) := by decide +kernel
theorem dX10_plainSquare_43 : decode cX10_plainSquare 43 = .ok (.goto 4, 3) := by decide +kernel
theorem dX10_plainSquare_46 : decode cX10_plainSquare 46 = .ok (.iconst (-1), 1) := by decide +kernel
theorem dX10_plainSquare_47 : decode cX10_plainSquare 47 = .ok (.ireturn, 1) := by decide +kernel
def k_X10_plainSquare_0 (F : FT) (Q : QT) : KT := o_aload 0 (o_sc 0 (o_cV 10 m_X10_isWord 2 (o_ifeq (F 11) (o_ic (nI 0) (o_iret Q)))))
def k_X10_plainSquare_11 (F : FT) (Q : QT) : KT := o_aload 0 (o_sc 1 (o_cV 10 m_X10_isWord 2 (o_ifeq (F 22) (o_ic (nI 1) (o_iret Q)))))
def k_X10_plainSquare_22 (F : FT) (Q : QT) : KT := o_aload 0 (o_sc 2 (o_cV 10 m_X10_isWord 2 (o_ifeq (F 33) (o_ic (nI 2) (o_iret Q)))))
def k_X10_plainSquare_33 (F : FT) (Q : QT) : KT := o_aload 0 (o_sc 3 (o_cV 10 m_X10_isWord 2 (o_ifeq (F 46) (o_ic (nI 3) (F 47)))))
def k_X10_plainSquare_46 (F : FT) (Q : QT) : KT := o_ic (-1) (F 47)
def k_X10_plainSquare_47 (F : FT) (Q : QT) : KT := o_iret Q
set_option maxRecDepth 20000 in
theorem r_X10_plainSquare {a0 : Nat} {n : Nat} {R : RR} {I : II} {J : JJ} {Q : QT} (hn : n + 0 ≤ 90) (h : ∀ F : FT, al_Wk F → al_Ok F (k_X10_plainSquare_0 F Q) 0 → al_Ok F (k_X10_plainSquare_11 F Q) 11 → al_Ok F (k_X10_plainSquare_22 F Q) 22 → al_Ok F (k_X10_plainSquare_33 F Q) 33 → al_Ok F (k_X10_plainSquare_46 F Q) 46 → al_Ok F (k_X10_plainSquare_47 F Q) 47 → F 0 [some (.ref a0)] [] n R I J) : CT m_X10_plainSquare 0 [.ref a0] n R I J Q :=
  CT.of (by decide) hn (fun _ => rfl) (fun _ => Nat.le_of_ble_eq_true rfl) (fun F p l e s m args below meth c Rm t Q0 C hQ hr hm => h F (fun _ _ _ _ _ _ _ _ => S_wk C)
    (S_aload_n C dX10_plainSquare_0 rfl (S_ldcS (tx := "ground") C (by decide) dX10_plainSquare_1 (by decide +kernel) (S_cV (ci := 10) C ok_X10_isWord rfl (al_at 720 (by decide +kernel) rfl) (Nat.le_of_ble_eq_true rfl) (Nat.le_of_ble_eq_true rfl) dX10_plainSquare_3 (S_ifeq (tgt := 11) C dX10_plainSquare_6 (by decide) (S_iconst C dX10_plainSquare_9 (by decide +kernel) (S_iret C hQ hr dX10_plainSquare_10))))))
    (S_aload_n C dX10_plainSquare_11 rfl (S_ldcS (tx := "street") C (by decide) dX10_plainSquare_12 (by decide +kernel) (S_cV (ci := 10) C ok_X10_isWord rfl (al_at 720 (by decide +kernel) rfl) (Nat.le_of_ble_eq_true rfl) (Nat.le_of_ble_eq_true rfl) dX10_plainSquare_14 (S_ifeq (tgt := 22) C dX10_plainSquare_17 (by decide) (S_iconst C dX10_plainSquare_20 (by decide +kernel) (S_iret C hQ hr dX10_plainSquare_21))))))
    (S_aload_n C dX10_plainSquare_22 rfl (S_ldcS (tx := "shed") C (by decide) dX10_plainSquare_23 (by decide +kernel) (S_cV (ci := 10) C ok_X10_isWord rfl (al_at 720 (by decide +kernel) rfl) (Nat.le_of_ble_eq_true rfl) (Nat.le_of_ble_eq_true rfl) dX10_plainSquare_25 (S_ifeq (tgt := 33) C dX10_plainSquare_28 (by decide) (S_iconst C dX10_plainSquare_31 (by decide +kernel) (S_iret C hQ hr dX10_plainSquare_32))))))
    (S_aload_n C dX10_plainSquare_33 rfl (S_ldcS (tx := "tree") C (by decide) dX10_plainSquare_34 (by decide +kernel) (S_cV (ci := 10) C ok_X10_isWord rfl (al_at 720 (by decide +kernel) rfl) (Nat.le_of_ble_eq_true rfl) (Nat.le_of_ble_eq_true rfl) dX10_plainSquare_36 (S_ifeq (tgt := 46) C dX10_plainSquare_39 (by decide) (S_iconst C dX10_plainSquare_42 (by decide +kernel) (S_goto (tgt := 47) C dX10_plainSquare_43 (by decide)))))))
    (S_iconst C dX10_plainSquare_46 (by decide +kernel) (fun _ _ _ _ _ _ h9 => h9))
    (S_iret C hQ hr dX10_plainSquare_47))
theorem dX10_takesHouse_0 : decode cX10_takesHouse 0 = .ok (.aload_n 0, 1) := by decide +kernel
theorem dX10_takesHouse_1 : decode cX10_takesHouse 1 = .ok (.getfield 9, 3) := by decide +kernel
theorem dX10_takesHouse_4 : decode cX10_takesHouse 4 = .ok (.getfield 70, 3) := by decide +kernel
theorem dX10_takesHouse_7 : decode cX10_takesHouse 7 = .ok (.bipush 6, 2) := by decide +kernel
theorem dX10_takesHouse_9 : decode cX10_takesHouse 9 = .ok (.if_icmp .lt 5, 3) := by decide +kernel
theorem dX10_takesHouse_12 : decode cX10_takesHouse 12 = .ok (.iconst 0, 1) := by decide +kernel
theorem dX10_takesHouse_13 : decode cX10_takesHouse 13 = .ok (.ireturn, 1) := by decide +kernel
theorem dX10_takesHouse_14 : decode cX10_takesHouse 14 = .ok (.aload_n 0, 1) := by decide +kernel
theorem dX10_takesHouse_15 : decode cX10_takesHouse 15 = .ok (.invokevirtual 35, 3) := by decide +kernel
theorem dX10_takesHouse_18 : decode cX10_takesHouse 18 = .ok (.aload_n 0, 1) := by decide +kernel
theorem dX10_takesHouse_19 : decode cX10_takesHouse 19 = .ok (.iconst 1, 1) := by decide +kernel
theorem dX10_takesHouse_20 : decode cX10_takesHouse 20 = .ok (.bipush 99, 2) := by decide +kernel
theorem dX10_takesHouse_22 : decode cX10_takesHouse 22 = .ok (.invokevirtual 76, 3) := by decide +kernel
theorem dX10_takesHouse_25 : decode cX10_takesHouse 25 = .ok (.ifCond .ne 5, 3) := by decide +kernel
theorem dX10_takesHouse_28 : decode cX10_takesHouse 28 = .ok (.iconst 0, 1) := by decide +kernel
theorem dX10_takesHouse_29 : decode cX10_takesHouse 29 = .ok (.ireturn, 1) := by decide +kernel
theorem dX10_takesHouse_30 : decode cX10_takesHouse 30 = .ok (.aload_n 0, 1) := by decide +kernel
theorem dX10_takesHouse_31 : decode cX10_takesHouse 31 = .ok (.getfield 9, 3) := by decide +kernel
theorem dX10_takesHouse_34 : decode cX10_takesHouse 34 = .ok (.iload_n 1, 1) := by decide +kernel
theorem dX10_takesHouse_35 : decode cX10_takesHouse 35 = .ok (.aload_n 0, 1) := by decide +kernel
theorem dX10_takesHouse_36 : decode cX10_takesHouse 36 = .ok (.getfield 80, 3) := by decide +kernel
theorem dX10_takesHouse_39 : decode cX10_takesHouse 39 = .ok (.invokevirtual 89, 3) := by decide +kernel
theorem dX10_takesHouse_42 : decode cX10_takesHouse 42 = .ok (.pop, 1) := by decide +kernel
theorem dX10_takesHouse_43 : decode cX10_takesHouse 43 = .ok (.aload_n 0, 1) := by decide +kernel
theorem dX10_takesHouse_44 : decode cX10_takesHouse 44 = .ok (.invokevirtual 35, 3) := by decide +kernel
theorem dX10_takesHouse_47 : decode cX10_takesHouse 47 = .ok (.iconst 1, 1) := by decide +kernel
theorem dX10_takesHouse_48 : decode cX10_takesHouse 48 = .ok (.ireturn, 1) := by decide +kernel
def k_X10_takesHouse_0 (F : FT) (Q : QT) : KT := o_aload 0 (o_getR 10 0 (o_getI 9 3 (o_ic (nI 6) (o_iclt (F 14) (o_ic (nI 0) (o_zret Q))))))
def k_X10_takesHouse_14 (F : FT) (Q : QT) : KT := o_aload 0 (o_cV 10 m_X10_advance 1 (o_aload 0 (o_ic (nI 1) (o_ic (nI 99) (o_cV 10 m_X10_isNumberWithin 3 (o_ifne (F 30) (o_ic (nI 0) (o_zret Q))))))))
def k_X10_takesHouse_30 (F : FT) (Q : QT) : KT := o_aload 0 (o_getR 10 0 (o_iload 1 (o_aload 0 (o_getI 10 7 (o_cV 9 m_X9_build 3 (o_pop (o_aload 0 (o_cV 10 m_X10_advance 1 (o_ic (nI 1) (o_zret Q))))))))))
set_option maxRecDepth 20000 in
theorem r_X10_takesHouse {a0 : Nat} {a1 : Int32} {n : Nat} {R : RR} {I : II} {J : JJ} {Q : QT} (hn : n + 0 ≤ 90) (h : ∀ F : FT, al_Wk F → al_Ok F (k_X10_takesHouse_0 F Q) 0 → al_Ok F (k_X10_takesHouse_14 F Q) 14 → al_Ok F (k_X10_takesHouse_30 F Q) 30 → F 0 [some (.ref a0), some (.int a1)] [] n R I J) : CT m_X10_takesHouse 0 [.ref a0, .int a1] n R I J Q :=
  CT.of (by decide) hn (fun _ => rfl) (fun _ => Nat.le_of_ble_eq_true rfl) (fun F p l e s m args below meth c Rm t Q0 C hQ hr hm => h F (fun _ _ _ _ _ _ _ _ => S_wk C)
    (S_aload_n C dX10_takesHouse_0 rfl (S_getR (ci := 10) (j := 0) C inG10 rfl (Nat.le_of_ble_eq_true rfl) rfl (al_at 243 (by decide +kernel) rfl) dX10_takesHouse_1 (S_getI (ci := 9) (j := 3) C inG9 rfl (Nat.le_of_ble_eq_true rfl) rfl (al_at 182 (by decide +kernel) rfl) dX10_takesHouse_4 (S_bipush C dX10_takesHouse_7 (by decide +kernel) (S_icmplt (tgt := 14) C dX10_takesHouse_9 (by decide) (S_iconst C dX10_takesHouse_12 (by decide +kernel) (S_zret C hQ hr dX10_takesHouse_13)))))))
    (S_aload_n C dX10_takesHouse_14 rfl (S_cV (ci := 10) C ok_X10_advance rfl (al_at 696 (by decide +kernel) rfl) (Nat.le_of_ble_eq_true rfl) (Nat.le_of_ble_eq_true rfl) dX10_takesHouse_15 (S_aload_n C dX10_takesHouse_18 rfl (S_iconst C dX10_takesHouse_19 (by decide +kernel) (S_bipush C dX10_takesHouse_20 (by decide +kernel) (S_cV (ci := 10) C ok_X10_isNumberWithin rfl (al_at 776 (by decide +kernel) rfl) (Nat.le_of_ble_eq_true rfl) (Nat.le_of_ble_eq_true rfl) dX10_takesHouse_22 (S_ifne (tgt := 30) C dX10_takesHouse_25 (by decide) (S_iconst C dX10_takesHouse_28 (by decide +kernel) (S_zret C hQ hr dX10_takesHouse_29)))))))))
    (S_aload_n C dX10_takesHouse_30 rfl (S_getR (ci := 10) (j := 0) C inG10 rfl (Nat.le_of_ble_eq_true rfl) rfl (al_at 243 (by decide +kernel) rfl) dX10_takesHouse_31 (S_iload_n C dX10_takesHouse_34 rfl (S_aload_n C dX10_takesHouse_35 rfl (S_getI (ci := 10) (j := 7) C inG10 rfl (Nat.le_of_ble_eq_true rfl) rfl (al_at 251 (by decide +kernel) rfl) dX10_takesHouse_36 (S_cV (ci := 9) C ok_X9_build rfl (al_at 822 (by decide +kernel) rfl) (Nat.le_of_ble_eq_true rfl) (Nat.le_of_ble_eq_true rfl) dX10_takesHouse_39 (S_pop C dX10_takesHouse_42 (S_aload_n C dX10_takesHouse_43 rfl (S_cV (ci := 10) C ok_X10_advance rfl (al_at 696 (by decide +kernel) rfl) (Nat.le_of_ble_eq_true rfl) (Nat.le_of_ble_eq_true rfl) dX10_takesHouse_44 (S_iconst C dX10_takesHouse_47 (by decide +kernel) (S_zret C hQ hr dX10_takesHouse_48))))))))))))
theorem dX10_takesItem_0 : decode cX10_takesItem 0 = .ok (.aload_n 0, 1) := by decide +kernel
theorem dX10_takesItem_1 : decode cX10_takesItem 1 = .ok (.getfield 42, 3) := by decide +kernel
theorem dX10_takesItem_4 : decode cX10_takesItem 4 = .ok (.iconst 1, 1) := by decide +kernel
theorem dX10_takesItem_5 : decode cX10_takesItem 5 = .ok (.if_icmp .eq 5, 3) := by decide +kernel
theorem dX10_takesItem_8 : decode cX10_takesItem 8 = .ok (.iconst 0, 1) := by decide +kernel
theorem dX10_takesItem_9 : decode cX10_takesItem 9 = .ok (.ireturn, 1) := by decide +kernel
theorem dX10_takesItem_10 : decode cX10_takesItem 10 = .ok (.aload_n 0, 1) := by decide +kernel
theorem dX10_takesItem_11 : decode cX10_takesItem 11 = .ok (.ldc 48, 2) := by decide +kernel
theorem dX10_takesItem_13 : decode cX10_takesItem 13 = .ok (.invokevirtual 50, 3) := by decide +kernel
theorem dX10_takesItem_16 : decode cX10_takesItem 16 = .ok (.ifCond .eq 8, 3) := by decide +kernel
theorem dX10_takesItem_19 : decode cX10_takesItem 19 = .ok (.aload_n 0, 1) := by decide +kernel
theorem dX10_takesItem_20 : decode cX10_takesItem 20 = .ok (.invokevirtual 54, 3) := by decide +kernel
theorem dX10_takesItem_23 : decode cX10_takesItem 23 = .ok (.ireturn, 1) := by decide +kernel
theorem dX10_takesItem_24 : decode cX10_takesItem 24 = .ok (.aload_n 0, 1) := by decide +kernel
theorem dX10_takesItem_25 : decode cX10_takesItem 25 = .ok (.invokevirtual 57, 3) := by decide +kernel
theorem dX10_takesItem_28 : decode cX10_takesItem 28 = .ok (.istore_n 1, 1) := by decide +kernel
theorem dX10_takesItem_29 : decode cX10_takesItem 29 = .ok (.iload_n 1, 1) := by decide +kernel
theorem dX10_takesItem_30 : decode cX10_takesItem 30 = .ok (.ifCond .ge 54, 3) := by decide +kernel
theorem dX10_takesItem_33 : decode cX10_takesItem 33 = .ok (.aload_n 0, 1) := by decide +kernel
theorem dX10_takesItem_34 : decode cX10_takesItem 34 = .ok (.invokevirtual 61, 3) := by decide +kernel
theorem dX10_takesItem_37 : decode cX10_takesItem 37 = .ok (.istore_n 2, 1) := by decide +kernel
theorem dX10_takesItem_38 : decode cX10_takesItem 38 = .ok (.iload_n 2, 1) := by decide +kernel
theorem dX10_takesItem_39 : decode cX10_takesItem 39 = .ok (.ifCond .lt 11, 3) := by decide +kernel
theorem dX10_takesItem_42 : decode cX10_takesItem 42 = .ok (.aload_n 0, 1) := by decide +kernel
theorem dX10_takesItem_43 : decode cX10_takesItem 43 = .ok (.iload_n 2, 1) := by decide +kernel
theorem dX10_takesItem_44 : decode cX10_takesItem 44 = .ok (.invokevirtual 64, 3) := by decide +kernel
theorem dX10_takesItem_47 : decode cX10_takesItem 47 = .ok (.ifCond .ne 5, 3) := by decide +kernel
theorem dX10_takesItem_50 : decode cX10_takesItem 50 = .ok (.iconst 0, 1) := by decide +kernel
theorem dX10_takesItem_51 : decode cX10_takesItem 51 = .ok (.ireturn, 1) := by decide +kernel
theorem dX10_takesItem_52 : decode cX10_takesItem 52 = .ok (.aload_n 0, 1) := by decide +kernel
theorem dX10_takesItem_53 : decode cX10_takesItem 53 = .ok (.getfield 42, 3) := by decide +kernel
theorem dX10_takesItem_56 : decode cX10_takesItem 56 = .ok (.iconst 1, 1) := by decide +kernel
theorem dX10_takesItem_57 : decode cX10_takesItem 57 = .ok (.if_icmp .ne 12, 3) := by decide +kernel
theorem dX10_takesItem_60 : decode cX10_takesItem 60 = .ok (.aload_n 0, 1) := by decide +kernel
theorem dX10_takesItem_61 : decode cX10_takesItem 61 = .ok (.ldc 68, 2) := by decide +kernel
theorem dX10_takesItem_63 : decode cX10_takesItem 63 = .ok (.invokevirtual 50, 3) := by decide +kernel
theorem dX10_takesItem_66 : decode cX10_takesItem 66 = .ok (.ifCond .ne 5, 3) := by decide +kernel
theorem dX10_takesItem_69 : decode cX10_takesItem 69 = .ok (.iconst 1, 1) := by decide +kernel
theorem dX10_takesItem_70 : decode cX10_takesItem 70 = .ok (.ireturn, 1) := by decide +kernel
theorem dX10_takesItem_71 : decode cX10_takesItem 71 = .ok (.bipush 10, 2) := by decide +kernel
theorem dX10_takesItem_73 : decode cX10_takesItem 73 = .ok (.aload_n 0, 1) := by decide +kernel
theorem dX10_takesItem_74 : decode cX10_takesItem 74 = .ok (.getfield 9, 3) := by decide +kernel
theorem dX10_takesItem_77 : decode cX10_takesItem 77 = .ok (.getfield 70, 3) := by decide +kernel
theorem dX10_takesItem_80 : decode cX10_takesItem 80 = .ok (.iadd, 1) := by decide +kernel
theorem dX10_takesItem_81 : decode cX10_takesItem 81 = .ok (.iconst 1, 1) := by decide +kernel
theorem dX10_takesItem_82 : decode cX10_takesItem 82 = .ok (.isub, 1) := by decide +kernel
theorem dX10_takesItem_83 : decode cX10_takesItem 83 = .ok (.istore_n 1, 1) := by decide +kernel
theorem dX10_takesItem_84 : decode cX10_takesItem 84 = .ok (.aload_n 0, 1) := by decide +kernel
theorem dX10_takesItem_85 : decode cX10_takesItem 85 = .ok (.invokevirtual 35, 3) := by decide +kernel
theorem dX10_takesItem_88 : decode cX10_takesItem 88 = .ok (.aload_n 0, 1) := by decide +kernel
theorem dX10_takesItem_89 : decode cX10_takesItem 89 = .ok (.iload_n 1, 1) := by decide +kernel
theorem dX10_takesItem_90 : decode cX10_takesItem 90 = .ok (.invokevirtual 73, 3) := by decide +kernel
theorem dX10_takesItem_93 : decode cX10_takesItem 93 = .ok (.ireturn, 1) := by decide +kernel
def k_X10_takesItem_0 (F : FT) (Q : QT) : KT := o_aload 0 (o_getI 10 6 (o_ic (nI 1) (o_iceq (F 10) (o_ic (nI 0) (o_zret Q)))))
def k_X10_takesItem_10 (F : FT) (Q : QT) : KT := o_aload 0 (o_sc 10 (o_cV 10 m_X10_isWord 2 (o_ifeq (F 24) (o_aload 0 (o_cV 10 m_X10_takesWealth 1 (o_zret Q))))))
def k_X10_takesItem_24 (F : FT) (Q : QT) : KT := o_aload 0 (o_cV 10 m_X10_plainSquare 1 (o_istore 1 (o_iload 1 (o_ifge (F 84) (o_aload 0 (o_cV 10 m_X10_kindNamed 1 (o_istore 2 (o_iload 2 (o_iflt (F 50) (o_aload 0 (o_iload 2 (o_cV 10 m_X10_takesHouse 2 (o_ifne (F 52) (F 50))))))))))))))
def k_X10_takesItem_50 (F : FT) (Q : QT) : KT := o_ic (nI 0) (o_zret Q)
def k_X10_takesItem_52 (F : FT) (Q : QT) : KT := o_aload 0 (o_getI 10 6 (o_ic (nI 1) (o_icne (F 69) (o_aload 0 (o_sc 11 (o_cV 10 m_X10_isWord 2 (o_ifne (F 71) (F 69))))))))
def k_X10_takesItem_69 (F : FT) (Q : QT) : KT := o_ic (nI 1) (o_zret Q)
def k_X10_takesItem_71 (F : FT) (Q : QT) : KT := o_ic (nI 10) (o_aload 0 (o_getR 10 0 (o_getI 9 3 (o_iadd (o_ic (nI 1) (o_isub (o_istore 1 (F 84))))))))
def k_X10_takesItem_84 (F : FT) (Q : QT) : KT := o_aload 0 (o_cV 10 m_X10_advance 1 (o_aload 0 (o_iload 1 (o_cV 10 m_X10_takesSquares 2 (o_zret Q)))))
set_option maxRecDepth 20000 in
theorem r_X10_takesItem {a0 : Nat} {n : Nat} {R : RR} {I : II} {J : JJ} {Q : QT} (hn : n + 0 ≤ 90) (h : ∀ F : FT, al_Wk F → al_Ok F (k_X10_takesItem_0 F Q) 0 → al_Ok F (k_X10_takesItem_10 F Q) 10 → al_Ok F (k_X10_takesItem_24 F Q) 24 → al_Ok F (k_X10_takesItem_50 F Q) 50 → al_Ok F (k_X10_takesItem_52 F Q) 52 → al_Ok F (k_X10_takesItem_69 F Q) 69 → al_Ok F (k_X10_takesItem_71 F Q) 71 → al_Ok F (k_X10_takesItem_84 F Q) 84 → F 0 [some (.ref a0), none, none] [] n R I J) : CT m_X10_takesItem 0 [.ref a0] n R I J Q :=
  CT.of (by decide) hn (fun _ => rfl) (fun _ => Nat.le_of_ble_eq_true rfl) (fun F p l e s m args below meth c Rm t Q0 C hQ hr hm => h F (fun _ _ _ _ _ _ _ _ => S_wk C)
    (S_aload_n C dX10_takesItem_0 rfl (S_getI (ci := 10) (j := 6) C inG10 rfl (Nat.le_of_ble_eq_true rfl) rfl (al_at 250 (by decide +kernel) rfl) dX10_takesItem_1 (S_iconst C dX10_takesItem_4 (by decide +kernel) (S_icmpeq (tgt := 10) C dX10_takesItem_5 (by decide) (S_iconst C dX10_takesItem_8 (by decide +kernel) (S_zret C hQ hr dX10_takesItem_9))))))
    (S_aload_n C dX10_takesItem_10 rfl (S_ldcS (tx := "rich") C (by decide) dX10_takesItem_11 (by decide +kernel) (S_cV (ci := 10) C ok_X10_isWord rfl (al_at 720 (by decide +kernel) rfl) (Nat.le_of_ble_eq_true rfl) (Nat.le_of_ble_eq_true rfl) dX10_takesItem_13 (S_ifeq (tgt := 24) C dX10_takesItem_16 (by decide) (S_aload_n C dX10_takesItem_19 rfl (S_cV (ci := 10) C ok_X10_takesWealth rfl (al_at 772 (by decide +kernel) rfl) (Nat.le_of_ble_eq_true rfl) (Nat.le_of_ble_eq_true rfl) dX10_takesItem_20 (S_zret C hQ hr dX10_takesItem_23)))))))
    (S_aload_n C dX10_takesItem_24 rfl (S_cV (ci := 10) C ok_X10_plainSquare rfl (al_at 780 (by decide +kernel) rfl) (Nat.le_of_ble_eq_true rfl) (Nat.le_of_ble_eq_true rfl) dX10_takesItem_25 (S_istore_n C dX10_takesItem_28 rfl (Nat.le_of_ble_eq_true rfl) (S_iload_n C dX10_takesItem_29 rfl (S_ifge (tgt := 84) C dX10_takesItem_30 (by decide) (S_aload_n C dX10_takesItem_33 rfl (S_cV (ci := 10) C ok_X10_kindNamed rfl (al_at 788 (by decide +kernel) rfl) (Nat.le_of_ble_eq_true rfl) (Nat.le_of_ble_eq_true rfl) dX10_takesItem_34 (S_istore_n C dX10_takesItem_37 rfl (Nat.le_of_ble_eq_true rfl) (S_iload_n C dX10_takesItem_38 rfl (S_iflt (tgt := 50) C dX10_takesItem_39 (by decide) (S_aload_n C dX10_takesItem_42 rfl (S_iload_n C dX10_takesItem_43 rfl (S_cV (ci := 10) C ok_X10_takesHouse rfl (al_at 818 (by decide +kernel) rfl) (Nat.le_of_ble_eq_true rfl) (Nat.le_of_ble_eq_true rfl) dX10_takesItem_44 (S_ifne (tgt := 52) C dX10_takesItem_47 (by decide) (fun _ _ _ _ _ _ h9 => h9)))))))))))))))
    (S_iconst C dX10_takesItem_50 (by decide +kernel) (S_zret C hQ hr dX10_takesItem_51))
    (S_aload_n C dX10_takesItem_52 rfl (S_getI (ci := 10) (j := 6) C inG10 rfl (Nat.le_of_ble_eq_true rfl) rfl (al_at 250 (by decide +kernel) rfl) dX10_takesItem_53 (S_iconst C dX10_takesItem_56 (by decide +kernel) (S_icmpne (tgt := 69) C dX10_takesItem_57 (by decide) (S_aload_n C dX10_takesItem_60 rfl (S_ldcS (tx := "on") C (by decide) dX10_takesItem_61 (by decide +kernel) (S_cV (ci := 10) C ok_X10_isWord rfl (al_at 720 (by decide +kernel) rfl) (Nat.le_of_ble_eq_true rfl) (Nat.le_of_ble_eq_true rfl) dX10_takesItem_63 (S_ifne (tgt := 71) C dX10_takesItem_66 (by decide) (fun _ _ _ _ _ _ h9 => h9)))))))))
    (S_iconst C dX10_takesItem_69 (by decide +kernel) (S_zret C hQ hr dX10_takesItem_70))
    (S_bipush C dX10_takesItem_71 (by decide +kernel) (S_aload_n C dX10_takesItem_73 rfl (S_getR (ci := 10) (j := 0) C inG10 rfl (Nat.le_of_ble_eq_true rfl) rfl (al_at 243 (by decide +kernel) rfl) dX10_takesItem_74 (S_getI (ci := 9) (j := 3) C inG9 rfl (Nat.le_of_ble_eq_true rfl) rfl (al_at 182 (by decide +kernel) rfl) dX10_takesItem_77 (S_iadd C dX10_takesItem_80 (S_iconst C dX10_takesItem_81 (by decide +kernel) (S_isub C dX10_takesItem_82 (S_istore_n C dX10_takesItem_83 rfl (Nat.le_of_ble_eq_true rfl) (fun _ _ _ _ _ _ h9 => h9)))))))))
    (S_aload_n C dX10_takesItem_84 rfl (S_cV (ci := 10) C ok_X10_advance rfl (al_at 696 (by decide +kernel) rfl) (Nat.le_of_ble_eq_true rfl) (Nat.le_of_ble_eq_true rfl) dX10_takesItem_85 (S_aload_n C dX10_takesItem_88 rfl (S_iload_n C dX10_takesItem_89 rfl (S_cV (ci := 10) C ok_X10_takesSquares rfl (al_at 824 (by decide +kernel) rfl) (Nat.le_of_ble_eq_true rfl) (Nat.le_of_ble_eq_true rfl) dX10_takesItem_90 (S_zret C hQ hr dX10_takesItem_93)))))))
theorem dX10_takesSquares_0 : decode cX10_takesSquares 0 = .ok (.iconst (-1), 1) := by decide +kernel
theorem dX10_takesSquares_1 : decode cX10_takesSquares 1 = .ok (.istore_n 2, 1) := by decide +kernel
theorem dX10_takesSquares_2 : decode cX10_takesSquares 2 = .ok (.iconst 0, 1) := by decide +kernel
theorem dX10_takesSquares_3 : decode cX10_takesSquares 3 = .ok (.istore_n 3, 1) := by decide +kernel
theorem dX10_takesSquares_4 : decode cX10_takesSquares 4 = .ok (.iload_n 3, 1) := by decide +kernel
theorem dX10_takesSquares_5 : decode cX10_takesSquares 5 = .ok (.ifCond .eq 17, 3) := by decide +kernel
theorem dX10_takesSquares_8 : decode cX10_takesSquares 8 = .ok (.iload_n 3, 1) := by decide +kernel
theorem dX10_takesSquares_9 : decode cX10_takesSquares 9 = .ok (.bipush 64, 2) := by decide +kernel
theorem dX10_takesSquares_11 : decode cX10_takesSquares 11 = .ok (.if_icmp .ge 49, 3) := by decide +kernel
theorem dX10_takesSquares_14 : decode cX10_takesSquares 14 = .ok (.aload_n 0, 1) := by decide +kernel
theorem dX10_takesSquares_15 : decode cX10_takesSquares 15 = .ok (.getfield 42, 3) := by decide +kernel
theorem dX10_takesSquares_18 : decode cX10_takesSquares 18 = .ok (.iconst 2, 1) := by decide +kernel
theorem dX10_takesSquares_19 : decode cX10_takesSquares 19 = .ok (.if_icmp .ne 41, 3) := by decide +kernel
theorem dX10_takesSquares_22 : decode cX10_takesSquares 22 = .ok (.aload_n 0, 1) := by decide +kernel
theorem dX10_takesSquares_23 : decode cX10_takesSquares 23 = .ok (.iload_n 2, 1) := by decide +kernel
theorem dX10_takesSquares_24 : decode cX10_takesSquares 24 = .ok (.iconst 1, 1) := by decide +kernel
theorem dX10_takesSquares_25 : decode cX10_takesSquares 25 = .ok (.iadd, 1) := by decide +kernel
theorem dX10_takesSquares_26 : decode cX10_takesSquares 26 = .ok (.bipush 63, 2) := by decide +kernel
theorem dX10_takesSquares_28 : decode cX10_takesSquares 28 = .ok (.invokevirtual 76, 3) := by decide +kernel
theorem dX10_takesSquares_31 : decode cX10_takesSquares 31 = .ok (.ifCond .ne 5, 3) := by decide +kernel
theorem dX10_takesSquares_34 : decode cX10_takesSquares 34 = .ok (.iconst 0, 1) := by decide +kernel
theorem dX10_takesSquares_35 : decode cX10_takesSquares 35 = .ok (.ireturn, 1) := by decide +kernel
theorem dX10_takesSquares_36 : decode cX10_takesSquares 36 = .ok (.aload_n 0, 1) := by decide +kernel
theorem dX10_takesSquares_37 : decode cX10_takesSquares 37 = .ok (.getfield 80, 3) := by decide +kernel
theorem dX10_takesSquares_40 : decode cX10_takesSquares 40 = .ok (.istore_n 2, 1) := by decide +kernel
theorem dX10_takesSquares_41 : decode cX10_takesSquares 41 = .ok (.aload_n 0, 1) := by decide +kernel
theorem dX10_takesSquares_42 : decode cX10_takesSquares 42 = .ok (.getfield 9, 3) := by decide +kernel
theorem dX10_takesSquares_45 : decode cX10_takesSquares 45 = .ok (.iload_n 2, 1) := by decide +kernel
theorem dX10_takesSquares_46 : decode cX10_takesSquares 46 = .ok (.iload_n 1, 1) := by decide +kernel
theorem dX10_takesSquares_47 : decode cX10_takesSquares 47 = .ok (.invokevirtual 83, 3) := by decide +kernel
theorem dX10_takesSquares_50 : decode cX10_takesSquares 50 = .ok (.aload_n 0, 1) := by decide +kernel
theorem dX10_takesSquares_51 : decode cX10_takesSquares 51 = .ok (.invokevirtual 35, 3) := by decide +kernel
theorem dX10_takesSquares_54 : decode cX10_takesSquares 54 = .ok (.iinc 3 1, 3) := by decide +kernel
theorem dX10_takesSquares_57 : decode cX10_takesSquares 57 = .ok (.goto (-53), 3) := by decide +kernel
theorem dX10_takesSquares_60 : decode cX10_takesSquares 60 = .ok (.aload_n 0, 1) := by decide +kernel
theorem dX10_takesSquares_61 : decode cX10_takesSquares 61 = .ok (.getfield 42, 3) := by decide +kernel
theorem dX10_takesSquares_64 : decode cX10_takesSquares 64 = .ok (.iconst 1, 1) := by decide +kernel
theorem dX10_takesSquares_65 : decode cX10_takesSquares 65 = .ok (.if_icmp .ne 12, 3) := by decide +kernel
theorem dX10_takesSquares_68 : decode cX10_takesSquares 68 = .ok (.aload_n 0, 1) := by decide +kernel
theorem dX10_takesSquares_69 : decode cX10_takesSquares 69 = .ok (.ldc 87, 2) := by decide +kernel
theorem dX10_takesSquares_71 : decode cX10_takesSquares 71 = .ok (.invokevirtual 50, 3) := by decide +kernel
theorem dX10_takesSquares_74 : decode cX10_takesSquares 74 = .ok (.ifCond .ne 5, 3) := by decide +kernel
theorem dX10_takesSquares_77 : decode cX10_takesSquares 77 = .ok (.iconst 1, 1) := by decide +kernel
theorem dX10_takesSquares_78 : decode cX10_takesSquares 78 = .ok (.ireturn, 1) := by decide +kernel
theorem dX10_takesSquares_79 : decode cX10_takesSquares 79 = .ok (.aload_n 0, 1) := by decide +kernel
theorem dX10_takesSquares_80 : decode cX10_takesSquares 80 = .ok (.invokevirtual 35, 3) := by decide +kernel
theorem dX10_takesSquares_83 : decode cX10_takesSquares 83 = .ok (.aload_n 0, 1) := by decide +kernel
theorem dX10_takesSquares_84 : decode cX10_takesSquares 84 = .ok (.iload_n 2, 1) := by decide +kernel
theorem dX10_takesSquares_85 : decode cX10_takesSquares 85 = .ok (.iconst 1, 1) := by decide +kernel
theorem dX10_takesSquares_86 : decode cX10_takesSquares 86 = .ok (.iadd, 1) := by decide +kernel
theorem dX10_takesSquares_87 : decode cX10_takesSquares 87 = .ok (.bipush 63, 2) := by decide +kernel
theorem dX10_takesSquares_89 : decode cX10_takesSquares 89 = .ok (.invokevirtual 76, 3) := by decide +kernel
theorem dX10_takesSquares_92 : decode cX10_takesSquares 92 = .ok (.ifCond .ne 5, 3) := by decide +kernel
theorem dX10_takesSquares_95 : decode cX10_takesSquares 95 = .ok (.iconst 0, 1) := by decide +kernel
theorem dX10_takesSquares_96 : decode cX10_takesSquares 96 = .ok (.ireturn, 1) := by decide +kernel
theorem dX10_takesSquares_97 : decode cX10_takesSquares 97 = .ok (.iload_n 2, 1) := by decide +kernel
theorem dX10_takesSquares_98 : decode cX10_takesSquares 98 = .ok (.iconst 1, 1) := by decide +kernel
theorem dX10_takesSquares_99 : decode cX10_takesSquares 99 = .ok (.iadd, 1) := by decide +kernel
theorem dX10_takesSquares_100 : decode cX10_takesSquares 100 = .ok (.istore_n 3, 1) := by decide +kernel
theorem dX10_takesSquares_101 : decode cX10_takesSquares 101 = .ok (.iload_n 3, 1) := by decide +kernel
theorem dX10_takesSquares_102 : decode cX10_takesSquares 102 = .ok (.aload_n 0, 1) := by decide +kernel
theorem dX10_takesSquares_103 : decode cX10_takesSquares 103 = .ok (.getfield 80, 3) := by decide +kernel
theorem dX10_takesSquares_106 : decode cX10_takesSquares 106 = .ok (.if_icmp .gt 18, 3) := by decide +kernel
theorem dX10_takesSquares_109 : decode cX10_takesSquares 109 = .ok (.aload_n 0, 1) := by decide +kernel
theorem dX10_takesSquares_110 : decode cX10_takesSquares 110 = .ok (.getfield 9, 3) := by decide +kernel
theorem dX10_takesSquares_113 : decode cX10_takesSquares 113 = .ok (.iload_n 3, 1) := by decide +kernel
theorem dX10_takesSquares_114 : decode cX10_takesSquares 114 = .ok (.iload_n 1, 1) := by decide +kernel
theorem dX10_takesSquares_115 : decode cX10_takesSquares 115 = .ok (.invokevirtual 83, 3) := by decide +kernel
theorem dX10_takesSquares_118 : decode cX10_takesSquares 118 = .ok (.iinc 3 1, 3) := by decide +kernel
theorem dX10_takesSquares_121 : decode cX10_takesSquares 121 = .ok (.goto (-20), 3) := by decide +kernel
theorem dX10_takesSquares_124 : decode cX10_takesSquares 124 = .ok (.aload_n 0, 1) := by decide +kernel
theorem dX10_takesSquares_125 : decode cX10_takesSquares 125 = .ok (.invokevirtual 35, 3) := by decide +kernel
theorem dX10_takesSquares_128 : decode cX10_takesSquares 128 = .ok (.iconst 1, 1) := by decide +kernel
theorem dX10_takesSquares_129 : decode cX10_takesSquares 129 = .ok (.ireturn, 1) := by decide +kernel
def k_X10_takesSquares_0 (F : FT) (Q : QT) : KT := o_ic (-1) (o_istore 2 (o_ic (nI 0) (o_istore 3 (F 4))))
def k_X10_takesSquares_4 (F : FT) (Q : QT) : KT := o_iload 3 (o_ifeq (F 22) (o_iload 3 (o_ic (nI 64) (o_icge (F 60) (o_aload 0 (o_getI 10 6 (o_ic (nI 2) (o_icne (F 60) (F 22)))))))))
def k_X10_takesSquares_22 (F : FT) (Q : QT) : KT := o_aload 0 (o_iload 2 (o_ic (nI 1) (o_iadd (o_ic (nI 63) (o_cV 10 m_X10_isNumberWithin 3 (o_ifne (F 36) (o_ic (nI 0) (o_zret Q))))))))
def k_X10_takesSquares_36 (F : FT) (Q : QT) : KT := o_aload 0 (o_getI 10 7 (o_istore 2 (o_aload 0 (o_getR 10 0 (o_iload 2 (o_iload 1 (o_cV 9 m_X9_lay 3 (o_aload 0 (o_cV 10 m_X10_advance 1 (o_iinc 3 (nI 1) (F 4)))))))))))
def k_X10_takesSquares_60 (F : FT) (Q : QT) : KT := o_aload 0 (o_getI 10 6 (o_ic (nI 1) (o_icne (F 77) (o_aload 0 (o_sc 12 (o_cV 10 m_X10_isWord 2 (o_ifne (F 79) (F 77))))))))
def k_X10_takesSquares_77 (F : FT) (Q : QT) : KT := o_ic (nI 1) (o_zret Q)
def k_X10_takesSquares_79 (F : FT) (Q : QT) : KT := o_aload 0 (o_cV 10 m_X10_advance 1 (o_aload 0 (o_iload 2 (o_ic (nI 1) (o_iadd (o_ic (nI 63) (o_cV 10 m_X10_isNumberWithin 3 (o_ifne (F 97) (o_ic (nI 0) (o_zret Q))))))))))
def k_X10_takesSquares_97 (F : FT) (Q : QT) : KT := o_iload 2 (o_ic (nI 1) (o_iadd (o_istore 3 (F 101))))
def k_X10_takesSquares_101 (F : FT) (Q : QT) : KT := o_iload 3 (o_aload 0 (o_getI 10 7 (o_icgt (F 124) (o_aload 0 (o_getR 10 0 (o_iload 3 (o_iload 1 (o_cV 9 m_X9_lay 3 (o_iinc 3 (nI 1) (F 101))))))))))
def k_X10_takesSquares_124 (F : FT) (Q : QT) : KT := o_aload 0 (o_cV 10 m_X10_advance 1 (o_ic (nI 1) (o_zret Q)))
set_option maxRecDepth 20000 in
theorem r_X10_takesSquares {a0 : Nat} {a1 : Int32} {n : Nat} {R : RR} {I : II} {J : JJ} {Q : QT} (hn : n + 0 ≤ 90) (h : ∀ F : FT, al_Wk F → al_Ok F (k_X10_takesSquares_0 F Q) 0 → al_Ok F (k_X10_takesSquares_4 F Q) 4 → al_Ok F (k_X10_takesSquares_22 F Q) 22 → al_Ok F (k_X10_takesSquares_36 F Q) 36 → al_Ok F (k_X10_takesSquares_60 F Q) 60 → al_Ok F (k_X10_takesSquares_77 F Q) 77 → al_Ok F (k_X10_takesSquares_79 F Q) 79 → al_Ok F (k_X10_takesSquares_97 F Q) 97 → al_Ok F (k_X10_takesSquares_101 F Q) 101 → al_Ok F (k_X10_takesSquares_124 F Q) 124 → F 0 [some (.ref a0), some (.int a1), none, none] [] n R I J) : CT m_X10_takesSquares 0 [.ref a0, .int a1] n R I J Q :=
  CT.of (by decide) hn (fun _ => rfl) (fun _ => Nat.le_of_ble_eq_true rfl) (fun F p l e s m args below meth c Rm t Q0 C hQ hr hm => h F (fun _ _ _ _ _ _ _ _ => S_wk C)
    (S_iconst C dX10_takesSquares_0 (by decide +kernel) (S_istore_n C dX10_takesSquares_1 rfl (Nat.le_of_ble_eq_true rfl) (S_iconst C dX10_takesSquares_2 (by decide +kernel) (S_istore_n C dX10_takesSquares_3 rfl (Nat.le_of_ble_eq_true rfl) (fun _ _ _ _ _ _ h9 => h9)))))
    (S_iload_n C dX10_takesSquares_4 rfl (S_ifeq (tgt := 22) C dX10_takesSquares_5 (by decide) (S_iload_n C dX10_takesSquares_8 rfl (S_bipush C dX10_takesSquares_9 (by decide +kernel) (S_icmpge (tgt := 60) C dX10_takesSquares_11 (by decide) (S_aload_n C dX10_takesSquares_14 rfl (S_getI (ci := 10) (j := 6) C inG10 rfl (Nat.le_of_ble_eq_true rfl) rfl (al_at 250 (by decide +kernel) rfl) dX10_takesSquares_15 (S_iconst C dX10_takesSquares_18 (by decide +kernel) (S_icmpne (tgt := 60) C dX10_takesSquares_19 (by decide) (fun _ _ _ _ _ _ h9 => h9))))))))))
    (S_aload_n C dX10_takesSquares_22 rfl (S_iload_n C dX10_takesSquares_23 rfl (S_iconst C dX10_takesSquares_24 (by decide +kernel) (S_iadd C dX10_takesSquares_25 (S_bipush C dX10_takesSquares_26 (by decide +kernel) (S_cV (ci := 10) C ok_X10_isNumberWithin rfl (al_at 776 (by decide +kernel) rfl) (Nat.le_of_ble_eq_true rfl) (Nat.le_of_ble_eq_true rfl) dX10_takesSquares_28 (S_ifne (tgt := 36) C dX10_takesSquares_31 (by decide) (S_iconst C dX10_takesSquares_34 (by decide +kernel) (S_zret C hQ hr dX10_takesSquares_35)))))))))
    (S_aload_n C dX10_takesSquares_36 rfl (S_getI (ci := 10) (j := 7) C inG10 rfl (Nat.le_of_ble_eq_true rfl) rfl (al_at 251 (by decide +kernel) rfl) dX10_takesSquares_37 (S_istore_n C dX10_takesSquares_40 rfl (Nat.le_of_ble_eq_true rfl) (S_aload_n C dX10_takesSquares_41 rfl (S_getR (ci := 10) (j := 0) C inG10 rfl (Nat.le_of_ble_eq_true rfl) rfl (al_at 243 (by decide +kernel) rfl) dX10_takesSquares_42 (S_iload_n C dX10_takesSquares_45 rfl (S_iload_n C dX10_takesSquares_46 rfl (S_cV (ci := 9) C ok_X9_lay rfl (al_at 828 (by decide +kernel) rfl) (Nat.le_of_ble_eq_true rfl) (Nat.le_of_ble_eq_true rfl) dX10_takesSquares_47 (S_aload_n C dX10_takesSquares_50 rfl (S_cV (ci := 10) C ok_X10_advance rfl (al_at 696 (by decide +kernel) rfl) (Nat.le_of_ble_eq_true rfl) (Nat.le_of_ble_eq_true rfl) dX10_takesSquares_51 (S_iinc C dX10_takesSquares_54 (by decide +kernel) (Nat.le_of_ble_eq_true rfl) (S_goto (tgt := 4) C dX10_takesSquares_57 (by decide)))))))))))))
    (S_aload_n C dX10_takesSquares_60 rfl (S_getI (ci := 10) (j := 6) C inG10 rfl (Nat.le_of_ble_eq_true rfl) rfl (al_at 250 (by decide +kernel) rfl) dX10_takesSquares_61 (S_iconst C dX10_takesSquares_64 (by decide +kernel) (S_icmpne (tgt := 77) C dX10_takesSquares_65 (by decide) (S_aload_n C dX10_takesSquares_68 rfl (S_ldcS (tx := "to") C (by decide) dX10_takesSquares_69 (by decide +kernel) (S_cV (ci := 10) C ok_X10_isWord rfl (al_at 720 (by decide +kernel) rfl) (Nat.le_of_ble_eq_true rfl) (Nat.le_of_ble_eq_true rfl) dX10_takesSquares_71 (S_ifne (tgt := 79) C dX10_takesSquares_74 (by decide) (fun _ _ _ _ _ _ h9 => h9)))))))))
    (S_iconst C dX10_takesSquares_77 (by decide +kernel) (S_zret C hQ hr dX10_takesSquares_78))
    (S_aload_n C dX10_takesSquares_79 rfl (S_cV (ci := 10) C ok_X10_advance rfl (al_at 696 (by decide +kernel) rfl) (Nat.le_of_ble_eq_true rfl) (Nat.le_of_ble_eq_true rfl) dX10_takesSquares_80 (S_aload_n C dX10_takesSquares_83 rfl (S_iload_n C dX10_takesSquares_84 rfl (S_iconst C dX10_takesSquares_85 (by decide +kernel) (S_iadd C dX10_takesSquares_86 (S_bipush C dX10_takesSquares_87 (by decide +kernel) (S_cV (ci := 10) C ok_X10_isNumberWithin rfl (al_at 776 (by decide +kernel) rfl) (Nat.le_of_ble_eq_true rfl) (Nat.le_of_ble_eq_true rfl) dX10_takesSquares_89 (S_ifne (tgt := 97) C dX10_takesSquares_92 (by decide) (S_iconst C dX10_takesSquares_95 (by decide +kernel) (S_zret C hQ hr dX10_takesSquares_96)))))))))))
    (S_iload_n C dX10_takesSquares_97 rfl (S_iconst C dX10_takesSquares_98 (by decide +kernel) (S_iadd C dX10_takesSquares_99 (S_istore_n C dX10_takesSquares_100 rfl (Nat.le_of_ble_eq_true rfl) (fun _ _ _ _ _ _ h9 => h9)))))
    (S_iload_n C dX10_takesSquares_101 rfl (S_aload_n C dX10_takesSquares_102 rfl (S_getI (ci := 10) (j := 7) C inG10 rfl (Nat.le_of_ble_eq_true rfl) rfl (al_at 251 (by decide +kernel) rfl) dX10_takesSquares_103 (S_icmpgt (tgt := 124) C dX10_takesSquares_106 (by decide) (S_aload_n C dX10_takesSquares_109 rfl (S_getR (ci := 10) (j := 0) C inG10 rfl (Nat.le_of_ble_eq_true rfl) rfl (al_at 243 (by decide +kernel) rfl) dX10_takesSquares_110 (S_iload_n C dX10_takesSquares_113 rfl (S_iload_n C dX10_takesSquares_114 rfl (S_cV (ci := 9) C ok_X9_lay rfl (al_at 828 (by decide +kernel) rfl) (Nat.le_of_ble_eq_true rfl) (Nat.le_of_ble_eq_true rfl) dX10_takesSquares_115 (S_iinc C dX10_takesSquares_118 (by decide +kernel) (Nat.le_of_ble_eq_true rfl) (S_goto (tgt := 101) C dX10_takesSquares_121 (by decide))))))))))))
    (S_aload_n C dX10_takesSquares_124 rfl (S_cV (ci := 10) C ok_X10_advance rfl (al_at 696 (by decide +kernel) rfl) (Nat.le_of_ble_eq_true rfl) (Nat.le_of_ble_eq_true rfl) dX10_takesSquares_125 (S_iconst C dX10_takesSquares_128 (by decide +kernel) (S_zret C hQ hr dX10_takesSquares_129)))))
theorem dX10_takesWealth_0 : decode cX10_takesWealth 0 = .ok (.aload_n 0, 1) := by decide +kernel
theorem dX10_takesWealth_1 : decode cX10_takesWealth 1 = .ok (.invokevirtual 35, 3) := by decide +kernel
theorem dX10_takesWealth_4 : decode cX10_takesWealth 4 = .ok (.aload_n 0, 1) := by decide +kernel
theorem dX10_takesWealth_5 : decode cX10_takesWealth 5 = .ok (.iconst 0, 1) := by decide +kernel
theorem dX10_takesWealth_6 : decode cX10_takesWealth 6 = .ok (.aload_n 0, 1) := by decide +kernel
theorem dX10_takesWealth_7 : decode cX10_takesWealth 7 = .ok (.getfield 9, 3) := by decide +kernel
theorem dX10_takesWealth_10 : decode cX10_takesWealth 10 = .ok (.getfield 70, 3) := by decide +kernel
theorem dX10_takesWealth_13 : decode cX10_takesWealth 13 = .ok (.iconst 1, 1) := by decide +kernel
theorem dX10_takesWealth_14 : decode cX10_takesWealth 14 = .ok (.isub, 1) := by decide +kernel
theorem dX10_takesWealth_15 : decode cX10_takesWealth 15 = .ok (.invokevirtual 76, 3) := by decide +kernel
theorem dX10_takesWealth_18 : decode cX10_takesWealth 18 = .ok (.ifCond .ne 5, 3) := by decide +kernel
theorem dX10_takesWealth_21 : decode cX10_takesWealth 21 = .ok (.iconst 0, 1) := by decide +kernel
theorem dX10_takesWealth_22 : decode cX10_takesWealth 22 = .ok (.ireturn, 1) := by decide +kernel
theorem dX10_takesWealth_23 : decode cX10_takesWealth 23 = .ok (.aload_n 0, 1) := by decide +kernel
theorem dX10_takesWealth_24 : decode cX10_takesWealth 24 = .ok (.getfield 80, 3) := by decide +kernel
theorem dX10_takesWealth_27 : decode cX10_takesWealth 27 = .ok (.istore_n 1, 1) := by decide +kernel
theorem dX10_takesWealth_28 : decode cX10_takesWealth 28 = .ok (.aload_n 0, 1) := by decide +kernel
theorem dX10_takesWealth_29 : decode cX10_takesWealth 29 = .ok (.invokevirtual 35, 3) := by decide +kernel
theorem dX10_takesWealth_32 : decode cX10_takesWealth 32 = .ok (.aload_n 0, 1) := by decide +kernel
theorem dX10_takesWealth_33 : decode cX10_takesWealth 33 = .ok (.iconst 0, 1) := by decide +kernel
theorem dX10_takesWealth_34 : decode cX10_takesWealth 34 = .ok (.sipush 9999, 3) := by decide +kernel
theorem dX10_takesWealth_37 : decode cX10_takesWealth 37 = .ok (.invokevirtual 76, 3) := by decide +kernel
theorem dX10_takesWealth_40 : decode cX10_takesWealth 40 = .ok (.ifCond .ne 5, 3) := by decide +kernel
theorem dX10_takesWealth_43 : decode cX10_takesWealth 43 = .ok (.iconst 0, 1) := by decide +kernel
theorem dX10_takesWealth_44 : decode cX10_takesWealth 44 = .ok (.ireturn, 1) := by decide +kernel
theorem dX10_takesWealth_45 : decode cX10_takesWealth 45 = .ok (.aload_n 0, 1) := by decide +kernel
theorem dX10_takesWealth_46 : decode cX10_takesWealth 46 = .ok (.getfield 9, 3) := by decide +kernel
theorem dX10_takesWealth_49 : decode cX10_takesWealth 49 = .ok (.getfield 93, 3) := by decide +kernel
theorem dX10_takesWealth_52 : decode cX10_takesWealth 52 = .ok (.iload_n 1, 1) := by decide +kernel
theorem dX10_takesWealth_53 : decode cX10_takesWealth 53 = .ok (.aaload, 1) := by decide +kernel
theorem dX10_takesWealth_54 : decode cX10_takesWealth 54 = .ok (.aload_n 0, 1) := by decide +kernel
theorem dX10_takesWealth_55 : decode cX10_takesWealth 55 = .ok (.getfield 80, 3) := by decide +kernel
theorem dX10_takesWealth_58 : decode cX10_takesWealth 58 = .ok (.putfield 97, 3) := by decide +kernel
theorem dX10_takesWealth_61 : decode cX10_takesWealth 61 = .ok (.aload_n 0, 1) := by decide +kernel
theorem dX10_takesWealth_62 : decode cX10_takesWealth 62 = .ok (.invokevirtual 35, 3) := by decide +kernel
theorem dX10_takesWealth_65 : decode cX10_takesWealth 65 = .ok (.iconst 1, 1) := by decide +kernel
theorem dX10_takesWealth_66 : decode cX10_takesWealth 66 = .ok (.ireturn, 1) := by decide +kernel
def k_X10_takesWealth_0 (F : FT) (Q : QT) : KT := o_aload 0 (o_cV 10 m_X10_advance 1 (o_aload 0 (o_ic (nI 0) (o_aload 0 (o_getR 10 0 (o_getI 9 3 (o_ic (nI 1) (o_isub (o_cV 10 m_X10_isNumberWithin 3 (o_ifne (F 23) (o_ic (nI 0) (o_zret Q))))))))))))
def k_X10_takesWealth_23 (F : FT) (Q : QT) : KT := o_aload 0 (o_getI 10 7 (o_istore 1 (o_aload 0 (o_cV 10 m_X10_advance 1 (o_aload 0 (o_ic (nI 0) (o_ic (nI 9999) (o_cV 10 m_X10_isNumberWithin 3 (o_ifne (F 45) (o_ic (nI 0) (o_zret Q)))))))))))
def k_X10_takesWealth_45 (F : FT) (Q : QT) : KT := o_aload 0 (o_getR 10 0 (o_getR 9 2 (o_iload 1 (o_aald 4 (o_aload 0 (o_getI 10 7 (o_putI 2 2 (o_aload 0 (o_cV 10 m_X10_advance 1 (o_ic (nI 1) (o_zret Q)))))))))))
set_option maxRecDepth 20000 in
theorem r_X10_takesWealth {a0 : Nat} {n : Nat} {R : RR} {I : II} {J : JJ} {Q : QT} (hn : n + 0 ≤ 90) (h : ∀ F : FT, al_Wk F → al_Ok F (k_X10_takesWealth_0 F Q) 0 → al_Ok F (k_X10_takesWealth_23 F Q) 23 → al_Ok F (k_X10_takesWealth_45 F Q) 45 → F 0 [some (.ref a0), none] [] n R I J) : CT m_X10_takesWealth 0 [.ref a0] n R I J Q :=
  CT.of (by decide) hn (fun _ => rfl) (fun _ => Nat.le_of_ble_eq_true rfl) (fun F p l e s m args below meth c Rm t Q0 C hQ hr hm => h F (fun _ _ _ _ _ _ _ _ => S_wk C)
    (S_aload_n C dX10_takesWealth_0 rfl (S_cV (ci := 10) C ok_X10_advance rfl (al_at 696 (by decide +kernel) rfl) (Nat.le_of_ble_eq_true rfl) (Nat.le_of_ble_eq_true rfl) dX10_takesWealth_1 (S_aload_n C dX10_takesWealth_4 rfl (S_iconst C dX10_takesWealth_5 (by decide +kernel) (S_aload_n C dX10_takesWealth_6 rfl (S_getR (ci := 10) (j := 0) C inG10 rfl (Nat.le_of_ble_eq_true rfl) rfl (al_at 243 (by decide +kernel) rfl) dX10_takesWealth_7 (S_getI (ci := 9) (j := 3) C inG9 rfl (Nat.le_of_ble_eq_true rfl) rfl (al_at 182 (by decide +kernel) rfl) dX10_takesWealth_10 (S_iconst C dX10_takesWealth_13 (by decide +kernel) (S_isub C dX10_takesWealth_14 (S_cV (ci := 10) C ok_X10_isNumberWithin rfl (al_at 776 (by decide +kernel) rfl) (Nat.le_of_ble_eq_true rfl) (Nat.le_of_ble_eq_true rfl) dX10_takesWealth_15 (S_ifne (tgt := 23) C dX10_takesWealth_18 (by decide) (S_iconst C dX10_takesWealth_21 (by decide +kernel) (S_zret C hQ hr dX10_takesWealth_22)))))))))))))
    (S_aload_n C dX10_takesWealth_23 rfl (S_getI (ci := 10) (j := 7) C inG10 rfl (Nat.le_of_ble_eq_true rfl) rfl (al_at 251 (by decide +kernel) rfl) dX10_takesWealth_24 (S_istore_n C dX10_takesWealth_27 rfl (Nat.le_of_ble_eq_true rfl) (S_aload_n C dX10_takesWealth_28 rfl (S_cV (ci := 10) C ok_X10_advance rfl (al_at 696 (by decide +kernel) rfl) (Nat.le_of_ble_eq_true rfl) (Nat.le_of_ble_eq_true rfl) dX10_takesWealth_29 (S_aload_n C dX10_takesWealth_32 rfl (S_iconst C dX10_takesWealth_33 (by decide +kernel) (S_sipush C dX10_takesWealth_34 (by decide +kernel) (S_cV (ci := 10) C ok_X10_isNumberWithin rfl (al_at 776 (by decide +kernel) rfl) (Nat.le_of_ble_eq_true rfl) (Nat.le_of_ble_eq_true rfl) dX10_takesWealth_37 (S_ifne (tgt := 45) C dX10_takesWealth_40 (by decide) (S_iconst C dX10_takesWealth_43 (by decide +kernel) (S_zret C hQ hr dX10_takesWealth_44))))))))))))
    (S_aload_n C dX10_takesWealth_45 rfl (S_getR (ci := 10) (j := 0) C inG10 rfl (Nat.le_of_ble_eq_true rfl) rfl (al_at 243 (by decide +kernel) rfl) dX10_takesWealth_46 (S_getR (ci := 9) (j := 2) C inG9 rfl (Nat.le_of_ble_eq_true rfl) rfl (al_at 179 (by decide +kernel) rfl) dX10_takesWealth_49 (S_iload_n C dX10_takesWealth_52 rfl (S_aald (ak := 4) C (fun _ _ _ _ _ _ => rfl) (fun _ => rfl) dX10_takesWealth_53 (S_aload_n C dX10_takesWealth_54 rfl (S_getI (ci := 10) (j := 7) C inG10 rfl (Nat.le_of_ble_eq_true rfl) rfl (al_at 251 (by decide +kernel) rfl) dX10_takesWealth_55 (S_putI (ci := 2) (j := 2) C inG2 rfl (Nat.le_of_ble_eq_true rfl) tyX2 tyX2_ok nmX2 rfl rfl (tyX2_ok 2 (Nat.le_of_ble_eq_true rfl)) (al_at 152 (by decide +kernel) rfl) dX10_takesWealth_58 (S_aload_n C dX10_takesWealth_61 rfl (S_cV (ci := 10) C ok_X10_advance rfl (al_at 696 (by decide +kernel) rfl) (Nat.le_of_ble_eq_true rfl) (Nat.le_of_ble_eq_true rfl) dX10_takesWealth_62 (S_iconst C dX10_takesWealth_65 (by decide +kernel) (S_zret C hQ hr dX10_takesWealth_66)))))))))))))
