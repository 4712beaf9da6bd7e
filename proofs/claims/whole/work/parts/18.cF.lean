theorem dX12_ith_0 : decode cX12_ith 0 = .ok (.aload_n 0, 1) := by decide +kernel
theorem dX12_ith_1 : decode cX12_ith 1 = .ok (.iload_n 1, 1) := by decide +kernel
theorem dX12_ith_2 : decode cX12_ith 2 = .ok (.invokevirtual 142, 3) := by decide +kernel
theorem dX12_ith_5 : decode cX12_ith 5 = .ok (.ifCond .eq 7, 3) := by decide +kernel
theorem dX12_ith_8 : decode cX12_ith 8 = .ok (.iload_n 2, 1) := by decide +kernel
theorem dX12_ith_9 : decode cX12_ith 9 = .ok (.ifCond .ge 10, 3) := by decide +kernel
theorem dX12_ith_12 : decode cX12_ith 12 = .ok (.aload_n 0, 1) := by decide +kernel
theorem dX12_ith_13 : decode cX12_ith 13 = .ok (.ldc 80, 2) := by decide +kernel
theorem dX12_ith_15 : decode cX12_ith 15 = .ok (.invokevirtual 103, 3) := by decide +kernel
theorem dX12_ith_18 : decode cX12_ith 18 = .ok (.ireturn, 1) := by decide +kernel
theorem dX12_ith_19 : decode cX12_ith 19 = .ok (.aload_n 0, 1) := by decide +kernel
theorem dX12_ith_20 : decode cX12_ith 20 = .ok (.iload_n 1, 1) := by decide +kernel
theorem dX12_ith_21 : decode cX12_ith 21 = .ok (.iload_n 2, 1) := by decide +kernel
theorem dX12_ith_22 : decode cX12_ith 22 = .ok (.invokevirtual 167, 3) := by decide +kernel
theorem dX12_ith_25 : decode cX12_ith 25 = .ok (.istore_n 3, 1) := by decide +kernel
theorem dX12_ith_26 : decode cX12_ith 26 = .ok (.iload_n 3, 1) := by decide +kernel
theorem dX12_ith_27 : decode cX12_ith 27 = .ok (.ifCond .ge 12, 3) := by decide +kernel
theorem dX12_ith_30 : decode cX12_ith 30 = .ok (.aload_n 0, 1) := by decide +kernel
theorem dX12_ith_31 : decode cX12_ith 31 = .ok (.ldc 170, 2) := by decide +kernel
theorem dX12_ith_33 : decode cX12_ith 33 = .ok (.invokevirtual 103, 3) := by decide +kernel
theorem dX12_ith_36 : decode cX12_ith 36 = .ok (.goto 4, 3) := by decide +kernel
theorem dX12_ith_39 : decode cX12_ith 39 = .ok (.iload_n 3, 1) := by decide +kernel
theorem dX12_ith_40 : decode cX12_ith 40 = .ok (.ireturn, 1) := by decide +kernel
def k_X12_ith_0 (F : FT) (Q : QT) : KT := o_aload 0 (o_iload 1 (o_cV 12 m_X12_isHouse 2 (o_ifeq (F 12) (o_iload 2 (o_ifge (F 19) (F 12))))))
def k_X12_ith_12 (F : FT) (Q : QT) : KT := o_aload 0 (o_ic (-1000000001) (o_cV 12 m_X12_finding 2 (o_iret Q)))
def k_X12_ith_19 (F : FT) (Q : QT) : KT := o_aload 0 (o_iload 1 (o_iload 2 (o_cV 12 m_X12_ithOf 3 (o_istore 3 (o_iload 3 (o_ifge (F 39) (o_aload 0 (o_ic (-1000000004) (o_cV 12 m_X12_finding 2 (F 40))))))))))
def k_X12_ith_39 (F : FT) (Q : QT) : KT := o_iload 3 (F 40)
def k_X12_ith_40 (F : FT) (Q : QT) : KT := o_iret Q
set_option maxRecDepth 20000 in
theorem r_X12_ith {a0 : Nat} {a1 : Int32} {a2 : Int32} {n : Nat} {R : RR} {I : II} {J : JJ} {Q : QT} (hn : n + 0 ≤ 90) (h : ∀ F : FT, al_Wk F → al_Ok F (k_X12_ith_0 F Q) 0 → al_Ok F (k_X12_ith_12 F Q) 12 → al_Ok F (k_X12_ith_19 F Q) 19 → al_Ok F (k_X12_ith_39 F Q) 39 → al_Ok F (k_X12_ith_40 F Q) 40 → F 0 [some (.ref a0), some (.int a1), some (.int a2), none] [] n R I J) : CT m_X12_ith 0 [.ref a0, .int a1, .int a2] n R I J Q :=
  CT.of (by decide) hn (fun _ => rfl) (fun _ => Nat.le_of_ble_eq_true rfl) (fun F p l e s m args below meth c Rm t Q0 C hQ hr hm => h F (fun _ _ _ _ _ _ _ _ => S_wk C)
    (S_aload_n C dX12_ith_0 rfl (S_iload_n C dX12_ith_1 rfl (S_cV (ci := 12) C ok_X12_isHouse rfl (al_at 1042 (by decide +kernel) rfl) (Nat.le_of_ble_eq_true rfl) (Nat.le_of_ble_eq_true rfl) dX12_ith_2 (S_ifeq (tgt := 12) C dX12_ith_5 (by decide) (S_iload_n C dX12_ith_8 rfl (S_ifge (tgt := 19) C dX12_ith_9 (by decide) (fun _ _ _ _ _ _ h9 => h9)))))))
    (S_aload_n C dX12_ith_12 rfl (S_ldc C dX12_ith_13 (al_at 1020 (by decide +kernel) rfl) (S_cV (ci := 12) C ok_X12_finding rfl (al_at 1021 (by decide +kernel) rfl) (Nat.le_of_ble_eq_true rfl) (Nat.le_of_ble_eq_true rfl) dX12_ith_15 (S_iret C hQ hr dX12_ith_18))))
    (S_aload_n C dX12_ith_19 rfl (S_iload_n C dX12_ith_20 rfl (S_iload_n C dX12_ith_21 rfl (S_cV (ci := 12) C ok_X12_ithOf rfl (al_at 1141 (by decide +kernel) rfl) (Nat.le_of_ble_eq_true rfl) (Nat.le_of_ble_eq_true rfl) dX12_ith_22 (S_istore_n C dX12_ith_25 rfl (Nat.le_of_ble_eq_true rfl) (S_iload_n C dX12_ith_26 rfl (S_ifge (tgt := 39) C dX12_ith_27 (by decide) (S_aload_n C dX12_ith_30 rfl (S_ldc C dX12_ith_31 (al_at 1145 (by decide +kernel) rfl) (S_cV (ci := 12) C ok_X12_finding rfl (al_at 1021 (by decide +kernel) rfl) (Nat.le_of_ble_eq_true rfl) (Nat.le_of_ble_eq_true rfl) dX12_ith_33 (S_goto (tgt := 40) C dX12_ith_36 (by decide))))))))))))
    (S_iload_n C dX12_ith_39 rfl (fun _ _ _ _ _ _ h9 => h9))
    (S_iret C hQ hr dX12_ith_40))
theorem dX12_ithOf_0 : decode cX12_ithOf 0 = .ok (.iconst 0, 1) := by decide +kernel
theorem dX12_ithOf_1 : decode cX12_ithOf 1 = .ok (.istore_n 3, 1) := by decide +kernel
theorem dX12_ithOf_2 : decode cX12_ithOf 2 = .ok (.iconst 0, 1) := by decide +kernel
theorem dX12_ithOf_3 : decode cX12_ithOf 3 = .ok (.istore 4, 2) := by decide +kernel
theorem dX12_ithOf_5 : decode cX12_ithOf 5 = .ok (.iload 4, 2) := by decide +kernel
theorem dX12_ithOf_7 : decode cX12_ithOf 7 = .ok (.bipush 81, 2) := by decide +kernel
theorem dX12_ithOf_9 : decode cX12_ithOf 9 = .ok (.if_icmp .ge 30, 3) := by decide +kernel
theorem dX12_ithOf_12 : decode cX12_ithOf 12 = .ok (.aload_n 0, 1) := by decide +kernel
theorem dX12_ithOf_13 : decode cX12_ithOf 13 = .ok (.iload_n 1, 1) := by decide +kernel
theorem dX12_ithOf_14 : decode cX12_ithOf 14 = .ok (.iload 4, 2) := by decide +kernel
theorem dX12_ithOf_16 : decode cX12_ithOf 16 = .ok (.invokevirtual 161, 3) := by decide +kernel
theorem dX12_ithOf_19 : decode cX12_ithOf 19 = .ok (.ifCond .le 14, 3) := by decide +kernel
theorem dX12_ithOf_22 : decode cX12_ithOf 22 = .ok (.iload_n 3, 1) := by decide +kernel
theorem dX12_ithOf_23 : decode cX12_ithOf 23 = .ok (.iload_n 2, 1) := by decide +kernel
theorem dX12_ithOf_24 : decode cX12_ithOf 24 = .ok (.if_icmp .ne 6, 3) := by decide +kernel
theorem dX12_ithOf_27 : decode cX12_ithOf 27 = .ok (.iload 4, 2) := by decide +kernel
theorem dX12_ithOf_29 : decode cX12_ithOf 29 = .ok (.ireturn, 1) := by decide +kernel
theorem dX12_ithOf_30 : decode cX12_ithOf 30 = .ok (.iinc 3 1, 3) := by decide +kernel
theorem dX12_ithOf_33 : decode cX12_ithOf 33 = .ok (.iinc 4 1, 3) := by decide +kernel
theorem dX12_ithOf_36 : decode cX12_ithOf 36 = .ok (.goto (-31), 3) := by decide +kernel
theorem dX12_ithOf_39 : decode cX12_ithOf 39 = .ok (.iconst (-1), 1) := by decide +kernel
theorem dX12_ithOf_40 : decode cX12_ithOf 40 = .ok (.ireturn, 1) := by decide +kernel
def k_X12_ithOf_0 (F : FT) (Q : QT) : KT := o_ic (nI 0) (o_istore 3 (o_ic (nI 0) (o_istore 4 (F 5))))
def k_X12_ithOf_5 (F : FT) (Q : QT) : KT := o_iload 4 (o_ic (nI 81) (o_icge (F 39) (o_aload 0 (o_iload 1 (o_iload 4 (o_cV 12 m_X12_cornerOf 3 (o_ifle (F 33) (o_iload 3 (o_iload 2 (o_icne (F 30) (o_iload 4 (o_iret Q))))))))))))
def k_X12_ithOf_30 (F : FT) (Q : QT) : KT := o_iinc 3 (nI 1) (F 33)
def k_X12_ithOf_33 (F : FT) (Q : QT) : KT := o_iinc 4 (nI 1) (F 5)
def k_X12_ithOf_39 (F : FT) (Q : QT) : KT := o_ic (-1) (o_iret Q)
set_option maxRecDepth 20000 in
theorem r_X12_ithOf {a0 : Nat} {a1 : Int32} {a2 : Int32} {n : Nat} {R : RR} {I : II} {J : JJ} {Q : QT} (hn : n + 0 ≤ 90) (h : ∀ F : FT, al_Wk F → al_Ok F (k_X12_ithOf_0 F Q) 0 → al_Ok F (k_X12_ithOf_5 F Q) 5 → al_Ok F (k_X12_ithOf_30 F Q) 30 → al_Ok F (k_X12_ithOf_33 F Q) 33 → al_Ok F (k_X12_ithOf_39 F Q) 39 → F 0 [some (.ref a0), some (.int a1), some (.int a2), none, none] [] n R I J) : CT m_X12_ithOf 0 [.ref a0, .int a1, .int a2] n R I J Q :=
  CT.of (by decide) hn (fun _ => rfl) (fun _ => Nat.le_of_ble_eq_true rfl) (fun F p l e s m args below meth c Rm t Q0 C hQ hr hm => h F (fun _ _ _ _ _ _ _ _ => S_wk C)
    (S_iconst C dX12_ithOf_0 (by decide +kernel) (S_istore_n C dX12_ithOf_1 rfl (Nat.le_of_ble_eq_true rfl) (S_iconst C dX12_ithOf_2 (by decide +kernel) (S_istore C dX12_ithOf_3 (Nat.le_of_ble_eq_true rfl) (fun _ _ _ _ _ _ h9 => h9)))))
    (S_iload C dX12_ithOf_5 (S_bipush C dX12_ithOf_7 (by decide +kernel) (S_icmpge (tgt := 39) C dX12_ithOf_9 (by decide) (S_aload_n C dX12_ithOf_12 rfl (S_iload_n C dX12_ithOf_13 rfl (S_iload C dX12_ithOf_14 (S_cV (ci := 12) C ok_X12_cornerOf rfl (al_at 1058 (by decide +kernel) rfl) (Nat.le_of_ble_eq_true rfl) (Nat.le_of_ble_eq_true rfl) dX12_ithOf_16 (S_ifle (tgt := 33) C dX12_ithOf_19 (by decide) (S_iload_n C dX12_ithOf_22 rfl (S_iload_n C dX12_ithOf_23 rfl (S_icmpne (tgt := 30) C dX12_ithOf_24 (by decide) (S_iload C dX12_ithOf_27 (S_iret C hQ hr dX12_ithOf_29)))))))))))))
    (S_iinc C dX12_ithOf_30 (by decide +kernel) (Nat.le_of_ble_eq_true rfl) (fun _ _ _ _ _ _ h9 => h9))
    (S_iinc C dX12_ithOf_33 (by decide +kernel) (Nat.le_of_ble_eq_true rfl) (S_goto (tgt := 5) C dX12_ithOf_36 (by decide)))
    (S_iconst C dX12_ithOf_39 (by decide +kernel) (S_iret C hQ hr dX12_ithOf_40)))
theorem dX12_lays_0 : decode cX12_lays 0 = .ok (.iload_n 1, 1) := by decide +kernel
theorem dX12_lays_1 : decode cX12_lays 1 = .ok (.invokestatic 298, 3) := by decide +kernel
theorem dX12_lays_4 : decode cX12_lays 4 = .ok (.ifCond .ne 10, 3) := by decide +kernel
theorem dX12_lays_7 : decode cX12_lays 7 = .ok (.aload_n 0, 1) := by decide +kernel
theorem dX12_lays_8 : decode cX12_lays 8 = .ok (.ldc 80, 2) := by decide +kernel
theorem dX12_lays_10 : decode cX12_lays 10 = .ok (.invokevirtual 103, 3) := by decide +kernel
theorem dX12_lays_13 : decode cX12_lays 13 = .ok (.ireturn, 1) := by decide +kernel
theorem dX12_lays_14 : decode cX12_lays 14 = .ok (.aload_n 0, 1) := by decide +kernel
theorem dX12_lays_15 : decode cX12_lays 15 = .ok (.getfield 68, 3) := by decide +kernel
theorem dX12_lays_18 : decode cX12_lays 18 = .ok (.iload_n 1, 1) := by decide +kernel
theorem dX12_lays_19 : decode cX12_lays 19 = .ok (.iaload, 1) := by decide +kernel
theorem dX12_lays_20 : decode cX12_lays 20 = .ok (.ifCond .ne 11, 3) := by decide +kernel
theorem dX12_lays_23 : decode cX12_lays 23 = .ok (.aload_n 0, 1) := by decide +kernel
theorem dX12_lays_24 : decode cX12_lays 24 = .ok (.ldc_w 302, 3) := by decide +kernel
theorem dX12_lays_27 : decode cX12_lays 27 = .ok (.invokevirtual 103, 3) := by decide +kernel
theorem dX12_lays_30 : decode cX12_lays 30 = .ok (.ireturn, 1) := by decide +kernel
theorem dX12_lays_31 : decode cX12_lays 31 = .ok (.iload_n 2, 1) := by decide +kernel
theorem dX12_lays_32 : decode cX12_lays 32 = .ok (.invokestatic 93, 3) := by decide +kernel
theorem dX12_lays_35 : decode cX12_lays 35 = .ok (.ifCond .ne 10, 3) := by decide +kernel
theorem dX12_lays_38 : decode cX12_lays 38 = .ok (.aload_n 0, 1) := by decide +kernel
theorem dX12_lays_39 : decode cX12_lays 39 = .ok (.ldc 80, 2) := by decide +kernel
theorem dX12_lays_41 : decode cX12_lays 41 = .ok (.invokevirtual 103, 3) := by decide +kernel
theorem dX12_lays_44 : decode cX12_lays 44 = .ok (.ireturn, 1) := by decide +kernel
theorem dX12_lays_45 : decode cX12_lays 45 = .ok (.iconst 0, 1) := by decide +kernel
theorem dX12_lays_46 : decode cX12_lays 46 = .ok (.istore_n 3, 1) := by decide +kernel
theorem dX12_lays_47 : decode cX12_lays 47 = .ok (.iconst 0, 1) := by decide +kernel
theorem dX12_lays_48 : decode cX12_lays 48 = .ok (.istore 4, 2) := by decide +kernel
theorem dX12_lays_50 : decode cX12_lays 50 = .ok (.iload 4, 2) := by decide +kernel
theorem dX12_lays_52 : decode cX12_lays 52 = .ok (.aload_n 0, 1) := by decide +kernel
theorem dX12_lays_53 : decode cX12_lays 53 = .ok (.getfield 71, 3) := by decide +kernel
theorem dX12_lays_56 : decode cX12_lays 56 = .ok (.iload_n 1, 1) := by decide +kernel
theorem dX12_lays_57 : decode cX12_lays 57 = .ok (.iaload, 1) := by decide +kernel
theorem dX12_lays_58 : decode cX12_lays 58 = .ok (.if_icmp .ge 74, 3) := by decide +kernel
theorem dX12_lays_61 : decode cX12_lays 61 = .ok (.iload_n 2, 1) := by decide +kernel
theorem dX12_lays_62 : decode cX12_lays 62 = .ok (.iload 4, 2) := by decide +kernel
theorem dX12_lays_64 : decode cX12_lays 64 = .ok (.iadd, 1) := by decide +kernel
theorem dX12_lays_65 : decode cX12_lays 65 = .ok (.bipush 64, 2) := by decide +kernel
theorem dX12_lays_67 : decode cX12_lays 67 = .ok (.if_icmp .ge 65, 3) := by decide +kernel
theorem dX12_lays_70 : decode cX12_lays 70 = .ok (.aload_n 0, 1) := by decide +kernel
theorem dX12_lays_71 : decode cX12_lays 71 = .ok (.getfield 74, 3) := by decide +kernel
theorem dX12_lays_74 : decode cX12_lays 74 = .ok (.bipush 40, 2) := by decide +kernel
theorem dX12_lays_76 : decode cX12_lays 76 = .ok (.iload_n 1, 1) := by decide +kernel
theorem dX12_lays_77 : decode cX12_lays 77 = .ok (.imul, 1) := by decide +kernel
theorem dX12_lays_78 : decode cX12_lays 78 = .ok (.iload 4, 2) := by decide +kernel
theorem dX12_lays_80 : decode cX12_lays 80 = .ok (.iadd, 1) := by decide +kernel
theorem dX12_lays_81 : decode cX12_lays 81 = .ok (.laload, 1) := by decide +kernel
theorem dX12_lays_82 : decode cX12_lays 82 = .ok (.lstore 5, 2) := by decide +kernel
theorem dX12_lays_84 : decode cX12_lays 84 = .ok (.lload 5, 2) := by decide +kernel
theorem dX12_lays_86 : decode cX12_lays 86 = .ok (.lconst 0, 1) := by decide +kernel
theorem dX12_lays_87 : decode cX12_lays 87 = .ok (.lcmp, 1) := by decide +kernel
theorem dX12_lays_88 : decode cX12_lays 88 = .ok (.ifCond .lt 38, 3) := by decide +kernel
theorem dX12_lays_91 : decode cX12_lays 91 = .ok (.lload 5, 2) := by decide +kernel
theorem dX12_lays_93 : decode cX12_lays 93 = .ok (.ldc2_w 307, 3) := by decide +kernel
theorem dX12_lays_96 : decode cX12_lays 96 = .ok (.lcmp, 1) := by decide +kernel
theorem dX12_lays_97 : decode cX12_lays 97 = .ok (.ifCond .ge 29, 3) := by decide +kernel
theorem dX12_lays_100 : decode cX12_lays 100 = .ok (.aload_n 0, 1) := by decide +kernel
theorem dX12_lays_101 : decode cX12_lays 101 = .ok (.lload 5, 2) := by decide +kernel
theorem dX12_lays_103 : decode cX12_lays 103 = .ok (.l2i, 1) := by decide +kernel
theorem dX12_lays_104 : decode cX12_lays 104 = .ok (.invokevirtual 97, 3) := by decide +kernel
theorem dX12_lays_107 : decode cX12_lays 107 = .ok (.ifCond .eq 19, 3) := by decide +kernel
theorem dX12_lays_110 : decode cX12_lays 110 = .ok (.aload_n 0, 1) := by decide +kernel
theorem dX12_lays_111 : decode cX12_lays 111 = .ok (.iload_n 2, 1) := by decide +kernel
theorem dX12_lays_112 : decode cX12_lays 112 = .ok (.iload 4, 2) := by decide +kernel
theorem dX12_lays_114 : decode cX12_lays 114 = .ok (.iadd, 1) := by decide +kernel
theorem dX12_lays_115 : decode cX12_lays 115 = .ok (.lload 5, 2) := by decide +kernel
theorem dX12_lays_117 : decode cX12_lays 117 = .ok (.l2i, 1) := by decide +kernel
theorem dX12_lays_118 : decode cX12_lays 118 = .ok (.invokevirtual 100, 3) := by decide +kernel
theorem dX12_lays_121 : decode cX12_lays 121 = .ok (.istore 7, 2) := by decide +kernel
theorem dX12_lays_123 : decode cX12_lays 123 = .ok (.iinc 3 1, 3) := by decide +kernel
theorem dX12_lays_126 : decode cX12_lays 126 = .ok (.iinc 4 1, 3) := by decide +kernel
theorem dX12_lays_129 : decode cX12_lays 129 = .ok (.goto (-79), 3) := by decide +kernel
theorem dX12_lays_132 : decode cX12_lays 132 = .ok (.iload_n 3, 1) := by decide +kernel
theorem dX12_lays_133 : decode cX12_lays 133 = .ok (.ireturn, 1) := by decide +kernel
def k_X12_lays_0 (F : FT) (Q : QT) : KT := o_iload 1 (o_cS m_X12_isSheet 1 (o_ifne (F 14) (o_aload 0 (o_ic (-1000000001) (o_cV 12 m_X12_finding 2 (o_iret Q))))))
def k_X12_lays_14 (F : FT) (Q : QT) : KT := o_aload 0 (o_getR 12 22 (o_iload 1 (o_iald (o_ifne (F 31) (o_aload 0 (o_ic (-1000000006) (o_cV 12 m_X12_finding 2 (o_iret Q))))))))
def k_X12_lays_31 (F : FT) (Q : QT) : KT := o_iload 2 (o_cS m_X12_isSquare 1 (o_ifne (F 45) (o_aload 0 (o_ic (-1000000001) (o_cV 12 m_X12_finding 2 (o_iret Q))))))
def k_X12_lays_45 (F : FT) (Q : QT) : KT := o_ic (nI 0) (o_istore 3 (o_ic (nI 0) (o_istore 4 (F 50))))
def k_X12_lays_50 (F : FT) (Q : QT) : KT := o_iload 4 (o_aload 0 (o_getR 12 23 (o_iload 1 (o_iald (o_icge (F 132) (o_iload 2 (o_iload 4 (o_iadd (o_ic (nI 64) (o_icge (F 132) (o_aload 0 (o_getR 12 24 (o_ic (nI 40) (o_iload 1 (o_imul (o_iload 4 (o_iadd (o_lald (o_lstore 5 (o_lload 5 (o_lc (lN 0) (o_lcmp (o_iflt (F 126) (o_lload 5 (o_lc (100) (o_lcmp (o_ifge (F 126) (o_aload 0 (o_lload 5 (o_l2i (o_cV 12 m_X12_isSort 2 (o_ifeq (F 126) (o_aload 0 (o_iload 2 (o_iload 4 (o_iadd (o_lload 5 (o_l2i (o_cV 12 m_X12_stands 3 (o_istore 7 (o_iinc 3 (nI 1) (F 126))))))))))))))))))))))))))))))))))))))))))
def k_X12_lays_126 (F : FT) (Q : QT) : KT := o_iinc 4 (nI 1) (F 50)
def k_X12_lays_132 (F : FT) (Q : QT) : KT := o_iload 3 (o_iret Q)
set_option maxRecDepth 20000 in
theorem r_X12_lays {a0 : Nat} {a1 : Int32} {a2 : Int32} {n : Nat} {R : RR} {I : II} {J : JJ} {Q : QT} (hn : n + 0 ≤ 90) (h : ∀ F : FT, al_Wk F → al_Ok F (k_X12_lays_0 F Q) 0 → al_Ok F (k_X12_lays_14 F Q) 14 → al_Ok F (k_X12_lays_31 F Q) 31 → al_Ok F (k_X12_lays_45 F Q) 45 → al_Ok F (k_X12_lays_50 F Q) 50 → al_Ok F (k_X12_lays_126 F Q) 126 → al_Ok F (k_X12_lays_132 F Q) 132 → F 0 [some (.ref a0), some (.int a1), some (.int a2), none, none, none, none, none] [] n R I J) : CT m_X12_lays 0 [.ref a0, .int a1, .int a2] n R I J Q :=
  CT.of (by decide) hn (fun _ => rfl) (fun _ => Nat.le_of_ble_eq_true rfl) (fun F p l e s m args below meth c Rm t Q0 C hQ hr hm => h F (fun _ _ _ _ _ _ _ _ => S_wk C)
    (S_iload_n C dX12_lays_0 rfl (S_cS C ok_X12_isSheet (al_at 1292 (by decide +kernel) rfl) (Nat.le_of_ble_eq_true rfl) (Nat.le_of_ble_eq_true rfl) dX12_lays_1 (S_ifne (tgt := 14) C dX12_lays_4 (by decide) (S_aload_n C dX12_lays_7 rfl (S_ldc C dX12_lays_8 (al_at 1020 (by decide +kernel) rfl) (S_cV (ci := 12) C ok_X12_finding rfl (al_at 1021 (by decide +kernel) rfl) (Nat.le_of_ble_eq_true rfl) (Nat.le_of_ble_eq_true rfl) dX12_lays_10 (S_iret C hQ hr dX12_lays_13)))))))
    (S_aload_n C dX12_lays_14 rfl (S_getR (ci := 12) (j := 22) C inG12 rfl (Nat.le_of_ble_eq_true rfl) rfl (al_at 940 (by decide +kernel) rfl) dX12_lays_15 (S_iload_n C dX12_lays_18 rfl (S_iald C dX12_lays_19 (S_ifne (tgt := 31) C dX12_lays_20 (by decide) (S_aload_n C dX12_lays_23 rfl (S_ldcw C dX12_lays_24 (al_at 1300 (by decide +kernel) rfl) (S_cV (ci := 12) C ok_X12_finding rfl (al_at 1021 (by decide +kernel) rfl) (Nat.le_of_ble_eq_true rfl) (Nat.le_of_ble_eq_true rfl) dX12_lays_27 (S_iret C hQ hr dX12_lays_30)))))))))
    (S_iload_n C dX12_lays_31 rfl (S_cS C ok_X12_isSquare (al_at 1002 (by decide +kernel) rfl) (Nat.le_of_ble_eq_true rfl) (Nat.le_of_ble_eq_true rfl) dX12_lays_32 (S_ifne (tgt := 45) C dX12_lays_35 (by decide) (S_aload_n C dX12_lays_38 rfl (S_ldc C dX12_lays_39 (al_at 1020 (by decide +kernel) rfl) (S_cV (ci := 12) C ok_X12_finding rfl (al_at 1021 (by decide +kernel) rfl) (Nat.le_of_ble_eq_true rfl) (Nat.le_of_ble_eq_true rfl) dX12_lays_41 (S_iret C hQ hr dX12_lays_44)))))))
    (S_iconst C dX12_lays_45 (by decide +kernel) (S_istore_n C dX12_lays_46 rfl (Nat.le_of_ble_eq_true rfl) (S_iconst C dX12_lays_47 (by decide +kernel) (S_istore C dX12_lays_48 (Nat.le_of_ble_eq_true rfl) (fun _ _ _ _ _ _ h9 => h9)))))
    (S_iload C dX12_lays_50 (S_aload_n C dX12_lays_52 rfl (S_getR (ci := 12) (j := 23) C inG12 rfl (Nat.le_of_ble_eq_true rfl) rfl (al_at 941 (by decide +kernel) rfl) dX12_lays_53 (S_iload_n C dX12_lays_56 rfl (S_iald C dX12_lays_57 (S_icmpge (tgt := 132) C dX12_lays_58 (by decide) (S_iload_n C dX12_lays_61 rfl (S_iload C dX12_lays_62 (S_iadd C dX12_lays_64 (S_bipush C dX12_lays_65 (by decide +kernel) (S_icmpge (tgt := 132) C dX12_lays_67 (by decide) (S_aload_n C dX12_lays_70 rfl (S_getR (ci := 12) (j := 24) C inG12 rfl (Nat.le_of_ble_eq_true rfl) rfl (al_at 942 (by decide +kernel) rfl) dX12_lays_71 (S_bipush C dX12_lays_74 (by decide +kernel) (S_iload_n C dX12_lays_76 rfl (S_imul C dX12_lays_77 (S_iload C dX12_lays_78 (S_iadd C dX12_lays_80 (S_lald C dX12_lays_81 (S_lstore C dX12_lays_82 (Nat.le_of_ble_eq_true rfl) (S_lload C dX12_lays_84 (S_lconst C dX12_lays_86 (by decide +kernel) (S_lcmp C dX12_lays_87 (S_iflt (tgt := 126) C dX12_lays_88 (by decide) (S_lload C dX12_lays_91 (S_ldc2 C dX12_lays_93 (al_at 1312 (by decide +kernel) rfl) (S_lcmp C dX12_lays_96 (S_ifge (tgt := 126) C dX12_lays_97 (by decide) (S_aload_n C dX12_lays_100 rfl (S_lload C dX12_lays_101 (S_l2i C dX12_lays_103 (S_cV (ci := 12) C ok_X12_isSort rfl (al_at 1008 (by decide +kernel) rfl) (Nat.le_of_ble_eq_true rfl) (Nat.le_of_ble_eq_true rfl) dX12_lays_104 (S_ifeq (tgt := 126) C dX12_lays_107 (by decide) (S_aload_n C dX12_lays_110 rfl (S_iload_n C dX12_lays_111 rfl (S_iload C dX12_lays_112 (S_iadd C dX12_lays_114 (S_lload C dX12_lays_115 (S_l2i C dX12_lays_117 (S_cV (ci := 12) C ok_X12_stands rfl (al_at 1012 (by decide +kernel) rfl) (Nat.le_of_ble_eq_true rfl) (Nat.le_of_ble_eq_true rfl) dX12_lays_118 (S_istore C dX12_lays_121 (Nat.le_of_ble_eq_true rfl) (S_iinc C dX12_lays_123 (by decide +kernel) (Nat.le_of_ble_eq_true rfl) (fun _ _ _ _ _ _ h9 => h9)))))))))))))))))))))))))))))))))))))))))))
    (S_iinc C dX12_lays_126 (by decide +kernel) (Nat.le_of_ble_eq_true rfl) (S_goto (tgt := 50) C dX12_lays_129 (by decide)))
    (S_iload_n C dX12_lays_132 rfl (S_iret C hQ hr dX12_lays_133)))
theorem dX12_manyOf_0 : decode cX12_manyOf 0 = .ok (.iconst 0, 1) := by decide +kernel
theorem dX12_manyOf_1 : decode cX12_manyOf 1 = .ok (.istore_n 2, 1) := by decide +kernel
theorem dX12_manyOf_2 : decode cX12_manyOf 2 = .ok (.iconst 0, 1) := by decide +kernel
theorem dX12_manyOf_3 : decode cX12_manyOf 3 = .ok (.istore_n 3, 1) := by decide +kernel
theorem dX12_manyOf_4 : decode cX12_manyOf 4 = .ok (.iload_n 3, 1) := by decide +kernel
theorem dX12_manyOf_5 : decode cX12_manyOf 5 = .ok (.bipush 64, 2) := by decide +kernel
theorem dX12_manyOf_7 : decode cX12_manyOf 7 = .ok (.if_icmp .ge 27, 3) := by decide +kernel
theorem dX12_manyOf_10 : decode cX12_manyOf 10 = .ok (.iload_n 2, 1) := by decide +kernel
theorem dX12_manyOf_11 : decode cX12_manyOf 11 = .ok (.aload_n 0, 1) := by decide +kernel
theorem dX12_manyOf_12 : decode cX12_manyOf 12 = .ok (.getfield 9, 3) := by decide +kernel
theorem dX12_manyOf_15 : decode cX12_manyOf 15 = .ok (.iload_n 3, 1) := by decide +kernel
theorem dX12_manyOf_16 : decode cX12_manyOf 16 = .ok (.iaload, 1) := by decide +kernel
theorem dX12_manyOf_17 : decode cX12_manyOf 17 = .ok (.iload_n 1, 1) := by decide +kernel
theorem dX12_manyOf_18 : decode cX12_manyOf 18 = .ok (.if_icmp .ne 7, 3) := by decide +kernel
theorem dX12_manyOf_21 : decode cX12_manyOf 21 = .ok (.iconst 1, 1) := by decide +kernel
theorem dX12_manyOf_22 : decode cX12_manyOf 22 = .ok (.goto 4, 3) := by decide +kernel
theorem dX12_manyOf_25 : decode cX12_manyOf 25 = .ok (.iconst 0, 1) := by decide +kernel
theorem dX12_manyOf_26 : decode cX12_manyOf 26 = .ok (.iadd, 1) := by decide +kernel
theorem dX12_manyOf_27 : decode cX12_manyOf 27 = .ok (.istore_n 2, 1) := by decide +kernel
theorem dX12_manyOf_28 : decode cX12_manyOf 28 = .ok (.iinc 3 1, 3) := by decide +kernel
theorem dX12_manyOf_31 : decode cX12_manyOf 31 = .ok (.goto (-27), 3) := by decide +kernel
theorem dX12_manyOf_34 : decode cX12_manyOf 34 = .ok (.iload_n 2, 1) := by decide +kernel
theorem dX12_manyOf_35 : decode cX12_manyOf 35 = .ok (.ireturn, 1) := by decide +kernel
def k_X12_manyOf_0 (F : FT) (Q : QT) : KT := o_ic (nI 0) (o_istore 2 (o_ic (nI 0) (o_istore 3 (F 4))))
def k_X12_manyOf_4 (F : FT) (Q : QT) : KT := o_iload 3 (o_ic (nI 64) (o_icge (F 34) (o_iload 2 (o_aload 0 (o_getR 12 0 (o_iload 3 (o_iald (o_iload 1 (o_icne (F 25) (o_ic (nI 1) (F 26)))))))))))
def k_X12_manyOf_25 (F : FT) (Q : QT) : KT := o_ic (nI 0) (F 26)
def k_X12_manyOf_26 (F : FT) (Q : QT) : KT := o_iadd (o_istore 2 (o_iinc 3 (nI 1) (F 4)))
def k_X12_manyOf_34 (F : FT) (Q : QT) : KT := o_iload 2 (o_iret Q)
set_option maxRecDepth 20000 in
theorem r_X12_manyOf {a0 : Nat} {a1 : Int32} {n : Nat} {R : RR} {I : II} {J : JJ} {Q : QT} (hn : n + 0 ≤ 90) (h : ∀ F : FT, al_Wk F → al_Ok F (k_X12_manyOf_0 F Q) 0 → al_Ok F (k_X12_manyOf_4 F Q) 4 → al_Ok F (k_X12_manyOf_25 F Q) 25 → al_Ok F (k_X12_manyOf_26 F Q) 26 → al_Ok F (k_X12_manyOf_34 F Q) 34 → F 0 [some (.ref a0), some (.int a1), none, none] [] n R I J) : CT m_X12_manyOf 0 [.ref a0, .int a1] n R I J Q :=
  CT.of (by decide) hn (fun _ => rfl) (fun _ => Nat.le_of_ble_eq_true rfl) (fun F p l e s m args below meth c Rm t Q0 C hQ hr hm => h F (fun _ _ _ _ _ _ _ _ => S_wk C)
    (S_iconst C dX12_manyOf_0 (by decide +kernel) (S_istore_n C dX12_manyOf_1 rfl (Nat.le_of_ble_eq_true rfl) (S_iconst C dX12_manyOf_2 (by decide +kernel) (S_istore_n C dX12_manyOf_3 rfl (Nat.le_of_ble_eq_true rfl) (fun _ _ _ _ _ _ h9 => h9)))))
    (S_iload_n C dX12_manyOf_4 rfl (S_bipush C dX12_manyOf_5 (by decide +kernel) (S_icmpge (tgt := 34) C dX12_manyOf_7 (by decide) (S_iload_n C dX12_manyOf_10 rfl (S_aload_n C dX12_manyOf_11 rfl (S_getR (ci := 12) (j := 0) C inG12 rfl (Nat.le_of_ble_eq_true rfl) rfl (al_at 918 (by decide +kernel) rfl) dX12_manyOf_12 (S_iload_n C dX12_manyOf_15 rfl (S_iald C dX12_manyOf_16 (S_iload_n C dX12_manyOf_17 rfl (S_icmpne (tgt := 25) C dX12_manyOf_18 (by decide) (S_iconst C dX12_manyOf_21 (by decide +kernel) (S_goto (tgt := 26) C dX12_manyOf_22 (by decide)))))))))))))
    (S_iconst C dX12_manyOf_25 (by decide +kernel) (fun _ _ _ _ _ _ h9 => h9))
    (S_iadd C dX12_manyOf_26 (S_istore_n C dX12_manyOf_27 rfl (Nat.le_of_ble_eq_true rfl) (S_iinc C dX12_manyOf_28 (by decide +kernel) (Nat.le_of_ble_eq_true rfl) (S_goto (tgt := 4) C dX12_manyOf_31 (by decide)))))
    (S_iload_n C dX12_manyOf_34 rfl (S_iret C hQ hr dX12_manyOf_35)))
theorem dX12_neighbours_0 : decode cX12_neighbours 0 = .ok (.iconst (-1), 1) := by decide +kernel
theorem dX12_neighbours_1 : decode cX12_neighbours 1 = .ok (.istore_n 1, 1) := by decide +kernel
theorem dX12_neighbours_2 : decode cX12_neighbours 2 = .ok (.iconst 0, 1) := by decide +kernel
theorem dX12_neighbours_3 : decode cX12_neighbours 3 = .ok (.istore_n 2, 1) := by decide +kernel
theorem dX12_neighbours_4 : decode cX12_neighbours 4 = .ok (.iconst 0, 1) := by decide +kernel
theorem dX12_neighbours_5 : decode cX12_neighbours 5 = .ok (.istore_n 3, 1) := by decide +kernel
theorem dX12_neighbours_6 : decode cX12_neighbours 6 = .ok (.iload_n 3, 1) := by decide +kernel
theorem dX12_neighbours_7 : decode cX12_neighbours 7 = .ok (.aload_n 0, 1) := by decide +kernel
theorem dX12_neighbours_8 : decode cX12_neighbours 8 = .ok (.getfield 9, 3) := by decide +kernel
theorem dX12_neighbours_11 : decode cX12_neighbours 11 = .ok (.sipush 142, 3) := by decide +kernel
theorem dX12_neighbours_14 : decode cX12_neighbours 14 = .ok (.iaload, 1) := by decide +kernel
theorem dX12_neighbours_15 : decode cX12_neighbours 15 = .ok (.if_icmp .ge 100, 3) := by decide +kernel
theorem dX12_neighbours_18 : decode cX12_neighbours 18 = .ok (.iload_n 3, 1) := by decide +kernel
theorem dX12_neighbours_19 : decode cX12_neighbours 19 = .ok (.iconst 1, 1) := by decide +kernel
theorem dX12_neighbours_20 : decode cX12_neighbours 20 = .ok (.iadd, 1) := by decide +kernel
theorem dX12_neighbours_21 : decode cX12_neighbours 21 = .ok (.istore 4, 2) := by decide +kernel
theorem dX12_neighbours_23 : decode cX12_neighbours 23 = .ok (.iload 4, 2) := by decide +kernel
theorem dX12_neighbours_25 : decode cX12_neighbours 25 = .ok (.aload_n 0, 1) := by decide +kernel
theorem dX12_neighbours_26 : decode cX12_neighbours 26 = .ok (.getfield 9, 3) := by decide +kernel
theorem dX12_neighbours_29 : decode cX12_neighbours 29 = .ok (.sipush 142, 3) := by decide +kernel
theorem dX12_neighbours_32 : decode cX12_neighbours 32 = .ok (.iaload, 1) := by decide +kernel
theorem dX12_neighbours_33 : decode cX12_neighbours 33 = .ok (.if_icmp .ge 76, 3) := by decide +kernel
theorem dX12_neighbours_36 : decode cX12_neighbours 36 = .ok (.iconst 0, 1) := by decide +kernel
theorem dX12_neighbours_37 : decode cX12_neighbours 37 = .ok (.istore 5, 2) := by decide +kernel
theorem dX12_neighbours_39 : decode cX12_neighbours 39 = .ok (.iconst 0, 1) := by decide +kernel
theorem dX12_neighbours_40 : decode cX12_neighbours 40 = .ok (.istore 6, 2) := by decide +kernel
theorem dX12_neighbours_42 : decode cX12_neighbours 42 = .ok (.iload 6, 2) := by decide +kernel
theorem dX12_neighbours_44 : decode cX12_neighbours 44 = .ok (.bipush 81, 2) := by decide +kernel
theorem dX12_neighbours_46 : decode cX12_neighbours 46 = .ok (.if_icmp .ge 40, 3) := by decide +kernel
theorem dX12_neighbours_49 : decode cX12_neighbours 49 = .ok (.iload 5, 2) := by decide +kernel
theorem dX12_neighbours_51 : decode cX12_neighbours 51 = .ok (.aload_n 0, 1) := by decide +kernel
theorem dX12_neighbours_52 : decode cX12_neighbours 52 = .ok (.iload_n 3, 1) := by decide +kernel
theorem dX12_neighbours_53 : decode cX12_neighbours 53 = .ok (.iload 6, 2) := by decide +kernel
theorem dX12_neighbours_55 : decode cX12_neighbours 55 = .ok (.invokevirtual 161, 3) := by decide +kernel
theorem dX12_neighbours_58 : decode cX12_neighbours 58 = .ok (.ifCond .le 18, 3) := by decide +kernel
theorem dX12_neighbours_61 : decode cX12_neighbours 61 = .ok (.aload_n 0, 1) := by decide +kernel
theorem dX12_neighbours_62 : decode cX12_neighbours 62 = .ok (.iload 4, 2) := by decide +kernel
theorem dX12_neighbours_64 : decode cX12_neighbours 64 = .ok (.iload 6, 2) := by decide +kernel
theorem dX12_neighbours_66 : decode cX12_neighbours 66 = .ok (.invokevirtual 161, 3) := by decide +kernel
theorem dX12_neighbours_69 : decode cX12_neighbours 69 = .ok (.ifCond .le 7, 3) := by decide +kernel
theorem dX12_neighbours_72 : decode cX12_neighbours 72 = .ok (.iconst 1, 1) := by decide +kernel
theorem dX12_neighbours_73 : decode cX12_neighbours 73 = .ok (.goto 4, 3) := by decide +kernel
theorem dX12_neighbours_76 : decode cX12_neighbours 76 = .ok (.iconst 0, 1) := by decide +kernel
theorem dX12_neighbours_77 : decode cX12_neighbours 77 = .ok (.iadd, 1) := by decide +kernel
theorem dX12_neighbours_78 : decode cX12_neighbours 78 = .ok (.istore 5, 2) := by decide +kernel
theorem dX12_neighbours_80 : decode cX12_neighbours 80 = .ok (.iinc 6 1, 3) := by decide +kernel
theorem dX12_neighbours_83 : decode cX12_neighbours 83 = .ok (.goto (-41), 3) := by decide +kernel
theorem dX12_neighbours_86 : decode cX12_neighbours 86 = .ok (.iload 5, 2) := by decide +kernel
theorem dX12_neighbours_88 : decode cX12_neighbours 88 = .ok (.iload_n 2, 1) := by decide +kernel
theorem dX12_neighbours_89 : decode cX12_neighbours 89 = .ok (.if_icmp .le 14, 3) := by decide +kernel
theorem dX12_neighbours_92 : decode cX12_neighbours 92 = .ok (.iload 5, 2) := by decide +kernel
theorem dX12_neighbours_94 : decode cX12_neighbours 94 = .ok (.istore_n 2, 1) := by decide +kernel
theorem dX12_neighbours_95 : decode cX12_neighbours 95 = .ok (.bipush 10, 2) := by decide +kernel
theorem dX12_neighbours_97 : decode cX12_neighbours 97 = .ok (.iload_n 3, 1) := by decide +kernel
theorem dX12_neighbours_98 : decode cX12_neighbours 98 = .ok (.imul, 1) := by decide +kernel
theorem dX12_neighbours_99 : decode cX12_neighbours 99 = .ok (.iload 4, 2) := by decide +kernel
theorem dX12_neighbours_101 : decode cX12_neighbours 101 = .ok (.iadd, 1) := by decide +kernel
theorem dX12_neighbours_102 : decode cX12_neighbours 102 = .ok (.istore_n 1, 1) := by decide +kernel
theorem dX12_neighbours_103 : decode cX12_neighbours 103 = .ok (.iinc 4 1, 3) := by decide +kernel
theorem dX12_neighbours_106 : decode cX12_neighbours 106 = .ok (.goto (-83), 3) := by decide +kernel
theorem dX12_neighbours_109 : decode cX12_neighbours 109 = .ok (.iinc 3 1, 3) := by decide +kernel
theorem dX12_neighbours_112 : decode cX12_neighbours 112 = .ok (.goto (-106), 3) := by decide +kernel
theorem dX12_neighbours_115 : decode cX12_neighbours 115 = .ok (.iload_n 1, 1) := by decide +kernel
theorem dX12_neighbours_116 : decode cX12_neighbours 116 = .ok (.ifCond .ge 12, 3) := by decide +kernel
theorem dX12_neighbours_119 : decode cX12_neighbours 119 = .ok (.aload_n 0, 1) := by decide +kernel
theorem dX12_neighbours_120 : decode cX12_neighbours 120 = .ok (.ldc 170, 2) := by decide +kernel
theorem dX12_neighbours_122 : decode cX12_neighbours 122 = .ok (.invokevirtual 103, 3) := by decide +kernel
theorem dX12_neighbours_125 : decode cX12_neighbours 125 = .ok (.goto 4, 3) := by decide +kernel
theorem dX12_neighbours_128 : decode cX12_neighbours 128 = .ok (.iload_n 1, 1) := by decide +kernel
theorem dX12_neighbours_129 : decode cX12_neighbours 129 = .ok (.ireturn, 1) := by decide +kernel
def k_X12_neighbours_0 (F : FT) (Q : QT) : KT := o_ic (-1) (o_istore 1 (o_ic (nI 0) (o_istore 2 (o_ic (nI 0) (o_istore 3 (F 6))))))
def k_X12_neighbours_6 (F : FT) (Q : QT) : KT := o_iload 3 (o_aload 0 (o_getR 12 0 (o_ic (nI 142) (o_iald (o_icge (F 115) (o_iload 3 (o_ic (nI 1) (o_iadd (o_istore 4 (F 23))))))))))
def k_X12_neighbours_23 (F : FT) (Q : QT) : KT := o_iload 4 (o_aload 0 (o_getR 12 0 (o_ic (nI 142) (o_iald (o_icge (F 109) (o_ic (nI 0) (o_istore 5 (o_ic (nI 0) (o_istore 6 (F 42))))))))))
def k_X12_neighbours_42 (F : FT) (Q : QT) : KT := o_iload 6 (o_ic (nI 81) (o_icge (F 86) (o_iload 5 (o_aload 0 (o_iload 3 (o_iload 6 (o_cV 12 m_X12_cornerOf 3 (o_ifle (F 76) (o_aload 0 (o_iload 4 (o_iload 6 (o_cV 12 m_X12_cornerOf 3 (o_ifle (F 76) (o_ic (nI 1) (F 77)))))))))))))))
def k_X12_neighbours_76 (F : FT) (Q : QT) : KT := o_ic (nI 0) (F 77)
def k_X12_neighbours_77 (F : FT) (Q : QT) : KT := o_iadd (o_istore 5 (o_iinc 6 (nI 1) (F 42)))
def k_X12_neighbours_86 (F : FT) (Q : QT) : KT := o_iload 5 (o_iload 2 (o_icle (F 103) (o_iload 5 (o_istore 2 (o_ic (nI 10) (o_iload 3 (o_imul (o_iload 4 (o_iadd (o_istore 1 (F 103)))))))))))
def k_X12_neighbours_103 (F : FT) (Q : QT) : KT := o_iinc 4 (nI 1) (F 23)
def k_X12_neighbours_109 (F : FT) (Q : QT) : KT := o_iinc 3 (nI 1) (F 6)
def k_X12_neighbours_115 (F : FT) (Q : QT) : KT := o_iload 1 (o_ifge (F 128) (o_aload 0 (o_ic (-1000000004) (o_cV 12 m_X12_finding 2 (F 129)))))
def k_X12_neighbours_128 (F : FT) (Q : QT) : KT := o_iload 1 (F 129)
def k_X12_neighbours_129 (F : FT) (Q : QT) : KT := o_iret Q
set_option maxRecDepth 20000 in
theorem r_X12_neighbours {a0 : Nat} {n : Nat} {R : RR} {I : II} {J : JJ} {Q : QT} (hn : n + 0 ≤ 90) (h : ∀ F : FT, al_Wk F → al_Ok F (k_X12_neighbours_0 F Q) 0 → al_Ok F (k_X12_neighbours_6 F Q) 6 → al_Ok F (k_X12_neighbours_23 F Q) 23 → al_Ok F (k_X12_neighbours_42 F Q) 42 → al_Ok F (k_X12_neighbours_76 F Q) 76 → al_Ok F (k_X12_neighbours_77 F Q) 77 → al_Ok F (k_X12_neighbours_86 F Q) 86 → al_Ok F (k_X12_neighbours_103 F Q) 103 → al_Ok F (k_X12_neighbours_109 F Q) 109 → al_Ok F (k_X12_neighbours_115 F Q) 115 → al_Ok F (k_X12_neighbours_128 F Q) 128 → al_Ok F (k_X12_neighbours_129 F Q) 129 → F 0 [some (.ref a0), none, none, none, none, none, none] [] n R I J) : CT m_X12_neighbours 0 [.ref a0] n R I J Q :=
  CT.of (by decide) hn (fun _ => rfl) (fun _ => Nat.le_of_ble_eq_true rfl) (fun F p l e s m args below meth c Rm t Q0 C hQ hr hm => h F (fun _ _ _ _ _ _ _ _ => S_wk C)
    (S_iconst C dX12_neighbours_0 (by decide +kernel) (S_istore_n C dX12_neighbours_1 rfl (Nat.le_of_ble_eq_true rfl) (S_iconst C dX12_neighbours_2 (by decide +kernel) (S_istore_n C dX12_neighbours_3 rfl (Nat.le_of_ble_eq_true rfl) (S_iconst C dX12_neighbours_4 (by decide +kernel) (S_istore_n C dX12_neighbours_5 rfl (Nat.le_of_ble_eq_true rfl) (fun _ _ _ _ _ _ h9 => h9)))))))
    (S_iload_n C dX12_neighbours_6 rfl (S_aload_n C dX12_neighbours_7 rfl (S_getR (ci := 12) (j := 0) C inG12 rfl (Nat.le_of_ble_eq_true rfl) rfl (al_at 918 (by decide +kernel) rfl) dX12_neighbours_8 (S_sipush C dX12_neighbours_11 (by decide +kernel) (S_iald C dX12_neighbours_14 (S_icmpge (tgt := 115) C dX12_neighbours_15 (by decide) (S_iload_n C dX12_neighbours_18 rfl (S_iconst C dX12_neighbours_19 (by decide +kernel) (S_iadd C dX12_neighbours_20 (S_istore C dX12_neighbours_21 (Nat.le_of_ble_eq_true rfl) (fun _ _ _ _ _ _ h9 => h9)))))))))))
    (S_iload C dX12_neighbours_23 (S_aload_n C dX12_neighbours_25 rfl (S_getR (ci := 12) (j := 0) C inG12 rfl (Nat.le_of_ble_eq_true rfl) rfl (al_at 918 (by decide +kernel) rfl) dX12_neighbours_26 (S_sipush C dX12_neighbours_29 (by decide +kernel) (S_iald C dX12_neighbours_32 (S_icmpge (tgt := 109) C dX12_neighbours_33 (by decide) (S_iconst C dX12_neighbours_36 (by decide +kernel) (S_istore C dX12_neighbours_37 (Nat.le_of_ble_eq_true rfl) (S_iconst C dX12_neighbours_39 (by decide +kernel) (S_istore C dX12_neighbours_40 (Nat.le_of_ble_eq_true rfl) (fun _ _ _ _ _ _ h9 => h9)))))))))))
    (S_iload C dX12_neighbours_42 (S_bipush C dX12_neighbours_44 (by decide +kernel) (S_icmpge (tgt := 86) C dX12_neighbours_46 (by decide) (S_iload C dX12_neighbours_49 (S_aload_n C dX12_neighbours_51 rfl (S_iload_n C dX12_neighbours_52 rfl (S_iload C dX12_neighbours_53 (S_cV (ci := 12) C ok_X12_cornerOf rfl (al_at 1058 (by decide +kernel) rfl) (Nat.le_of_ble_eq_true rfl) (Nat.le_of_ble_eq_true rfl) dX12_neighbours_55 (S_ifle (tgt := 76) C dX12_neighbours_58 (by decide) (S_aload_n C dX12_neighbours_61 rfl (S_iload C dX12_neighbours_62 (S_iload C dX12_neighbours_64 (S_cV (ci := 12) C ok_X12_cornerOf rfl (al_at 1058 (by decide +kernel) rfl) (Nat.le_of_ble_eq_true rfl) (Nat.le_of_ble_eq_true rfl) dX12_neighbours_66 (S_ifle (tgt := 76) C dX12_neighbours_69 (by decide) (S_iconst C dX12_neighbours_72 (by decide +kernel) (S_goto (tgt := 77) C dX12_neighbours_73 (by decide)))))))))))))))))
    (S_iconst C dX12_neighbours_76 (by decide +kernel) (fun _ _ _ _ _ _ h9 => h9))
    (S_iadd C dX12_neighbours_77 (S_istore C dX12_neighbours_78 (Nat.le_of_ble_eq_true rfl) (S_iinc C dX12_neighbours_80 (by decide +kernel) (Nat.le_of_ble_eq_true rfl) (S_goto (tgt := 42) C dX12_neighbours_83 (by decide)))))
    (S_iload C dX12_neighbours_86 (S_iload_n C dX12_neighbours_88 rfl (S_icmple (tgt := 103) C dX12_neighbours_89 (by decide) (S_iload C dX12_neighbours_92 (S_istore_n C dX12_neighbours_94 rfl (Nat.le_of_ble_eq_true rfl) (S_bipush C dX12_neighbours_95 (by decide +kernel) (S_iload_n C dX12_neighbours_97 rfl (S_imul C dX12_neighbours_98 (S_iload C dX12_neighbours_99 (S_iadd C dX12_neighbours_101 (S_istore_n C dX12_neighbours_102 rfl (Nat.le_of_ble_eq_true rfl) (fun _ _ _ _ _ _ h9 => h9))))))))))))
    (S_iinc C dX12_neighbours_103 (by decide +kernel) (Nat.le_of_ble_eq_true rfl) (S_goto (tgt := 23) C dX12_neighbours_106 (by decide)))
    (S_iinc C dX12_neighbours_109 (by decide +kernel) (Nat.le_of_ble_eq_true rfl) (S_goto (tgt := 6) C dX12_neighbours_112 (by decide)))
    (S_iload_n C dX12_neighbours_115 rfl (S_ifge (tgt := 128) C dX12_neighbours_116 (by decide) (S_aload_n C dX12_neighbours_119 rfl (S_ldc C dX12_neighbours_120 (al_at 1145 (by decide +kernel) rfl) (S_cV (ci := 12) C ok_X12_finding rfl (al_at 1021 (by decide +kernel) rfl) (Nat.le_of_ble_eq_true rfl) (Nat.le_of_ble_eq_true rfl) dX12_neighbours_122 (S_goto (tgt := 129) C dX12_neighbours_125 (by decide)))))))
    (S_iload_n C dX12_neighbours_128 rfl (fun _ _ _ _ _ _ h9 => h9))
    (S_iret C hQ hr dX12_neighbours_129))
theorem dX12_newFrom_0 : decode cX12_newFrom 0 = .ok (.iconst 0, 1) := by decide +kernel
theorem dX12_newFrom_1 : decode cX12_newFrom 1 = .ok (.istore_n 2, 1) := by decide +kernel
theorem dX12_newFrom_2 : decode cX12_newFrom 2 = .ok (.iconst 0, 1) := by decide +kernel
theorem dX12_newFrom_3 : decode cX12_newFrom 3 = .ok (.istore_n 3, 1) := by decide +kernel
theorem dX12_newFrom_4 : decode cX12_newFrom 4 = .ok (.iload_n 3, 1) := by decide +kernel
theorem dX12_newFrom_5 : decode cX12_newFrom 5 = .ok (.bipush 81, 2) := by decide +kernel
theorem dX12_newFrom_7 : decode cX12_newFrom 7 = .ok (.if_icmp .ge 40, 3) := by decide +kernel
theorem dX12_newFrom_10 : decode cX12_newFrom 10 = .ok (.iload_n 2, 1) := by decide +kernel
theorem dX12_newFrom_11 : decode cX12_newFrom 11 = .ok (.aload_n 0, 1) := by decide +kernel
theorem dX12_newFrom_12 : decode cX12_newFrom 12 = .ok (.getfield 26, 3) := by decide +kernel
theorem dX12_newFrom_15 : decode cX12_newFrom 15 = .ok (.iload_n 3, 1) := by decide +kernel
theorem dX12_newFrom_16 : decode cX12_newFrom 16 = .ok (.baload, 1) := by decide +kernel
theorem dX12_newFrom_17 : decode cX12_newFrom 17 = .ok (.ifCond .eq 21, 3) := by decide +kernel
theorem dX12_newFrom_20 : decode cX12_newFrom 20 = .ok (.aload_n 0, 1) := by decide +kernel
theorem dX12_newFrom_21 : decode cX12_newFrom 21 = .ok (.iload_n 3, 1) := by decide +kernel
theorem dX12_newFrom_22 : decode cX12_newFrom 22 = .ok (.invokevirtual 172, 3) := by decide +kernel
theorem dX12_newFrom_25 : decode cX12_newFrom 25 = .ok (.iload_n 1, 1) := by decide +kernel
theorem dX12_newFrom_26 : decode cX12_newFrom 26 = .ok (.lshr, 1) := by decide +kernel
theorem dX12_newFrom_27 : decode cX12_newFrom 27 = .ok (.lconst 1, 1) := by decide +kernel
theorem dX12_newFrom_28 : decode cX12_newFrom 28 = .ok (.land, 1) := by decide +kernel
theorem dX12_newFrom_29 : decode cX12_newFrom 29 = .ok (.lconst 1, 1) := by decide +kernel
theorem dX12_newFrom_30 : decode cX12_newFrom 30 = .ok (.lcmp, 1) := by decide +kernel
theorem dX12_newFrom_31 : decode cX12_newFrom 31 = .ok (.ifCond .ne 7, 3) := by decide +kernel
theorem dX12_newFrom_34 : decode cX12_newFrom 34 = .ok (.iconst 1, 1) := by decide +kernel
theorem dX12_newFrom_35 : decode cX12_newFrom 35 = .ok (.goto 4, 3) := by decide +kernel
theorem dX12_newFrom_38 : decode cX12_newFrom 38 = .ok (.iconst 0, 1) := by decide +kernel
theorem dX12_newFrom_39 : decode cX12_newFrom 39 = .ok (.iadd, 1) := by decide +kernel
theorem dX12_newFrom_40 : decode cX12_newFrom 40 = .ok (.istore_n 2, 1) := by decide +kernel
theorem dX12_newFrom_41 : decode cX12_newFrom 41 = .ok (.iinc 3 1, 3) := by decide +kernel
theorem dX12_newFrom_44 : decode cX12_newFrom 44 = .ok (.goto (-40), 3) := by decide +kernel
theorem dX12_newFrom_47 : decode cX12_newFrom 47 = .ok (.iload_n 2, 1) := by decide +kernel
theorem dX12_newFrom_48 : decode cX12_newFrom 48 = .ok (.ireturn, 1) := by decide +kernel
def k_X12_newFrom_0 (F : FT) (Q : QT) : KT := o_ic (nI 0) (o_istore 2 (o_ic (nI 0) (o_istore 3 (F 4))))
def k_X12_newFrom_4 (F : FT) (Q : QT) : KT := o_iload 3 (o_ic (nI 81) (o_icge (F 47) (o_iload 2 (o_aload 0 (o_getR 12 8 (o_iload 3 (o_zald (o_ifeq (F 38) (o_aload 0 (o_iload 3 (o_cV 12 m_X12_seenAt 2 (o_iload 1 (o_lshr (o_lc (lN 1) (o_land (o_lc (lN 1) (o_lcmp (o_ifne (F 38) (o_ic (nI 1) (F 39))))))))))))))))))))
def k_X12_newFrom_38 (F : FT) (Q : QT) : KT := o_ic (nI 0) (F 39)
def k_X12_newFrom_39 (F : FT) (Q : QT) : KT := o_iadd (o_istore 2 (o_iinc 3 (nI 1) (F 4)))
def k_X12_newFrom_47 (F : FT) (Q : QT) : KT := o_iload 2 (o_iret Q)
set_option maxRecDepth 20000 in
theorem r_X12_newFrom {a0 : Nat} {a1 : Int32} {n : Nat} {R : RR} {I : II} {J : JJ} {Q : QT} (hn : n + 0 ≤ 90) (h : ∀ F : FT, al_Wk F → al_Ok F (k_X12_newFrom_0 F Q) 0 → al_Ok F (k_X12_newFrom_4 F Q) 4 → al_Ok F (k_X12_newFrom_38 F Q) 38 → al_Ok F (k_X12_newFrom_39 F Q) 39 → al_Ok F (k_X12_newFrom_47 F Q) 47 → F 0 [some (.ref a0), some (.int a1), none, none] [] n R I J) : CT m_X12_newFrom 0 [.ref a0, .int a1] n R I J Q :=
  CT.of (by decide) hn (fun _ => rfl) (fun _ => Nat.le_of_ble_eq_true rfl) (fun F p l e s m args below meth c Rm t Q0 C hQ hr hm => h F (fun _ _ _ _ _ _ _ _ => S_wk C)
    (S_iconst C dX12_newFrom_0 (by decide +kernel) (S_istore_n C dX12_newFrom_1 rfl (Nat.le_of_ble_eq_true rfl) (S_iconst C dX12_newFrom_2 (by decide +kernel) (S_istore_n C dX12_newFrom_3 rfl (Nat.le_of_ble_eq_true rfl) (fun _ _ _ _ _ _ h9 => h9)))))
    (S_iload_n C dX12_newFrom_4 rfl (S_bipush C dX12_newFrom_5 (by decide +kernel) (S_icmpge (tgt := 47) C dX12_newFrom_7 (by decide) (S_iload_n C dX12_newFrom_10 rfl (S_aload_n C dX12_newFrom_11 rfl (S_getR (ci := 12) (j := 8) C inG12 rfl (Nat.le_of_ble_eq_true rfl) rfl (al_at 926 (by decide +kernel) rfl) dX12_newFrom_12 (S_iload_n C dX12_newFrom_15 rfl (S_zald C dX12_newFrom_16 (S_ifeq (tgt := 38) C dX12_newFrom_17 (by decide) (S_aload_n C dX12_newFrom_20 rfl (S_iload_n C dX12_newFrom_21 rfl (S_cV (ci := 12) C ok_X12_seenAt rfl (al_at 1082 (by decide +kernel) rfl) (Nat.le_of_ble_eq_true rfl) (Nat.le_of_ble_eq_true rfl) dX12_newFrom_22 (S_iload_n C dX12_newFrom_25 rfl (S_lshr C dX12_newFrom_26 (S_lconst C dX12_newFrom_27 (by decide +kernel) (S_land C dX12_newFrom_28 (S_lconst C dX12_newFrom_29 (by decide +kernel) (S_lcmp C dX12_newFrom_30 (S_ifne (tgt := 38) C dX12_newFrom_31 (by decide) (S_iconst C dX12_newFrom_34 (by decide +kernel) (S_goto (tgt := 39) C dX12_newFrom_35 (by decide))))))))))))))))))))))
    (S_iconst C dX12_newFrom_38 (by decide +kernel) (fun _ _ _ _ _ _ h9 => h9))
    (S_iadd C dX12_newFrom_39 (S_istore_n C dX12_newFrom_40 rfl (Nat.le_of_ble_eq_true rfl) (S_iinc C dX12_newFrom_41 (by decide +kernel) (Nat.le_of_ble_eq_true rfl) (S_goto (tgt := 4) C dX12_newFrom_44 (by decide)))))
    (S_iload_n C dX12_newFrom_47 rfl (S_iret C hQ hr dX12_newFrom_48)))
theorem dX12_of_0 : decode cX12_of 0 = .ok (.aload_n 0, 1) := by decide +kernel
theorem dX12_of_1 : decode cX12_of 1 = .ok (.iload_n 1, 1) := by decide +kernel
theorem dX12_of_2 : decode cX12_of 2 = .ok (.invokevirtual 142, 3) := by decide +kernel
theorem dX12_of_5 : decode cX12_of 5 = .ok (.ifCond .ne 10, 3) := by decide +kernel
theorem dX12_of_8 : decode cX12_of 8 = .ok (.aload_n 0, 1) := by decide +kernel
theorem dX12_of_9 : decode cX12_of 9 = .ok (.ldc 80, 2) := by decide +kernel
theorem dX12_of_11 : decode cX12_of 11 = .ok (.invokevirtual 103, 3) := by decide +kernel
theorem dX12_of_14 : decode cX12_of 14 = .ok (.ireturn, 1) := by decide +kernel
theorem dX12_of_15 : decode cX12_of 15 = .ok (.iload_n 2, 1) := by decide +kernel
theorem dX12_of_16 : decode cX12_of 16 = .ok (.tableswitch 90 0 7 #[48, 48, 48, 55, 64, 70, 77, 83], 48) := by decide +kernel
theorem dX12_of_64 : decode cX12_of 64 = .ok (.aload_n 0, 1) := by decide +kernel
theorem dX12_of_65 : decode cX12_of 65 = .ok (.iload_n 1, 1) := by decide +kernel
theorem dX12_of_66 : decode cX12_of 66 = .ok (.iload_n 2, 1) := by decide +kernel
theorem dX12_of_67 : decode cX12_of 67 = .ok (.invokevirtual 145, 3) := by decide +kernel
theorem dX12_of_70 : decode cX12_of 70 = .ok (.ireturn, 1) := by decide +kernel
theorem dX12_of_71 : decode cX12_of 71 = .ok (.aload_n 0, 1) := by decide +kernel
theorem dX12_of_72 : decode cX12_of 72 = .ok (.bipush 10, 2) := by decide +kernel
theorem dX12_of_74 : decode cX12_of 74 = .ok (.iload_n 1, 1) := by decide +kernel
theorem dX12_of_75 : decode cX12_of 75 = .ok (.iadd, 1) := by decide +kernel
theorem dX12_of_76 : decode cX12_of 76 = .ok (.invokevirtual 148, 3) := by decide +kernel
theorem dX12_of_79 : decode cX12_of 79 = .ok (.ireturn, 1) := by decide +kernel
theorem dX12_of_80 : decode cX12_of 80 = .ok (.aload_n 0, 1) := by decide +kernel
theorem dX12_of_81 : decode cX12_of 81 = .ok (.iload_n 1, 1) := by decide +kernel
theorem dX12_of_82 : decode cX12_of 82 = .ok (.invokevirtual 151, 3) := by decide +kernel
theorem dX12_of_85 : decode cX12_of 85 = .ok (.ireturn, 1) := by decide +kernel
theorem dX12_of_86 : decode cX12_of 86 = .ok (.aload_n 0, 1) := by decide +kernel
theorem dX12_of_87 : decode cX12_of 87 = .ok (.iload_n 1, 1) := by decide +kernel
theorem dX12_of_88 : decode cX12_of 88 = .ok (.iconst 4, 1) := by decide +kernel
theorem dX12_of_89 : decode cX12_of 89 = .ok (.invokevirtual 145, 3) := by decide +kernel
theorem dX12_of_92 : decode cX12_of 92 = .ok (.ireturn, 1) := by decide +kernel
theorem dX12_of_93 : decode cX12_of 93 = .ok (.aload_n 0, 1) := by decide +kernel
theorem dX12_of_94 : decode cX12_of 94 = .ok (.iload_n 1, 1) := by decide +kernel
theorem dX12_of_95 : decode cX12_of 95 = .ok (.invokevirtual 154, 3) := by decide +kernel
theorem dX12_of_98 : decode cX12_of 98 = .ok (.ireturn, 1) := by decide +kernel
theorem dX12_of_99 : decode cX12_of 99 = .ok (.aload_n 0, 1) := by decide +kernel
theorem dX12_of_100 : decode cX12_of 100 = .ok (.iload_n 1, 1) := by decide +kernel
theorem dX12_of_101 : decode cX12_of 101 = .ok (.iconst 3, 1) := by decide +kernel
theorem dX12_of_102 : decode cX12_of 102 = .ok (.invokevirtual 145, 3) := by decide +kernel
theorem dX12_of_105 : decode cX12_of 105 = .ok (.ireturn, 1) := by decide +kernel
theorem dX12_of_106 : decode cX12_of 106 = .ok (.aload_n 0, 1) := by decide +kernel
theorem dX12_of_107 : decode cX12_of 107 = .ok (.ldc 80, 2) := by decide +kernel
theorem dX12_of_109 : decode cX12_of 109 = .ok (.invokevirtual 103, 3) := by decide +kernel
theorem dX12_of_112 : decode cX12_of 112 = .ok (.ireturn, 1) := by decide +kernel
def k_X12_of_0 (F : FT) (Q : QT) : KT := o_aload 0 (o_iload 1 (o_cV 12 m_X12_isHouse 2 (o_ifne (F 15) (o_aload 0 (o_ic (-1000000001) (o_cV 12 m_X12_finding 2 (o_iret Q)))))))
def k_X12_of_15 (F : FT) (Q : QT) : KT := o_iload 2 (o_tsw (nI 0) [F 64, F 64, F 64, F 71, F 80, F 86, F 93, F 99] (F 106))
def k_X12_of_64 (F : FT) (Q : QT) : KT := o_aload 0 (o_iload 1 (o_iload 2 (o_cV 12 m_X12_houseIs 3 (o_iret Q))))
def k_X12_of_71 (F : FT) (Q : QT) : KT := o_aload 0 (o_ic (nI 10) (o_iload 1 (o_iadd (o_cV 12 m_X12_manyOf 2 (o_iret Q)))))
def k_X12_of_80 (F : FT) (Q : QT) : KT := o_aload 0 (o_iload 1 (o_cV 12 m_X12_cornersOf 2 (o_iret Q)))
def k_X12_of_86 (F : FT) (Q : QT) : KT := o_aload 0 (o_iload 1 (o_ic (nI 4) (o_cV 12 m_X12_houseIs 3 (o_iret Q))))
def k_X12_of_93 (F : FT) (Q : QT) : KT := o_aload 0 (o_iload 1 (o_cV 12 m_X12_taxOf 2 (o_iret Q)))
def k_X12_of_99 (F : FT) (Q : QT) : KT := o_aload 0 (o_iload 1 (o_ic (nI 3) (o_cV 12 m_X12_houseIs 3 (o_iret Q))))
def k_X12_of_106 (F : FT) (Q : QT) : KT := o_aload 0 (o_ic (-1000000001) (o_cV 12 m_X12_finding 2 (o_iret Q)))
set_option maxRecDepth 20000 in
theorem r_X12_of {a0 : Nat} {a1 : Int32} {a2 : Int32} {n : Nat} {R : RR} {I : II} {J : JJ} {Q : QT} (hn : n + 0 ≤ 90) (h : ∀ F : FT, al_Wk F → al_Ok F (k_X12_of_0 F Q) 0 → al_Ok F (k_X12_of_15 F Q) 15 → al_Ok F (k_X12_of_64 F Q) 64 → al_Ok F (k_X12_of_71 F Q) 71 → al_Ok F (k_X12_of_80 F Q) 80 → al_Ok F (k_X12_of_86 F Q) 86 → al_Ok F (k_X12_of_93 F Q) 93 → al_Ok F (k_X12_of_99 F Q) 99 → al_Ok F (k_X12_of_106 F Q) 106 → F 0 [some (.ref a0), some (.int a1), some (.int a2)] [] n R I J) : CT m_X12_of 0 [.ref a0, .int a1, .int a2] n R I J Q :=
  CT.of (by decide) hn (fun _ => rfl) (fun _ => Nat.le_of_ble_eq_true rfl) (fun F p l e s m args below meth c Rm t Q0 C hQ hr hm => h F (fun _ _ _ _ _ _ _ _ => S_wk C)
    (S_aload_n C dX12_of_0 rfl (S_iload_n C dX12_of_1 rfl (S_cV (ci := 12) C ok_X12_isHouse rfl (al_at 1042 (by decide +kernel) rfl) (Nat.le_of_ble_eq_true rfl) (Nat.le_of_ble_eq_true rfl) dX12_of_2 (S_ifne (tgt := 15) C dX12_of_5 (by decide) (S_aload_n C dX12_of_8 rfl (S_ldc C dX12_of_9 (al_at 1020 (by decide +kernel) rfl) (S_cV (ci := 12) C ok_X12_finding rfl (al_at 1021 (by decide +kernel) rfl) (Nat.le_of_ble_eq_true rfl) (Nat.le_of_ble_eq_true rfl) dX12_of_11 (S_iret C hQ hr dX12_of_14))))))))
    (S_iload_n C dX12_of_15 rfl (S_tsw (lo0 := 0) (tg := [64, 64, 64, 71, 80, 86, 93, 99]) (d := 106) C dX12_of_16 rfl (by decide) (by decide +kernel) (by decide) (by decide)))
    (S_aload_n C dX12_of_64 rfl (S_iload_n C dX12_of_65 rfl (S_iload_n C dX12_of_66 rfl (S_cV (ci := 12) C ok_X12_houseIs rfl (al_at 1046 (by decide +kernel) rfl) (Nat.le_of_ble_eq_true rfl) (Nat.le_of_ble_eq_true rfl) dX12_of_67 (S_iret C hQ hr dX12_of_70)))))
    (S_aload_n C dX12_of_71 rfl (S_bipush C dX12_of_72 (by decide +kernel) (S_iload_n C dX12_of_74 rfl (S_iadd C dX12_of_75 (S_cV (ci := 12) C ok_X12_manyOf rfl (al_at 1050 (by decide +kernel) rfl) (Nat.le_of_ble_eq_true rfl) (Nat.le_of_ble_eq_true rfl) dX12_of_76 (S_iret C hQ hr dX12_of_79))))))
    (S_aload_n C dX12_of_80 rfl (S_iload_n C dX12_of_81 rfl (S_cV (ci := 12) C ok_X12_cornersOf rfl (al_at 1054 (by decide +kernel) rfl) (Nat.le_of_ble_eq_true rfl) (Nat.le_of_ble_eq_true rfl) dX12_of_82 (S_iret C hQ hr dX12_of_85))))
    (S_aload_n C dX12_of_86 rfl (S_iload_n C dX12_of_87 rfl (S_iconst C dX12_of_88 (by decide +kernel) (S_cV (ci := 12) C ok_X12_houseIs rfl (al_at 1046 (by decide +kernel) rfl) (Nat.le_of_ble_eq_true rfl) (Nat.le_of_ble_eq_true rfl) dX12_of_89 (S_iret C hQ hr dX12_of_92)))))
    (S_aload_n C dX12_of_93 rfl (S_iload_n C dX12_of_94 rfl (S_cV (ci := 12) C ok_X12_taxOf rfl (al_at 1066 (by decide +kernel) rfl) (Nat.le_of_ble_eq_true rfl) (Nat.le_of_ble_eq_true rfl) dX12_of_95 (S_iret C hQ hr dX12_of_98))))
    (S_aload_n C dX12_of_99 rfl (S_iload_n C dX12_of_100 rfl (S_iconst C dX12_of_101 (by decide +kernel) (S_cV (ci := 12) C ok_X12_houseIs rfl (al_at 1046 (by decide +kernel) rfl) (Nat.le_of_ble_eq_true rfl) (Nat.le_of_ble_eq_true rfl) dX12_of_102 (S_iret C hQ hr dX12_of_105)))))
    (S_aload_n C dX12_of_106 rfl (S_ldc C dX12_of_107 (al_at 1020 (by decide +kernel) rfl) (S_cV (ci := 12) C ok_X12_finding rfl (al_at 1021 (by decide +kernel) rfl) (Nat.le_of_ble_eq_true rfl) (Nat.le_of_ble_eq_true rfl) dX12_of_109 (S_iret C hQ hr dX12_of_112)))))
theorem dX12_pays_0 : decode cX12_pays 0 = .ok (.aload_n 0, 1) := by decide +kernel
theorem dX12_pays_1 : decode cX12_pays 1 = .ok (.iload_n 1, 1) := by decide +kernel
theorem dX12_pays_2 : decode cX12_pays 2 = .ok (.invokevirtual 142, 3) := by decide +kernel
theorem dX12_pays_5 : decode cX12_pays 5 = .ok (.ifCond .eq 10, 3) := by decide +kernel
theorem dX12_pays_8 : decode cX12_pays 8 = .ok (.iload_n 2, 1) := by decide +kernel
theorem dX12_pays_9 : decode cX12_pays 9 = .ok (.invokestatic 164, 3) := by decide +kernel
theorem dX12_pays_12 : decode cX12_pays 12 = .ok (.ifCond .ne 10, 3) := by decide +kernel
theorem dX12_pays_15 : decode cX12_pays 15 = .ok (.aload_n 0, 1) := by decide +kernel
theorem dX12_pays_16 : decode cX12_pays 16 = .ok (.ldc 80, 2) := by decide +kernel
theorem dX12_pays_18 : decode cX12_pays 18 = .ok (.invokevirtual 103, 3) := by decide +kernel
theorem dX12_pays_21 : decode cX12_pays 21 = .ok (.ireturn, 1) := by decide +kernel
theorem dX12_pays_22 : decode cX12_pays 22 = .ok (.aload_n 0, 1) := by decide +kernel
theorem dX12_pays_23 : decode cX12_pays 23 = .ok (.iload_n 1, 1) := by decide +kernel
theorem dX12_pays_24 : decode cX12_pays 24 = .ok (.iconst 1, 1) := by decide +kernel
theorem dX12_pays_25 : decode cX12_pays 25 = .ok (.invokevirtual 145, 3) := by decide +kernel
theorem dX12_pays_28 : decode cX12_pays 28 = .ok (.aload_n 0, 1) := by decide +kernel
theorem dX12_pays_29 : decode cX12_pays 29 = .ok (.iload_n 1, 1) := by decide +kernel
theorem dX12_pays_30 : decode cX12_pays 30 = .ok (.iload_n 2, 1) := by decide +kernel
theorem dX12_pays_31 : decode cX12_pays 31 = .ok (.invokevirtual 186, 3) := by decide +kernel
theorem dX12_pays_34 : decode cX12_pays 34 = .ok (.imul, 1) := by decide +kernel
theorem dX12_pays_35 : decode cX12_pays 35 = .ok (.istore_n 3, 1) := by decide +kernel
theorem dX12_pays_36 : decode cX12_pays 36 = .ok (.iload_n 3, 1) := by decide +kernel
theorem dX12_pays_37 : decode cX12_pays 37 = .ok (.ifCond .ne 12, 3) := by decide +kernel
theorem dX12_pays_40 : decode cX12_pays 40 = .ok (.aload_n 0, 1) := by decide +kernel
theorem dX12_pays_41 : decode cX12_pays 41 = .ok (.ldc 170, 2) := by decide +kernel
theorem dX12_pays_43 : decode cX12_pays 43 = .ok (.invokevirtual 103, 3) := by decide +kernel
theorem dX12_pays_46 : decode cX12_pays 46 = .ok (.goto 11, 3) := by decide +kernel
theorem dX12_pays_49 : decode cX12_pays 49 = .ok (.bipush 40, 2) := by decide +kernel
theorem dX12_pays_51 : decode cX12_pays 51 = .ok (.iload_n 3, 1) := by decide +kernel
theorem dX12_pays_52 : decode cX12_pays 52 = .ok (.iadd, 1) := by decide +kernel
theorem dX12_pays_53 : decode cX12_pays 53 = .ok (.iconst 1, 1) := by decide +kernel
theorem dX12_pays_54 : decode cX12_pays 54 = .ok (.isub, 1) := by decide +kernel
theorem dX12_pays_55 : decode cX12_pays 55 = .ok (.iload_n 3, 1) := by decide +kernel
theorem dX12_pays_56 : decode cX12_pays 56 = .ok (.idiv, 1) := by decide +kernel
theorem dX12_pays_57 : decode cX12_pays 57 = .ok (.ireturn, 1) := by decide +kernel
def k_X12_pays_0 (F : FT) (Q : QT) : KT := o_aload 0 (o_iload 1 (o_cV 12 m_X12_isHouse 2 (o_ifeq (F 15) (o_iload 2 (o_cS m_X12_isPoint 1 (o_ifne (F 22) (F 15)))))))
def k_X12_pays_15 (F : FT) (Q : QT) : KT := o_aload 0 (o_ic (-1000000001) (o_cV 12 m_X12_finding 2 (o_iret Q)))
def k_X12_pays_22 (F : FT) (Q : QT) : KT := o_aload 0 (o_iload 1 (o_ic (nI 1) (o_cV 12 m_X12_houseIs 3 (o_aload 0 (o_iload 1 (o_iload 2 (o_cV 12 m_X12_countOf 3 (o_imul (o_istore 3 (o_iload 3 (o_ifne (F 49) (o_aload 0 (o_ic (-1000000004) (o_cV 12 m_X12_finding 2 (F 57)))))))))))))))
def k_X12_pays_49 (F : FT) (Q : QT) : KT := o_ic (nI 40) (o_iload 3 (o_iadd (o_ic (nI 1) (o_isub (o_iload 3 (o_idiv (F 57)))))))
def k_X12_pays_57 (F : FT) (Q : QT) : KT := o_iret Q
set_option maxRecDepth 20000 in
theorem r_X12_pays {a0 : Nat} {a1 : Int32} {a2 : Int32} {n : Nat} {R : RR} {I : II} {J : JJ} {Q : QT} (hn : n + 0 ≤ 90) (h : ∀ F : FT, al_Wk F → al_Ok F (k_X12_pays_0 F Q) 0 → al_Ok F (k_X12_pays_15 F Q) 15 → al_Ok F (k_X12_pays_22 F Q) 22 → al_Ok F (k_X12_pays_49 F Q) 49 → al_Ok F (k_X12_pays_57 F Q) 57 → F 0 [some (.ref a0), some (.int a1), some (.int a2), none] [] n R I J) : CT m_X12_pays 0 [.ref a0, .int a1, .int a2] n R I J Q :=
  CT.of (by decide) hn (fun _ => rfl) (fun _ => Nat.le_of_ble_eq_true rfl) (fun F p l e s m args below meth c Rm t Q0 C hQ hr hm => h F (fun _ _ _ _ _ _ _ _ => S_wk C)
    (S_aload_n C dX12_pays_0 rfl (S_iload_n C dX12_pays_1 rfl (S_cV (ci := 12) C ok_X12_isHouse rfl (al_at 1042 (by decide +kernel) rfl) (Nat.le_of_ble_eq_true rfl) (Nat.le_of_ble_eq_true rfl) dX12_pays_2 (S_ifeq (tgt := 15) C dX12_pays_5 (by decide) (S_iload_n C dX12_pays_8 rfl (S_cS C ok_X12_isPoint (al_at 1134 (by decide +kernel) rfl) (Nat.le_of_ble_eq_true rfl) (Nat.le_of_ble_eq_true rfl) dX12_pays_9 (S_ifne (tgt := 22) C dX12_pays_12 (by decide) (fun _ _ _ _ _ _ h9 => h9))))))))
    (S_aload_n C dX12_pays_15 rfl (S_ldc C dX12_pays_16 (al_at 1020 (by decide +kernel) rfl) (S_cV (ci := 12) C ok_X12_finding rfl (al_at 1021 (by decide +kernel) rfl) (Nat.le_of_ble_eq_true rfl) (Nat.le_of_ble_eq_true rfl) dX12_pays_18 (S_iret C hQ hr dX12_pays_21))))
    (S_aload_n C dX12_pays_22 rfl (S_iload_n C dX12_pays_23 rfl (S_iconst C dX12_pays_24 (by decide +kernel) (S_cV (ci := 12) C ok_X12_houseIs rfl (al_at 1046 (by decide +kernel) rfl) (Nat.le_of_ble_eq_true rfl) (Nat.le_of_ble_eq_true rfl) dX12_pays_25 (S_aload_n C dX12_pays_28 rfl (S_iload_n C dX12_pays_29 rfl (S_iload_n C dX12_pays_30 rfl (S_cV (ci := 12) C ok_X12_countOf rfl (al_at 1074 (by decide +kernel) rfl) (Nat.le_of_ble_eq_true rfl) (Nat.le_of_ble_eq_true rfl) dX12_pays_31 (S_imul C dX12_pays_34 (S_istore_n C dX12_pays_35 rfl (Nat.le_of_ble_eq_true rfl) (S_iload_n C dX12_pays_36 rfl (S_ifne (tgt := 49) C dX12_pays_37 (by decide) (S_aload_n C dX12_pays_40 rfl (S_ldc C dX12_pays_41 (al_at 1145 (by decide +kernel) rfl) (S_cV (ci := 12) C ok_X12_finding rfl (al_at 1021 (by decide +kernel) rfl) (Nat.le_of_ble_eq_true rfl) (Nat.le_of_ble_eq_true rfl) dX12_pays_43 (S_goto (tgt := 57) C dX12_pays_46 (by decide)))))))))))))))))
    (S_bipush C dX12_pays_49 (by decide +kernel) (S_iload_n C dX12_pays_51 rfl (S_iadd C dX12_pays_52 (S_iconst C dX12_pays_53 (by decide +kernel) (S_isub C dX12_pays_54 (S_iload_n C dX12_pays_55 rfl (S_idiv C dX12_pays_56 (fun _ _ _ _ _ _ h9 => h9))))))))
    (S_iret C hQ hr dX12_pays_57))
theorem dX12_plot_0 : decode cX12_plot 0 = .ok (.iload_n 1, 1) := by decide +kernel
theorem dX12_plot_1 : decode cX12_plot 1 = .ok (.iconst 1, 1) := by decide +kernel
theorem dX12_plot_2 : decode cX12_plot 2 = .ok (.bipush 12, 2) := by decide +kernel
theorem dX12_plot_4 : decode cX12_plot 4 = .ok (.invokestatic 81, 3) := by decide +kernel
theorem dX12_plot_7 : decode cX12_plot 7 = .ok (.ifCond .eq 12, 3) := by decide +kernel
theorem dX12_plot_10 : decode cX12_plot 10 = .ok (.iload_n 2, 1) := by decide +kernel
theorem dX12_plot_11 : decode cX12_plot 11 = .ok (.iconst 0, 1) := by decide +kernel
theorem dX12_plot_12 : decode cX12_plot 12 = .ok (.iconst 1, 1) := by decide +kernel
theorem dX12_plot_13 : decode cX12_plot 13 = .ok (.invokestatic 81, 3) := by decide +kernel
theorem dX12_plot_16 : decode cX12_plot 16 = .ok (.ifCond .ne 10, 3) := by decide +kernel
theorem dX12_plot_19 : decode cX12_plot 19 = .ok (.aload_n 0, 1) := by decide +kernel
theorem dX12_plot_20 : decode cX12_plot 20 = .ok (.ldc 80, 2) := by decide +kernel
theorem dX12_plot_22 : decode cX12_plot 22 = .ok (.invokevirtual 103, 3) := by decide +kernel
theorem dX12_plot_25 : decode cX12_plot 25 = .ok (.ireturn, 1) := by decide +kernel
theorem dX12_plot_26 : decode cX12_plot 26 = .ok (.iconst (-1), 1) := by decide +kernel
theorem dX12_plot_27 : decode cX12_plot 27 = .ok (.istore_n 3, 1) := by decide +kernel
theorem dX12_plot_28 : decode cX12_plot 28 = .ok (.aload_n 0, 1) := by decide +kernel
theorem dX12_plot_29 : decode cX12_plot 29 = .ok (.iconst 0, 1) := by decide +kernel
theorem dX12_plot_30 : decode cX12_plot 30 = .ok (.putfield 202, 3) := by decide +kernel
theorem dX12_plot_33 : decode cX12_plot 33 = .ok (.iconst 1, 1) := by decide +kernel
theorem dX12_plot_34 : decode cX12_plot 34 = .ok (.istore 4, 2) := by decide +kernel
theorem dX12_plot_36 : decode cX12_plot 36 = .ok (.iload 4, 2) := by decide +kernel
theorem dX12_plot_38 : decode cX12_plot 38 = .ok (.sipush 4096, 3) := by decide +kernel
theorem dX12_plot_41 : decode cX12_plot 41 = .ok (.if_icmp .ge 53, 3) := by decide +kernel
theorem dX12_plot_44 : decode cX12_plot 44 = .ok (.iload 4, 2) := by decide +kernel
theorem dX12_plot_46 : decode cX12_plot 46 = .ok (.i2l, 1) := by decide +kernel
theorem dX12_plot_47 : decode cX12_plot 47 = .ok (.invokestatic 176, 3) := by decide +kernel
theorem dX12_plot_50 : decode cX12_plot 50 = .ok (.iload_n 1, 1) := by decide +kernel
theorem dX12_plot_51 : decode cX12_plot 51 = .ok (.if_icmp .ne 37, 3) := by decide +kernel
theorem dX12_plot_54 : decode cX12_plot 54 = .ok (.iload 4, 2) := by decide +kernel
theorem dX12_plot_56 : decode cX12_plot 56 = .ok (.invokestatic 206, 3) := by decide +kernel
theorem dX12_plot_59 : decode cX12_plot 59 = .ok (.ifCond .eq 29, 3) := by decide +kernel
theorem dX12_plot_62 : decode cX12_plot 62 = .ok (.iload 4, 2) := by decide +kernel
theorem dX12_plot_64 : decode cX12_plot 64 = .ok (.invokestatic 209, 3) := by decide +kernel
theorem dX12_plot_67 : decode cX12_plot 67 = .ok (.istore 5, 2) := by decide +kernel
theorem dX12_plot_69 : decode cX12_plot 69 = .ok (.iload_n 3, 1) := by decide +kernel
theorem dX12_plot_70 : decode cX12_plot 70 = .ok (.ifCond .lt 9, 3) := by decide +kernel
theorem dX12_plot_73 : decode cX12_plot 73 = .ok (.iload 5, 2) := by decide +kernel
theorem dX12_plot_75 : decode cX12_plot 75 = .ok (.iload_n 3, 1) := by decide +kernel
theorem dX12_plot_76 : decode cX12_plot 76 = .ok (.if_icmp .ge 12, 3) := by decide +kernel
theorem dX12_plot_79 : decode cX12_plot 79 = .ok (.iload 5, 2) := by decide +kernel
theorem dX12_plot_81 : decode cX12_plot 81 = .ok (.istore_n 3, 1) := by decide +kernel
theorem dX12_plot_82 : decode cX12_plot 82 = .ok (.aload_n 0, 1) := by decide +kernel
theorem dX12_plot_83 : decode cX12_plot 83 = .ok (.iload 4, 2) := by decide +kernel
theorem dX12_plot_85 : decode cX12_plot 85 = .ok (.putfield 202, 3) := by decide +kernel
theorem dX12_plot_88 : decode cX12_plot 88 = .ok (.iinc 4 1, 3) := by decide +kernel
theorem dX12_plot_91 : decode cX12_plot 91 = .ok (.goto (-55), 3) := by decide +kernel
theorem dX12_plot_94 : decode cX12_plot 94 = .ok (.iload_n 2, 1) := by decide +kernel
theorem dX12_plot_95 : decode cX12_plot 95 = .ok (.ifCond .ne 7, 3) := by decide +kernel
theorem dX12_plot_98 : decode cX12_plot 98 = .ok (.iload_n 3, 1) := by decide +kernel
theorem dX12_plot_99 : decode cX12_plot 99 = .ok (.goto 7, 3) := by decide +kernel
theorem dX12_plot_102 : decode cX12_plot 102 = .ok (.aload_n 0, 1) := by decide +kernel
theorem dX12_plot_103 : decode cX12_plot 103 = .ok (.getfield 202, 3) := by decide +kernel
theorem dX12_plot_106 : decode cX12_plot 106 = .ok (.ireturn, 1) := by decide +kernel
def k_X12_plot_0 (F : FT) (Q : QT) : KT := o_iload 1 (o_ic (nI 1) (o_ic (nI 12) (o_cS m_X12_within 3 (o_ifeq (F 19) (o_iload 2 (o_ic (nI 0) (o_ic (nI 1) (o_cS m_X12_within 3 (o_ifne (F 26) (F 19))))))))))
def k_X12_plot_19 (F : FT) (Q : QT) : KT := o_aload 0 (o_ic (-1000000001) (o_cV 12 m_X12_finding 2 (o_iret Q)))
def k_X12_plot_26 (F : FT) (Q : QT) : KT := o_ic (-1) (o_istore 3 (o_aload 0 (o_ic (nI 0) (o_putI 12 6 (o_ic (nI 1) (o_istore 4 (F 36)))))))
def k_X12_plot_36 (F : FT) (Q : QT) : KT := o_iload 4 (o_ic (nI 4096) (o_icge (F 94) (o_iload 4 (o_i2l (o_cS m_X12_bits 1 (o_iload 1 (o_icne (F 88) (o_iload 4 (o_cS m_X12_hangsTogether 1 (o_ifeq (F 88) (o_iload 4 (o_cS m_X12_plotCorners 1 (o_istore 5 (o_iload 3 (o_iflt (F 79) (o_iload 5 (o_iload 3 (o_icge (F 88) (F 79)))))))))))))))))))
def k_X12_plot_79 (F : FT) (Q : QT) : KT := o_iload 5 (o_istore 3 (o_aload 0 (o_iload 4 (o_putI 12 6 (F 88)))))
def k_X12_plot_88 (F : FT) (Q : QT) : KT := o_iinc 4 (nI 1) (F 36)
def k_X12_plot_94 (F : FT) (Q : QT) : KT := o_iload 2 (o_ifne (F 102) (o_iload 3 (F 106)))
def k_X12_plot_102 (F : FT) (Q : QT) : KT := o_aload 0 (o_getI 12 6 (F 106))
def k_X12_plot_106 (F : FT) (Q : QT) : KT := o_iret Q
set_option maxRecDepth 20000 in
theorem r_X12_plot {a0 : Nat} {a1 : Int32} {a2 : Int32} {n : Nat} {R : RR} {I : II} {J : JJ} {Q : QT} (hn : n + 0 ≤ 90) (h : ∀ F : FT, al_Wk F → al_Ok F (k_X12_plot_0 F Q) 0 → al_Ok F (k_X12_plot_19 F Q) 19 → al_Ok F (k_X12_plot_26 F Q) 26 → al_Ok F (k_X12_plot_36 F Q) 36 → al_Ok F (k_X12_plot_79 F Q) 79 → al_Ok F (k_X12_plot_88 F Q) 88 → al_Ok F (k_X12_plot_94 F Q) 94 → al_Ok F (k_X12_plot_102 F Q) 102 → al_Ok F (k_X12_plot_106 F Q) 106 → F 0 [some (.ref a0), some (.int a1), some (.int a2), none, none, none] [] n R I J) : CT m_X12_plot 0 [.ref a0, .int a1, .int a2] n R I J Q :=
  CT.of (by decide) hn (fun _ => rfl) (fun _ => Nat.le_of_ble_eq_true rfl) (fun F p l e s m args below meth c Rm t Q0 C hQ hr hm => h F (fun _ _ _ _ _ _ _ _ => S_wk C)
    (S_iload_n C dX12_plot_0 rfl (S_iconst C dX12_plot_1 (by decide +kernel) (S_bipush C dX12_plot_2 (by decide +kernel) (S_cS C ok_X12_within (al_at 1005 (by decide +kernel) rfl) (Nat.le_of_ble_eq_true rfl) (Nat.le_of_ble_eq_true rfl) dX12_plot_4 (S_ifeq (tgt := 19) C dX12_plot_7 (by decide) (S_iload_n C dX12_plot_10 rfl (S_iconst C dX12_plot_11 (by decide +kernel) (S_iconst C dX12_plot_12 (by decide +kernel) (S_cS C ok_X12_within (al_at 1005 (by decide +kernel) rfl) (Nat.le_of_ble_eq_true rfl) (Nat.le_of_ble_eq_true rfl) dX12_plot_13 (S_ifne (tgt := 26) C dX12_plot_16 (by decide) (fun _ _ _ _ _ _ h9 => h9)))))))))))
    (S_aload_n C dX12_plot_19 rfl (S_ldc C dX12_plot_20 (al_at 1020 (by decide +kernel) rfl) (S_cV (ci := 12) C ok_X12_finding rfl (al_at 1021 (by decide +kernel) rfl) (Nat.le_of_ble_eq_true rfl) (Nat.le_of_ble_eq_true rfl) dX12_plot_22 (S_iret C hQ hr dX12_plot_25))))
    (S_iconst C dX12_plot_26 (by decide +kernel) (S_istore_n C dX12_plot_27 rfl (Nat.le_of_ble_eq_true rfl) (S_aload_n C dX12_plot_28 rfl (S_iconst C dX12_plot_29 (by decide +kernel) (S_putI (ci := 12) (j := 6) C inG12 rfl (Nat.le_of_ble_eq_true rfl) tyX12 tyX12_ok nmX12 rfl rfl (tyX12_ok 6 (Nat.le_of_ble_eq_true rfl)) (al_at 924 (by decide +kernel) rfl) dX12_plot_30 (S_iconst C dX12_plot_33 (by decide +kernel) (S_istore C dX12_plot_34 (Nat.le_of_ble_eq_true rfl) (fun _ _ _ _ _ _ h9 => h9))))))))
    (S_iload C dX12_plot_36 (S_sipush C dX12_plot_38 (by decide +kernel) (S_icmpge (tgt := 94) C dX12_plot_41 (by decide) (S_iload C dX12_plot_44 (S_i2l C dX12_plot_46 (S_cS C ok_X12_bits (al_at 1107 (by decide +kernel) rfl) (Nat.le_of_ble_eq_true rfl) (Nat.le_of_ble_eq_true rfl) dX12_plot_47 (S_iload_n C dX12_plot_50 rfl (S_icmpne (tgt := 88) C dX12_plot_51 (by decide) (S_iload C dX12_plot_54 (S_cS C ok_X12_hangsTogether (al_at 1183 (by decide +kernel) rfl) (Nat.le_of_ble_eq_true rfl) (Nat.le_of_ble_eq_true rfl) dX12_plot_56 (S_ifeq (tgt := 88) C dX12_plot_59 (by decide) (S_iload C dX12_plot_62 (S_cS C ok_X12_plotCorners (al_at 1186 (by decide +kernel) rfl) (Nat.le_of_ble_eq_true rfl) (Nat.le_of_ble_eq_true rfl) dX12_plot_64 (S_istore C dX12_plot_67 (Nat.le_of_ble_eq_true rfl) (S_iload_n C dX12_plot_69 rfl (S_iflt (tgt := 79) C dX12_plot_70 (by decide) (S_iload C dX12_plot_73 (S_iload_n C dX12_plot_75 rfl (S_icmpge (tgt := 88) C dX12_plot_76 (by decide) (fun _ _ _ _ _ _ h9 => h9))))))))))))))))))))
    (S_iload C dX12_plot_79 (S_istore_n C dX12_plot_81 rfl (Nat.le_of_ble_eq_true rfl) (S_aload_n C dX12_plot_82 rfl (S_iload C dX12_plot_83 (S_putI (ci := 12) (j := 6) C inG12 rfl (Nat.le_of_ble_eq_true rfl) tyX12 tyX12_ok nmX12 rfl rfl (tyX12_ok 6 (Nat.le_of_ble_eq_true rfl)) (al_at 924 (by decide +kernel) rfl) dX12_plot_85 (fun _ _ _ _ _ _ h9 => h9))))))
    (S_iinc C dX12_plot_88 (by decide +kernel) (Nat.le_of_ble_eq_true rfl) (S_goto (tgt := 36) C dX12_plot_91 (by decide)))
    (S_iload_n C dX12_plot_94 rfl (S_ifne (tgt := 102) C dX12_plot_95 (by decide) (S_iload_n C dX12_plot_98 rfl (S_goto (tgt := 106) C dX12_plot_99 (by decide)))))
    (S_aload_n C dX12_plot_102 rfl (S_getI (ci := 12) (j := 6) C inG12 rfl (Nat.le_of_ble_eq_true rfl) rfl (al_at 924 (by decide +kernel) rfl) dX12_plot_103 (fun _ _ _ _ _ _ h9 => h9)))
    (S_iret C hQ hr dX12_plot_106))
theorem dX12_plotCorners_0 : decode cX12_plotCorners 0 = .ok (.iconst 0, 1) := by decide +kernel
theorem dX12_plotCorners_1 : decode cX12_plotCorners 1 = .ok (.istore_n 1, 1) := by decide +kernel
theorem dX12_plotCorners_2 : decode cX12_plotCorners 2 = .ok (.iconst 0, 1) := by decide +kernel
theorem dX12_plotCorners_3 : decode cX12_plotCorners 3 = .ok (.istore_n 2, 1) := by decide +kernel
theorem dX12_plotCorners_4 : decode cX12_plotCorners 4 = .ok (.iload_n 2, 1) := by decide +kernel
theorem dX12_plotCorners_5 : decode cX12_plotCorners 5 = .ok (.bipush 20, 2) := by decide +kernel
theorem dX12_plotCorners_7 : decode cX12_plotCorners 7 = .ok (.if_icmp .ge 109, 3) := by decide +kernel
theorem dX12_plotCorners_10 : decode cX12_plotCorners 10 = .ok (.iload_n 2, 1) := by decide +kernel
theorem dX12_plotCorners_11 : decode cX12_plotCorners 11 = .ok (.iconst 5, 1) := by decide +kernel
theorem dX12_plotCorners_12 : decode cX12_plotCorners 12 = .ok (.idiv, 1) := by decide +kernel
theorem dX12_plotCorners_13 : decode cX12_plotCorners 13 = .ok (.istore_n 3, 1) := by decide +kernel
theorem dX12_plotCorners_14 : decode cX12_plotCorners 14 = .ok (.iload_n 2, 1) := by decide +kernel
theorem dX12_plotCorners_15 : decode cX12_plotCorners 15 = .ok (.iconst 5, 1) := by decide +kernel
theorem dX12_plotCorners_16 : decode cX12_plotCorners 16 = .ok (.irem, 1) := by decide +kernel
theorem dX12_plotCorners_17 : decode cX12_plotCorners 17 = .ok (.istore 4, 2) := by decide +kernel
theorem dX12_plotCorners_19 : decode cX12_plotCorners 19 = .ok (.iload_n 0, 1) := by decide +kernel
theorem dX12_plotCorners_20 : decode cX12_plotCorners 20 = .ok (.iload_n 3, 1) := by decide +kernel
theorem dX12_plotCorners_21 : decode cX12_plotCorners 21 = .ok (.iconst 1, 1) := by decide +kernel
theorem dX12_plotCorners_22 : decode cX12_plotCorners 22 = .ok (.isub, 1) := by decide +kernel
theorem dX12_plotCorners_23 : decode cX12_plotCorners 23 = .ok (.iload 4, 2) := by decide +kernel
theorem dX12_plotCorners_25 : decode cX12_plotCorners 25 = .ok (.iconst 1, 1) := by decide +kernel
theorem dX12_plotCorners_26 : decode cX12_plotCorners 26 = .ok (.isub, 1) := by decide +kernel
theorem dX12_plotCorners_27 : decode cX12_plotCorners 27 = .ok (.invokestatic 199, 3) := by decide +kernel
theorem dX12_plotCorners_30 : decode cX12_plotCorners 30 = .ok (.istore 5, 2) := by decide +kernel
theorem dX12_plotCorners_32 : decode cX12_plotCorners 32 = .ok (.iload_n 0, 1) := by decide +kernel
theorem dX12_plotCorners_33 : decode cX12_plotCorners 33 = .ok (.iload_n 3, 1) := by decide +kernel
theorem dX12_plotCorners_34 : decode cX12_plotCorners 34 = .ok (.iconst 1, 1) := by decide +kernel
theorem dX12_plotCorners_35 : decode cX12_plotCorners 35 = .ok (.isub, 1) := by decide +kernel
theorem dX12_plotCorners_36 : decode cX12_plotCorners 36 = .ok (.iload 4, 2) := by decide +kernel
theorem dX12_plotCorners_38 : decode cX12_plotCorners 38 = .ok (.invokestatic 199, 3) := by decide +kernel
theorem dX12_plotCorners_41 : decode cX12_plotCorners 41 = .ok (.istore 6, 2) := by decide +kernel
theorem dX12_plotCorners_43 : decode cX12_plotCorners 43 = .ok (.iload_n 0, 1) := by decide +kernel
theorem dX12_plotCorners_44 : decode cX12_plotCorners 44 = .ok (.iload_n 3, 1) := by decide +kernel
theorem dX12_plotCorners_45 : decode cX12_plotCorners 45 = .ok (.iload 4, 2) := by decide +kernel
theorem dX12_plotCorners_47 : decode cX12_plotCorners 47 = .ok (.iconst 1, 1) := by decide +kernel
theorem dX12_plotCorners_48 : decode cX12_plotCorners 48 = .ok (.isub, 1) := by decide +kernel
theorem dX12_plotCorners_49 : decode cX12_plotCorners 49 = .ok (.invokestatic 199, 3) := by decide +kernel
theorem dX12_plotCorners_52 : decode cX12_plotCorners 52 = .ok (.istore 7, 2) := by decide +kernel
theorem dX12_plotCorners_54 : decode cX12_plotCorners 54 = .ok (.iload_n 0, 1) := by decide +kernel
theorem dX12_plotCorners_55 : decode cX12_plotCorners 55 = .ok (.iload_n 3, 1) := by decide +kernel
theorem dX12_plotCorners_56 : decode cX12_plotCorners 56 = .ok (.iload 4, 2) := by decide +kernel
theorem dX12_plotCorners_58 : decode cX12_plotCorners 58 = .ok (.invokestatic 199, 3) := by decide +kernel
theorem dX12_plotCorners_61 : decode cX12_plotCorners 61 = .ok (.istore 8, 2) := by decide +kernel
theorem dX12_plotCorners_63 : decode cX12_plotCorners 63 = .ok (.iload 5, 2) := by decide +kernel
theorem dX12_plotCorners_65 : decode cX12_plotCorners 65 = .ok (.iload 6, 2) := by decide +kernel
theorem dX12_plotCorners_67 : decode cX12_plotCorners 67 = .ok (.ixor, 1) := by decide +kernel
theorem dX12_plotCorners_68 : decode cX12_plotCorners 68 = .ok (.iload 7, 2) := by decide +kernel
theorem dX12_plotCorners_70 : decode cX12_plotCorners 70 = .ok (.ixor, 1) := by decide +kernel
theorem dX12_plotCorners_71 : decode cX12_plotCorners 71 = .ok (.iload 8, 2) := by decide +kernel
theorem dX12_plotCorners_73 : decode cX12_plotCorners 73 = .ok (.ixor, 1) := by decide +kernel
theorem dX12_plotCorners_74 : decode cX12_plotCorners 74 = .ok (.istore 9, 2) := by decide +kernel
theorem dX12_plotCorners_76 : decode cX12_plotCorners 76 = .ok (.iload_n 1, 1) := by decide +kernel
theorem dX12_plotCorners_77 : decode cX12_plotCorners 77 = .ok (.iload 9, 2) := by decide +kernel
theorem dX12_plotCorners_79 : decode cX12_plotCorners 79 = .ok (.ifCond .ne 24, 3) := by decide +kernel
theorem dX12_plotCorners_82 : decode cX12_plotCorners 82 = .ok (.iload 5, 2) := by decide +kernel
theorem dX12_plotCorners_84 : decode cX12_plotCorners 84 = .ok (.iload 8, 2) := by decide +kernel
theorem dX12_plotCorners_86 : decode cX12_plotCorners 86 = .ok (.if_icmp .ne 21, 3) := by decide +kernel
theorem dX12_plotCorners_89 : decode cX12_plotCorners 89 = .ok (.iload 6, 2) := by decide +kernel
theorem dX12_plotCorners_91 : decode cX12_plotCorners 91 = .ok (.iload 7, 2) := by decide +kernel
theorem dX12_plotCorners_93 : decode cX12_plotCorners 93 = .ok (.if_icmp .ne 14, 3) := by decide +kernel
theorem dX12_plotCorners_96 : decode cX12_plotCorners 96 = .ok (.iload 5, 2) := by decide +kernel
theorem dX12_plotCorners_98 : decode cX12_plotCorners 98 = .ok (.iload 6, 2) := by decide +kernel
theorem dX12_plotCorners_100 : decode cX12_plotCorners 100 = .ok (.if_icmp .eq 7, 3) := by decide +kernel
theorem dX12_plotCorners_103 : decode cX12_plotCorners 103 = .ok (.iconst 1, 1) := by decide +kernel
theorem dX12_plotCorners_104 : decode cX12_plotCorners 104 = .ok (.goto 4, 3) := by decide +kernel
theorem dX12_plotCorners_107 : decode cX12_plotCorners 107 = .ok (.iconst 0, 1) := by decide +kernel
theorem dX12_plotCorners_108 : decode cX12_plotCorners 108 = .ok (.iadd, 1) := by decide +kernel
theorem dX12_plotCorners_109 : decode cX12_plotCorners 109 = .ok (.istore_n 1, 1) := by decide +kernel
theorem dX12_plotCorners_110 : decode cX12_plotCorners 110 = .ok (.iinc 2 1, 3) := by decide +kernel
theorem dX12_plotCorners_113 : decode cX12_plotCorners 113 = .ok (.goto (-109), 3) := by decide +kernel
theorem dX12_plotCorners_116 : decode cX12_plotCorners 116 = .ok (.iload_n 1, 1) := by decide +kernel
theorem dX12_plotCorners_117 : decode cX12_plotCorners 117 = .ok (.ireturn, 1) := by decide +kernel
def k_X12_plotCorners_0 (F : FT) (Q : QT) : KT := o_ic (nI 0) (o_istore 1 (o_ic (nI 0) (o_istore 2 (F 4))))
def k_X12_plotCorners_4 (F : FT) (Q : QT) : KT := o_iload 2 (o_ic (nI 20) (o_icge (F 116) (o_iload 2 (o_ic (nI 5) (o_idiv (o_istore 3 (o_iload 2 (o_ic (nI 5) (o_irem (o_istore 4 (o_iload 0 (o_iload 3 (o_ic (nI 1) (o_isub (o_iload 4 (o_ic (nI 1) (o_isub (o_cS m_X12_isOnPlot 3 (o_istore 5 (o_iload 0 (o_iload 3 (o_ic (nI 1) (o_isub (o_iload 4 (o_cS m_X12_isOnPlot 3 (o_istore 6 (o_iload 0 (o_iload 3 (o_iload 4 (o_ic (nI 1) (o_isub (o_cS m_X12_isOnPlot 3 (o_istore 7 (o_iload 0 (o_iload 3 (o_iload 4 (o_cS m_X12_isOnPlot 3 (o_istore 8 (o_iload 5 (o_iload 6 (o_ixor (o_iload 7 (o_ixor (o_iload 8 (o_ixor (o_istore 9 (o_iload 1 (o_iload 9 (o_ifne (F 103) (o_iload 5 (o_iload 8 (o_icne (F 107) (o_iload 6 (o_iload 7 (o_icne (F 107) (o_iload 5 (o_iload 6 (o_iceq (F 107) (F 103)))))))))))))))))))))))))))))))))))))))))))))))))))))))))))
def k_X12_plotCorners_103 (F : FT) (Q : QT) : KT := o_ic (nI 1) (F 108)
def k_X12_plotCorners_107 (F : FT) (Q : QT) : KT := o_ic (nI 0) (F 108)
def k_X12_plotCorners_108 (F : FT) (Q : QT) : KT := o_iadd (o_istore 1 (o_iinc 2 (nI 1) (F 4)))
def k_X12_plotCorners_116 (F : FT) (Q : QT) : KT := o_iload 1 (o_iret Q)
set_option maxRecDepth 20000 in
theorem r_X12_plotCorners {a0 : Int32} {n : Nat} {R : RR} {I : II} {J : JJ} {Q : QT} (hn : n + 0 ≤ 90) (h : ∀ F : FT, al_Wk F → al_Ok F (k_X12_plotCorners_0 F Q) 0 → al_Ok F (k_X12_plotCorners_4 F Q) 4 → al_Ok F (k_X12_plotCorners_103 F Q) 103 → al_Ok F (k_X12_plotCorners_107 F Q) 107 → al_Ok F (k_X12_plotCorners_108 F Q) 108 → al_Ok F (k_X12_plotCorners_116 F Q) 116 → F 0 [some (.int a0), none, none, none, none, none, none, none, none, none] [] n R I J) : CT m_X12_plotCorners 0 [.int a0] n R I J Q :=
  CT.of (by decide) hn (fun _ => rfl) (fun _ => Nat.le_of_ble_eq_true rfl) (fun F p l e s m args below meth c Rm t Q0 C hQ hr hm => h F (fun _ _ _ _ _ _ _ _ => S_wk C)
    (S_iconst C dX12_plotCorners_0 (by decide +kernel) (S_istore_n C dX12_plotCorners_1 rfl (Nat.le_of_ble_eq_true rfl) (S_iconst C dX12_plotCorners_2 (by decide +kernel) (S_istore_n C dX12_plotCorners_3 rfl (Nat.le_of_ble_eq_true rfl) (fun _ _ _ _ _ _ h9 => h9)))))
    (S_iload_n C dX12_plotCorners_4 rfl (S_bipush C dX12_plotCorners_5 (by decide +kernel) (S_icmpge (tgt := 116) C dX12_plotCorners_7 (by decide) (S_iload_n C dX12_plotCorners_10 rfl (S_iconst C dX12_plotCorners_11 (by decide +kernel) (S_idiv C dX12_plotCorners_12 (S_istore_n C dX12_plotCorners_13 rfl (Nat.le_of_ble_eq_true rfl) (S_iload_n C dX12_plotCorners_14 rfl (S_iconst C dX12_plotCorners_15 (by decide +kernel) (S_irem C dX12_plotCorners_16 (S_istore C dX12_plotCorners_17 (Nat.le_of_ble_eq_true rfl) (S_iload_n C dX12_plotCorners_19 rfl (S_iload_n C dX12_plotCorners_20 rfl (S_iconst C dX12_plotCorners_21 (by decide +kernel) (S_isub C dX12_plotCorners_22 (S_iload C dX12_plotCorners_23 (S_iconst C dX12_plotCorners_25 (by decide +kernel) (S_isub C dX12_plotCorners_26 (S_cS C ok_X12_isOnPlot (al_at 1189 (by decide +kernel) rfl) (Nat.le_of_ble_eq_true rfl) (Nat.le_of_ble_eq_true rfl) dX12_plotCorners_27 (S_istore C dX12_plotCorners_30 (Nat.le_of_ble_eq_true rfl) (S_iload_n C dX12_plotCorners_32 rfl (S_iload_n C dX12_plotCorners_33 rfl (S_iconst C dX12_plotCorners_34 (by decide +kernel) (S_isub C dX12_plotCorners_35 (S_iload C dX12_plotCorners_36 (S_cS C ok_X12_isOnPlot (al_at 1189 (by decide +kernel) rfl) (Nat.le_of_ble_eq_true rfl) (Nat.le_of_ble_eq_true rfl) dX12_plotCorners_38 (S_istore C dX12_plotCorners_41 (Nat.le_of_ble_eq_true rfl) (S_iload_n C dX12_plotCorners_43 rfl (S_iload_n C dX12_plotCorners_44 rfl (S_iload C dX12_plotCorners_45 (S_iconst C dX12_plotCorners_47 (by decide +kernel) (S_isub C dX12_plotCorners_48 (S_cS C ok_X12_isOnPlot (al_at 1189 (by decide +kernel) rfl) (Nat.le_of_ble_eq_true rfl) (Nat.le_of_ble_eq_true rfl) dX12_plotCorners_49 (S_istore C dX12_plotCorners_52 (Nat.le_of_ble_eq_true rfl) (S_iload_n C dX12_plotCorners_54 rfl (S_iload_n C dX12_plotCorners_55 rfl (S_iload C dX12_plotCorners_56 (S_cS C ok_X12_isOnPlot (al_at 1189 (by decide +kernel) rfl) (Nat.le_of_ble_eq_true rfl) (Nat.le_of_ble_eq_true rfl) dX12_plotCorners_58 (S_istore C dX12_plotCorners_61 (Nat.le_of_ble_eq_true rfl) (S_iload C dX12_plotCorners_63 (S_iload C dX12_plotCorners_65 (S_ixor C dX12_plotCorners_67 (S_iload C dX12_plotCorners_68 (S_ixor C dX12_plotCorners_70 (S_iload C dX12_plotCorners_71 (S_ixor C dX12_plotCorners_73 (S_istore C dX12_plotCorners_74 (Nat.le_of_ble_eq_true rfl) (S_iload_n C dX12_plotCorners_76 rfl (S_iload C dX12_plotCorners_77 (S_ifne (tgt := 103) C dX12_plotCorners_79 (by decide) (S_iload C dX12_plotCorners_82 (S_iload C dX12_plotCorners_84 (S_icmpne (tgt := 107) C dX12_plotCorners_86 (by decide) (S_iload C dX12_plotCorners_89 (S_iload C dX12_plotCorners_91 (S_icmpne (tgt := 107) C dX12_plotCorners_93 (by decide) (S_iload C dX12_plotCorners_96 (S_iload C dX12_plotCorners_98 (S_icmpeq (tgt := 107) C dX12_plotCorners_100 (by decide) (fun _ _ _ _ _ _ h9 => h9))))))))))))))))))))))))))))))))))))))))))))))))))))))))))))
    (S_iconst C dX12_plotCorners_103 (by decide +kernel) (S_goto (tgt := 108) C dX12_plotCorners_104 (by decide)))
    (S_iconst C dX12_plotCorners_107 (by decide +kernel) (fun _ _ _ _ _ _ h9 => h9))
    (S_iadd C dX12_plotCorners_108 (S_istore_n C dX12_plotCorners_109 rfl (Nat.le_of_ble_eq_true rfl) (S_iinc C dX12_plotCorners_110 (by decide +kernel) (Nat.le_of_ble_eq_true rfl) (S_goto (tgt := 4) C dX12_plotCorners_113 (by decide)))))
    (S_iload_n C dX12_plotCorners_116 rfl (S_iret C hQ hr dX12_plotCorners_117)))
theorem dX12_rateFor_0 : decode cX12_rateFor 0 = .ok (.iload_n 1, 1) := by decide +kernel
theorem dX12_rateFor_1 : decode cX12_rateFor 1 = .ok (.ifCond .ge 10, 3) := by decide +kernel
theorem dX12_rateFor_4 : decode cX12_rateFor 4 = .ok (.aload_n 0, 1) := by decide +kernel
theorem dX12_rateFor_5 : decode cX12_rateFor 5 = .ok (.ldc 80, 2) := by decide +kernel
theorem dX12_rateFor_7 : decode cX12_rateFor 7 = .ok (.invokevirtual 103, 3) := by decide +kernel
theorem dX12_rateFor_10 : decode cX12_rateFor 10 = .ok (.ireturn, 1) := by decide +kernel
theorem dX12_rateFor_11 : decode cX12_rateFor 11 = .ok (.iconst 0, 1) := by decide +kernel
theorem dX12_rateFor_12 : decode cX12_rateFor 12 = .ok (.istore_n 2, 1) := by decide +kernel
theorem dX12_rateFor_13 : decode cX12_rateFor 13 = .ok (.iconst 0, 1) := by decide +kernel
theorem dX12_rateFor_14 : decode cX12_rateFor 14 = .ok (.istore_n 3, 1) := by decide +kernel
theorem dX12_rateFor_15 : decode cX12_rateFor 15 = .ok (.iload_n 3, 1) := by decide +kernel
theorem dX12_rateFor_16 : decode cX12_rateFor 16 = .ok (.aload_n 0, 1) := by decide +kernel
theorem dX12_rateFor_17 : decode cX12_rateFor 17 = .ok (.getfield 9, 3) := by decide +kernel
theorem dX12_rateFor_20 : decode cX12_rateFor 20 = .ok (.sipush 142, 3) := by decide +kernel
theorem dX12_rateFor_23 : decode cX12_rateFor 23 = .ok (.iaload, 1) := by decide +kernel
theorem dX12_rateFor_24 : decode cX12_rateFor 24 = .ok (.if_icmp .ge 17, 3) := by decide +kernel
theorem dX12_rateFor_27 : decode cX12_rateFor 27 = .ok (.iload_n 2, 1) := by decide +kernel
theorem dX12_rateFor_28 : decode cX12_rateFor 28 = .ok (.aload_n 0, 1) := by decide +kernel
theorem dX12_rateFor_29 : decode cX12_rateFor 29 = .ok (.iload_n 3, 1) := by decide +kernel
theorem dX12_rateFor_30 : decode cX12_rateFor 30 = .ok (.invokevirtual 189, 3) := by decide +kernel
theorem dX12_rateFor_33 : decode cX12_rateFor 33 = .ok (.iadd, 1) := by decide +kernel
theorem dX12_rateFor_34 : decode cX12_rateFor 34 = .ok (.istore_n 2, 1) := by decide +kernel
theorem dX12_rateFor_35 : decode cX12_rateFor 35 = .ok (.iinc 3 1, 3) := by decide +kernel
theorem dX12_rateFor_38 : decode cX12_rateFor 38 = .ok (.goto (-23), 3) := by decide +kernel
theorem dX12_rateFor_41 : decode cX12_rateFor 41 = .ok (.iconst 1, 1) := by decide +kernel
theorem dX12_rateFor_42 : decode cX12_rateFor 42 = .ok (.istore_n 3, 1) := by decide +kernel
theorem dX12_rateFor_43 : decode cX12_rateFor 43 = .ok (.iload_n 3, 1) := by decide +kernel
theorem dX12_rateFor_44 : decode cX12_rateFor 44 = .ok (.bipush 100, 2) := by decide +kernel
theorem dX12_rateFor_46 : decode cX12_rateFor 46 = .ok (.if_icmp .ge 18, 3) := by decide +kernel
theorem dX12_rateFor_49 : decode cX12_rateFor 49 = .ok (.iload_n 3, 1) := by decide +kernel
theorem dX12_rateFor_50 : decode cX12_rateFor 50 = .ok (.iload_n 2, 1) := by decide +kernel
theorem dX12_rateFor_51 : decode cX12_rateFor 51 = .ok (.imul, 1) := by decide +kernel
theorem dX12_rateFor_52 : decode cX12_rateFor 52 = .ok (.iload_n 1, 1) := by decide +kernel
theorem dX12_rateFor_53 : decode cX12_rateFor 53 = .ok (.if_icmp .lt 5, 3) := by decide +kernel
theorem dX12_rateFor_56 : decode cX12_rateFor 56 = .ok (.iload_n 3, 1) := by decide +kernel
theorem dX12_rateFor_57 : decode cX12_rateFor 57 = .ok (.ireturn, 1) := by decide +kernel
theorem dX12_rateFor_58 : decode cX12_rateFor 58 = .ok (.iinc 3 1, 3) := by decide +kernel
theorem dX12_rateFor_61 : decode cX12_rateFor 61 = .ok (.goto (-18), 3) := by decide +kernel
theorem dX12_rateFor_64 : decode cX12_rateFor 64 = .ok (.aload_n 0, 1) := by decide +kernel
theorem dX12_rateFor_65 : decode cX12_rateFor 65 = .ok (.ldc 170, 2) := by decide +kernel
theorem dX12_rateFor_67 : decode cX12_rateFor 67 = .ok (.invokevirtual 103, 3) := by decide +kernel
theorem dX12_rateFor_70 : decode cX12_rateFor 70 = .ok (.ireturn, 1) := by decide +kernel
def k_X12_rateFor_0 (F : FT) (Q : QT) : KT := o_iload 1 (o_ifge (F 11) (o_aload 0 (o_ic (-1000000001) (o_cV 12 m_X12_finding 2 (o_iret Q)))))
def k_X12_rateFor_11 (F : FT) (Q : QT) : KT := o_ic (nI 0) (o_istore 2 (o_ic (nI 0) (o_istore 3 (F 15))))
def k_X12_rateFor_15 (F : FT) (Q : QT) : KT := o_iload 3 (o_aload 0 (o_getR 12 0 (o_ic (nI 142) (o_iald (o_icge (F 41) (o_iload 2 (o_aload 0 (o_iload 3 (o_cV 12 m_X12_allCounts 2 (o_iadd (o_istore 2 (o_iinc 3 (nI 1) (F 15)))))))))))))
def k_X12_rateFor_41 (F : FT) (Q : QT) : KT := o_ic (nI 1) (o_istore 3 (F 43))
def k_X12_rateFor_43 (F : FT) (Q : QT) : KT := o_iload 3 (o_ic (nI 100) (o_icge (F 64) (o_iload 3 (o_iload 2 (o_imul (o_iload 1 (o_iclt (F 58) (o_iload 3 (o_iret Q)))))))))
def k_X12_rateFor_58 (F : FT) (Q : QT) : KT := o_iinc 3 (nI 1) (F 43)
def k_X12_rateFor_64 (F : FT) (Q : QT) : KT := o_aload 0 (o_ic (-1000000004) (o_cV 12 m_X12_finding 2 (o_iret Q)))
set_option maxRecDepth 20000 in
theorem r_X12_rateFor {a0 : Nat} {a1 : Int32} {n : Nat} {R : RR} {I : II} {J : JJ} {Q : QT} (hn : n + 0 ≤ 90) (h : ∀ F : FT, al_Wk F → al_Ok F (k_X12_rateFor_0 F Q) 0 → al_Ok F (k_X12_rateFor_11 F Q) 11 → al_Ok F (k_X12_rateFor_15 F Q) 15 → al_Ok F (k_X12_rateFor_41 F Q) 41 → al_Ok F (k_X12_rateFor_43 F Q) 43 → al_Ok F (k_X12_rateFor_58 F Q) 58 → al_Ok F (k_X12_rateFor_64 F Q) 64 → F 0 [some (.ref a0), some (.int a1), none, none] [] n R I J) : CT m_X12_rateFor 0 [.ref a0, .int a1] n R I J Q :=
  CT.of (by decide) hn (fun _ => rfl) (fun _ => Nat.le_of_ble_eq_true rfl) (fun F p l e s m args below meth c Rm t Q0 C hQ hr hm => h F (fun _ _ _ _ _ _ _ _ => S_wk C)
    (S_iload_n C dX12_rateFor_0 rfl (S_ifge (tgt := 11) C dX12_rateFor_1 (by decide) (S_aload_n C dX12_rateFor_4 rfl (S_ldc C dX12_rateFor_5 (al_at 1020 (by decide +kernel) rfl) (S_cV (ci := 12) C ok_X12_finding rfl (al_at 1021 (by decide +kernel) rfl) (Nat.le_of_ble_eq_true rfl) (Nat.le_of_ble_eq_true rfl) dX12_rateFor_7 (S_iret C hQ hr dX12_rateFor_10))))))
    (S_iconst C dX12_rateFor_11 (by decide +kernel) (S_istore_n C dX12_rateFor_12 rfl (Nat.le_of_ble_eq_true rfl) (S_iconst C dX12_rateFor_13 (by decide +kernel) (S_istore_n C dX12_rateFor_14 rfl (Nat.le_of_ble_eq_true rfl) (fun _ _ _ _ _ _ h9 => h9)))))
    (S_iload_n C dX12_rateFor_15 rfl (S_aload_n C dX12_rateFor_16 rfl (S_getR (ci := 12) (j := 0) C inG12 rfl (Nat.le_of_ble_eq_true rfl) rfl (al_at 918 (by decide +kernel) rfl) dX12_rateFor_17 (S_sipush C dX12_rateFor_20 (by decide +kernel) (S_iald C dX12_rateFor_23 (S_icmpge (tgt := 41) C dX12_rateFor_24 (by decide) (S_iload_n C dX12_rateFor_27 rfl (S_aload_n C dX12_rateFor_28 rfl (S_iload_n C dX12_rateFor_29 rfl (S_cV (ci := 12) C ok_X12_allCounts rfl (al_at 1070 (by decide +kernel) rfl) (Nat.le_of_ble_eq_true rfl) (Nat.le_of_ble_eq_true rfl) dX12_rateFor_30 (S_iadd C dX12_rateFor_33 (S_istore_n C dX12_rateFor_34 rfl (Nat.le_of_ble_eq_true rfl) (S_iinc C dX12_rateFor_35 (by decide +kernel) (Nat.le_of_ble_eq_true rfl) (S_goto (tgt := 15) C dX12_rateFor_38 (by decide)))))))))))))))
    (S_iconst C dX12_rateFor_41 (by decide +kernel) (S_istore_n C dX12_rateFor_42 rfl (Nat.le_of_ble_eq_true rfl) (fun _ _ _ _ _ _ h9 => h9)))
    (S_iload_n C dX12_rateFor_43 rfl (S_bipush C dX12_rateFor_44 (by decide +kernel) (S_icmpge (tgt := 64) C dX12_rateFor_46 (by decide) (S_iload_n C dX12_rateFor_49 rfl (S_iload_n C dX12_rateFor_50 rfl (S_imul C dX12_rateFor_51 (S_iload_n C dX12_rateFor_52 rfl (S_icmplt (tgt := 58) C dX12_rateFor_53 (by decide) (S_iload_n C dX12_rateFor_56 rfl (S_iret C hQ hr dX12_rateFor_57))))))))))
    (S_iinc C dX12_rateFor_58 (by decide +kernel) (Nat.le_of_ble_eq_true rfl) (S_goto (tgt := 43) C dX12_rateFor_61 (by decide)))
    (S_aload_n C dX12_rateFor_64 rfl (S_ldc C dX12_rateFor_65 (al_at 1145 (by decide +kernel) rfl) (S_cV (ci := 12) C ok_X12_finding rfl (al_at 1021 (by decide +kernel) rfl) (Nat.le_of_ble_eq_true rfl) (Nat.le_of_ble_eq_true rfl) dX12_rateFor_67 (S_iret C hQ hr dX12_rateFor_70)))))
theorem dX12_read_0 : decode cX12_read 0 = .ok (.iload_n 1, 1) := by decide +kernel
theorem dX12_read_1 : decode cX12_read 1 = .ok (.invokestatic 298, 3) := by decide +kernel
theorem dX12_read_4 : decode cX12_read 4 = .ok (.ifCond .ne 10, 3) := by decide +kernel
theorem dX12_read_7 : decode cX12_read 7 = .ok (.aload_n 0, 1) := by decide +kernel
theorem dX12_read_8 : decode cX12_read 8 = .ok (.ldc 80, 2) := by decide +kernel
theorem dX12_read_10 : decode cX12_read 10 = .ok (.invokevirtual 103, 3) := by decide +kernel
theorem dX12_read_13 : decode cX12_read 13 = .ok (.ireturn, 1) := by decide +kernel
theorem dX12_read_14 : decode cX12_read 14 = .ok (.aload_n 0, 1) := by decide +kernel
theorem dX12_read_15 : decode cX12_read 15 = .ok (.getfield 68, 3) := by decide +kernel
theorem dX12_read_18 : decode cX12_read 18 = .ok (.iload_n 1, 1) := by decide +kernel
theorem dX12_read_19 : decode cX12_read 19 = .ok (.iaload, 1) := by decide +kernel
theorem dX12_read_20 : decode cX12_read 20 = .ok (.ifCond .ne 11, 3) := by decide +kernel
theorem dX12_read_23 : decode cX12_read 23 = .ok (.aload_n 0, 1) := by decide +kernel
theorem dX12_read_24 : decode cX12_read 24 = .ok (.ldc_w 302, 3) := by decide +kernel
theorem dX12_read_27 : decode cX12_read 27 = .ok (.invokevirtual 103, 3) := by decide +kernel
theorem dX12_read_30 : decode cX12_read 30 = .ok (.ireturn, 1) := by decide +kernel
theorem dX12_read_31 : decode cX12_read 31 = .ok (.aload_n 0, 1) := by decide +kernel
theorem dX12_read_32 : decode cX12_read 32 = .ok (.iload_n 2, 1) := by decide +kernel
theorem dX12_read_33 : decode cX12_read 33 = .ok (.invokevirtual 142, 3) := by decide +kernel
theorem dX12_read_36 : decode cX12_read 36 = .ok (.ifCond .ne 10, 3) := by decide +kernel
theorem dX12_read_39 : decode cX12_read 39 = .ok (.aload_n 0, 1) := by decide +kernel
theorem dX12_read_40 : decode cX12_read 40 = .ok (.ldc 80, 2) := by decide +kernel
theorem dX12_read_42 : decode cX12_read 42 = .ok (.invokevirtual 103, 3) := by decide +kernel
theorem dX12_read_45 : decode cX12_read 45 = .ok (.ireturn, 1) := by decide +kernel
theorem dX12_read_46 : decode cX12_read 46 = .ok (.iconst 0, 1) := by decide +kernel
theorem dX12_read_47 : decode cX12_read 47 = .ok (.istore_n 3, 1) := by decide +kernel
theorem dX12_read_48 : decode cX12_read 48 = .ok (.iload_n 3, 1) := by decide +kernel
theorem dX12_read_49 : decode cX12_read 49 = .ok (.aload_n 0, 1) := by decide +kernel
theorem dX12_read_50 : decode cX12_read 50 = .ok (.getfield 71, 3) := by decide +kernel
theorem dX12_read_53 : decode cX12_read 53 = .ok (.iload_n 1, 1) := by decide +kernel
theorem dX12_read_54 : decode cX12_read 54 = .ok (.iaload, 1) := by decide +kernel
theorem dX12_read_55 : decode cX12_read 55 = .ok (.if_icmp .ge 44, 3) := by decide +kernel
theorem dX12_read_58 : decode cX12_read 58 = .ok (.aload_n 0, 1) := by decide +kernel
theorem dX12_read_59 : decode cX12_read 59 = .ok (.iload_n 2, 1) := by decide +kernel
theorem dX12_read_60 : decode cX12_read 60 = .ok (.iload_n 3, 1) := by decide +kernel
theorem dX12_read_61 : decode cX12_read 61 = .ok (.invokevirtual 167, 3) := by decide +kernel
theorem dX12_read_64 : decode cX12_read 64 = .ok (.istore 4, 2) := by decide +kernel
theorem dX12_read_66 : decode cX12_read 66 = .ok (.iload 4, 2) := by decide +kernel
theorem dX12_read_68 : decode cX12_read 68 = .ok (.ifCond .lt 21, 3) := by decide +kernel
theorem dX12_read_71 : decode cX12_read 71 = .ok (.aload_n 0, 1) := by decide +kernel
theorem dX12_read_72 : decode cX12_read 72 = .ok (.getfield 74, 3) := by decide +kernel
theorem dX12_read_75 : decode cX12_read 75 = .ok (.bipush 40, 2) := by decide +kernel
theorem dX12_read_77 : decode cX12_read 77 = .ok (.iload_n 1, 1) := by decide +kernel
theorem dX12_read_78 : decode cX12_read 78 = .ok (.imul, 1) := by decide +kernel
theorem dX12_read_79 : decode cX12_read 79 = .ok (.iload_n 3, 1) := by decide +kernel
theorem dX12_read_80 : decode cX12_read 80 = .ok (.iadd, 1) := by decide +kernel
theorem dX12_read_81 : decode cX12_read 81 = .ok (.laload, 1) := by decide +kernel
theorem dX12_read_82 : decode cX12_read 82 = .ok (.iload 4, 2) := by decide +kernel
theorem dX12_read_84 : decode cX12_read 84 = .ok (.i2l, 1) := by decide +kernel
theorem dX12_read_85 : decode cX12_read 85 = .ok (.lcmp, 1) := by decide +kernel
theorem dX12_read_86 : decode cX12_read 86 = .ok (.ifCond .eq 7, 3) := by decide +kernel
theorem dX12_read_89 : decode cX12_read 89 = .ok (.iconst 1, 1) := by decide +kernel
theorem dX12_read_90 : decode cX12_read 90 = .ok (.iload_n 3, 1) := by decide +kernel
theorem dX12_read_91 : decode cX12_read 91 = .ok (.iadd, 1) := by decide +kernel
theorem dX12_read_92 : decode cX12_read 92 = .ok (.ireturn, 1) := by decide +kernel
theorem dX12_read_93 : decode cX12_read 93 = .ok (.iinc 3 1, 3) := by decide +kernel
theorem dX12_read_96 : decode cX12_read 96 = .ok (.goto (-48), 3) := by decide +kernel
theorem dX12_read_99 : decode cX12_read 99 = .ok (.aload_n 0, 1) := by decide +kernel
theorem dX12_read_100 : decode cX12_read 100 = .ok (.iload_n 2, 1) := by decide +kernel
theorem dX12_read_101 : decode cX12_read 101 = .ok (.aload_n 0, 1) := by decide +kernel
theorem dX12_read_102 : decode cX12_read 102 = .ok (.getfield 71, 3) := by decide +kernel
theorem dX12_read_105 : decode cX12_read 105 = .ok (.iload_n 1, 1) := by decide +kernel
theorem dX12_read_106 : decode cX12_read 106 = .ok (.iaload, 1) := by decide +kernel
theorem dX12_read_107 : decode cX12_read 107 = .ok (.invokevirtual 167, 3) := by decide +kernel
theorem dX12_read_110 : decode cX12_read 110 = .ok (.ifCond .ge 7, 3) := by decide +kernel
theorem dX12_read_113 : decode cX12_read 113 = .ok (.iconst 0, 1) := by decide +kernel
theorem dX12_read_114 : decode cX12_read 114 = .ok (.goto 11, 3) := by decide +kernel
theorem dX12_read_117 : decode cX12_read 117 = .ok (.iconst 1, 1) := by decide +kernel
theorem dX12_read_118 : decode cX12_read 118 = .ok (.aload_n 0, 1) := by decide +kernel
theorem dX12_read_119 : decode cX12_read 119 = .ok (.getfield 71, 3) := by decide +kernel
theorem dX12_read_122 : decode cX12_read 122 = .ok (.iload_n 1, 1) := by decide +kernel
theorem dX12_read_123 : decode cX12_read 123 = .ok (.iaload, 1) := by decide +kernel
theorem dX12_read_124 : decode cX12_read 124 = .ok (.iadd, 1) := by decide +kernel
theorem dX12_read_125 : decode cX12_read 125 = .ok (.ireturn, 1) := by decide +kernel
def k_X12_read_0 (F : FT) (Q : QT) : KT := o_iload 1 (o_cS m_X12_isSheet 1 (o_ifne (F 14) (o_aload 0 (o_ic (-1000000001) (o_cV 12 m_X12_finding 2 (o_iret Q))))))
def k_X12_read_14 (F : FT) (Q : QT) : KT := o_aload 0 (o_getR 12 22 (o_iload 1 (o_iald (o_ifne (F 31) (o_aload 0 (o_ic (-1000000006) (o_cV 12 m_X12_finding 2 (o_iret Q))))))))
def k_X12_read_31 (F : FT) (Q : QT) : KT := o_aload 0 (o_iload 2 (o_cV 12 m_X12_isHouse 2 (o_ifne (F 46) (o_aload 0 (o_ic (-1000000001) (o_cV 12 m_X12_finding 2 (o_iret Q)))))))
def k_X12_read_46 (F : FT) (Q : QT) : KT := o_ic (nI 0) (o_istore 3 (F 48))
def k_X12_read_48 (F : FT) (Q : QT) : KT := o_iload 3 (o_aload 0 (o_getR 12 23 (o_iload 1 (o_iald (o_icge (F 99) (o_aload 0 (o_iload 2 (o_iload 3 (o_cV 12 m_X12_ithOf 3 (o_istore 4 (o_iload 4 (o_iflt (F 89) (o_aload 0 (o_getR 12 24 (o_ic (nI 40) (o_iload 1 (o_imul (o_iload 3 (o_iadd (o_lald (o_iload 4 (o_i2l (o_lcmp (o_ifeq (F 93) (F 89)))))))))))))))))))))))))
def k_X12_read_89 (F : FT) (Q : QT) : KT := o_ic (nI 1) (o_iload 3 (o_iadd (o_iret Q)))
def k_X12_read_93 (F : FT) (Q : QT) : KT := o_iinc 3 (nI 1) (F 48)
def k_X12_read_99 (F : FT) (Q : QT) : KT := o_aload 0 (o_iload 2 (o_aload 0 (o_getR 12 23 (o_iload 1 (o_iald (o_cV 12 m_X12_ithOf 3 (o_ifge (F 117) (o_ic (nI 0) (F 125)))))))))
def k_X12_read_117 (F : FT) (Q : QT) : KT := o_ic (nI 1) (o_aload 0 (o_getR 12 23 (o_iload 1 (o_iald (o_iadd (F 125))))))
def k_X12_read_125 (F : FT) (Q : QT) : KT := o_iret Q
set_option maxRecDepth 20000 in
theorem r_X12_read {a0 : Nat} {a1 : Int32} {a2 : Int32} {n : Nat} {R : RR} {I : II} {J : JJ} {Q : QT} (hn : n + 0 ≤ 90) (h : ∀ F : FT, al_Wk F → al_Ok F (k_X12_read_0 F Q) 0 → al_Ok F (k_X12_read_14 F Q) 14 → al_Ok F (k_X12_read_31 F Q) 31 → al_Ok F (k_X12_read_46 F Q) 46 → al_Ok F (k_X12_read_48 F Q) 48 → al_Ok F (k_X12_read_89 F Q) 89 → al_Ok F (k_X12_read_93 F Q) 93 → al_Ok F (k_X12_read_99 F Q) 99 → al_Ok F (k_X12_read_117 F Q) 117 → al_Ok F (k_X12_read_125 F Q) 125 → F 0 [some (.ref a0), some (.int a1), some (.int a2), none, none] [] n R I J) : CT m_X12_read 0 [.ref a0, .int a1, .int a2] n R I J Q :=
  CT.of (by decide) hn (fun _ => rfl) (fun _ => Nat.le_of_ble_eq_true rfl) (fun F p l e s m args below meth c Rm t Q0 C hQ hr hm => h F (fun _ _ _ _ _ _ _ _ => S_wk C)
    (S_iload_n C dX12_read_0 rfl (S_cS C ok_X12_isSheet (al_at 1292 (by decide +kernel) rfl) (Nat.le_of_ble_eq_true rfl) (Nat.le_of_ble_eq_true rfl) dX12_read_1 (S_ifne (tgt := 14) C dX12_read_4 (by decide) (S_aload_n C dX12_read_7 rfl (S_ldc C dX12_read_8 (al_at 1020 (by decide +kernel) rfl) (S_cV (ci := 12) C ok_X12_finding rfl (al_at 1021 (by decide +kernel) rfl) (Nat.le_of_ble_eq_true rfl) (Nat.le_of_ble_eq_true rfl) dX12_read_10 (S_iret C hQ hr dX12_read_13)))))))
    (S_aload_n C dX12_read_14 rfl (S_getR (ci := 12) (j := 22) C inG12 rfl (Nat.le_of_ble_eq_true rfl) rfl (al_at 940 (by decide +kernel) rfl) dX12_read_15 (S_iload_n C dX12_read_18 rfl (S_iald C dX12_read_19 (S_ifne (tgt := 31) C dX12_read_20 (by decide) (S_aload_n C dX12_read_23 rfl (S_ldcw C dX12_read_24 (al_at 1300 (by decide +kernel) rfl) (S_cV (ci := 12) C ok_X12_finding rfl (al_at 1021 (by decide +kernel) rfl) (Nat.le_of_ble_eq_true rfl) (Nat.le_of_ble_eq_true rfl) dX12_read_27 (S_iret C hQ hr dX12_read_30)))))))))
    (S_aload_n C dX12_read_31 rfl (S_iload_n C dX12_read_32 rfl (S_cV (ci := 12) C ok_X12_isHouse rfl (al_at 1042 (by decide +kernel) rfl) (Nat.le_of_ble_eq_true rfl) (Nat.le_of_ble_eq_true rfl) dX12_read_33 (S_ifne (tgt := 46) C dX12_read_36 (by decide) (S_aload_n C dX12_read_39 rfl (S_ldc C dX12_read_40 (al_at 1020 (by decide +kernel) rfl) (S_cV (ci := 12) C ok_X12_finding rfl (al_at 1021 (by decide +kernel) rfl) (Nat.le_of_ble_eq_true rfl) (Nat.le_of_ble_eq_true rfl) dX12_read_42 (S_iret C hQ hr dX12_read_45))))))))
    (S_iconst C dX12_read_46 (by decide +kernel) (S_istore_n C dX12_read_47 rfl (Nat.le_of_ble_eq_true rfl) (fun _ _ _ _ _ _ h9 => h9)))
    (S_iload_n C dX12_read_48 rfl (S_aload_n C dX12_read_49 rfl (S_getR (ci := 12) (j := 23) C inG12 rfl (Nat.le_of_ble_eq_true rfl) rfl (al_at 941 (by decide +kernel) rfl) dX12_read_50 (S_iload_n C dX12_read_53 rfl (S_iald C dX12_read_54 (S_icmpge (tgt := 99) C dX12_read_55 (by decide) (S_aload_n C dX12_read_58 rfl (S_iload_n C dX12_read_59 rfl (S_iload_n C dX12_read_60 rfl (S_cV (ci := 12) C ok_X12_ithOf rfl (al_at 1141 (by decide +kernel) rfl) (Nat.le_of_ble_eq_true rfl) (Nat.le_of_ble_eq_true rfl) dX12_read_61 (S_istore C dX12_read_64 (Nat.le_of_ble_eq_true rfl) (S_iload C dX12_read_66 (S_iflt (tgt := 89) C dX12_read_68 (by decide) (S_aload_n C dX12_read_71 rfl (S_getR (ci := 12) (j := 24) C inG12 rfl (Nat.le_of_ble_eq_true rfl) rfl (al_at 942 (by decide +kernel) rfl) dX12_read_72 (S_bipush C dX12_read_75 (by decide +kernel) (S_iload_n C dX12_read_77 rfl (S_imul C dX12_read_78 (S_iload_n C dX12_read_79 rfl (S_iadd C dX12_read_80 (S_lald C dX12_read_81 (S_iload C dX12_read_82 (S_i2l C dX12_read_84 (S_lcmp C dX12_read_85 (S_ifeq (tgt := 93) C dX12_read_86 (by decide) (fun _ _ _ _ _ _ h9 => h9))))))))))))))))))))))))))
    (S_iconst C dX12_read_89 (by decide +kernel) (S_iload_n C dX12_read_90 rfl (S_iadd C dX12_read_91 (S_iret C hQ hr dX12_read_92))))
    (S_iinc C dX12_read_93 (by decide +kernel) (Nat.le_of_ble_eq_true rfl) (S_goto (tgt := 48) C dX12_read_96 (by decide)))
    (S_aload_n C dX12_read_99 rfl (S_iload_n C dX12_read_100 rfl (S_aload_n C dX12_read_101 rfl (S_getR (ci := 12) (j := 23) C inG12 rfl (Nat.le_of_ble_eq_true rfl) rfl (al_at 941 (by decide +kernel) rfl) dX12_read_102 (S_iload_n C dX12_read_105 rfl (S_iald C dX12_read_106 (S_cV (ci := 12) C ok_X12_ithOf rfl (al_at 1141 (by decide +kernel) rfl) (Nat.le_of_ble_eq_true rfl) (Nat.le_of_ble_eq_true rfl) dX12_read_107 (S_ifge (tgt := 117) C dX12_read_110 (by decide) (S_iconst C dX12_read_113 (by decide +kernel) (S_goto (tgt := 125) C dX12_read_114 (by decide)))))))))))
    (S_iconst C dX12_read_117 (by decide +kernel) (S_aload_n C dX12_read_118 rfl (S_getR (ci := 12) (j := 23) C inG12 rfl (Nat.le_of_ble_eq_true rfl) rfl (al_at 941 (by decide +kernel) rfl) dX12_read_119 (S_iload_n C dX12_read_122 rfl (S_iald C dX12_read_123 (S_iadd C dX12_read_124 (fun _ _ _ _ _ _ h9 => h9)))))))
    (S_iret C hQ hr dX12_read_125))
theorem dX12_round_0 : decode cX12_round 0 = .ok (.aload_n 0, 1) := by decide +kernel
theorem dX12_round_1 : decode cX12_round 1 = .ok (.iload_n 1, 1) := by decide +kernel
theorem dX12_round_2 : decode cX12_round 2 = .ok (.invokevirtual 142, 3) := by decide +kernel
theorem dX12_round_5 : decode cX12_round 5 = .ok (.ifCond .eq 10, 3) := by decide +kernel
theorem dX12_round_8 : decode cX12_round 8 = .ok (.iload_n 2, 1) := by decide +kernel
theorem dX12_round_9 : decode cX12_round 9 = .ok (.invokestatic 164, 3) := by decide +kernel
theorem dX12_round_12 : decode cX12_round 12 = .ok (.ifCond .ne 10, 3) := by decide +kernel
theorem dX12_round_15 : decode cX12_round 15 = .ok (.aload_n 0, 1) := by decide +kernel
theorem dX12_round_16 : decode cX12_round 16 = .ok (.ldc 80, 2) := by decide +kernel
theorem dX12_round_18 : decode cX12_round 18 = .ok (.invokevirtual 103, 3) := by decide +kernel
theorem dX12_round_21 : decode cX12_round 21 = .ok (.ireturn, 1) := by decide +kernel
theorem dX12_round_22 : decode cX12_round 22 = .ok (.aload_n 0, 1) := by decide +kernel
theorem dX12_round_23 : decode cX12_round 23 = .ok (.iload_n 1, 1) := by decide +kernel
theorem dX12_round_24 : decode cX12_round 24 = .ok (.iload_n 2, 1) := by decide +kernel
theorem dX12_round_25 : decode cX12_round 25 = .ok (.invokevirtual 161, 3) := by decide +kernel
theorem dX12_round_28 : decode cX12_round 28 = .ok (.ifCond .ne 10, 3) := by decide +kernel
theorem dX12_round_31 : decode cX12_round 31 = .ok (.aload_n 0, 1) := by decide +kernel
theorem dX12_round_32 : decode cX12_round 32 = .ok (.ldc 170, 2) := by decide +kernel
theorem dX12_round_34 : decode cX12_round 34 = .ok (.invokevirtual 103, 3) := by decide +kernel
theorem dX12_round_37 : decode cX12_round 37 = .ok (.ireturn, 1) := by decide +kernel
theorem dX12_round_38 : decode cX12_round 38 = .ok (.aload_n 0, 1) := by decide +kernel
theorem dX12_round_39 : decode cX12_round 39 = .ok (.iload_n 1, 1) := by decide +kernel
theorem dX12_round_40 : decode cX12_round 40 = .ok (.iload_n 2, 1) := by decide +kernel
theorem dX12_round_41 : decode cX12_round 41 = .ok (.invokevirtual 180, 3) := by decide +kernel
theorem dX12_round_44 : decode cX12_round 44 = .ok (.ifCond .eq 10, 3) := by decide +kernel
theorem dX12_round_47 : decode cX12_round 47 = .ok (.aload_n 0, 1) := by decide +kernel
theorem dX12_round_48 : decode cX12_round 48 = .ok (.ldc 171, 2) := by decide +kernel
theorem dX12_round_50 : decode cX12_round 50 = .ok (.invokevirtual 103, 3) := by decide +kernel
theorem dX12_round_53 : decode cX12_round 53 = .ok (.ireturn, 1) := by decide +kernel
theorem dX12_round_54 : decode cX12_round 54 = .ok (.aload_n 0, 1) := by decide +kernel
theorem dX12_round_55 : decode cX12_round 55 = .ok (.iload_n 1, 1) := by decide +kernel
theorem dX12_round_56 : decode cX12_round 56 = .ok (.iconst 4, 1) := by decide +kernel
theorem dX12_round_57 : decode cX12_round 57 = .ok (.invokevirtual 145, 3) := by decide +kernel
theorem dX12_round_60 : decode cX12_round 60 = .ok (.bipush 8, 2) := by decide +kernel
theorem dX12_round_62 : decode cX12_round 62 = .ok (.if_icmp .ne 10, 3) := by decide +kernel
theorem dX12_round_65 : decode cX12_round 65 = .ok (.aload_n 0, 1) := by decide +kernel
theorem dX12_round_66 : decode cX12_round 66 = .ok (.ldc 138, 2) := by decide +kernel
theorem dX12_round_68 : decode cX12_round 68 = .ok (.invokevirtual 103, 3) := by decide +kernel
theorem dX12_round_71 : decode cX12_round 71 = .ok (.ireturn, 1) := by decide +kernel
theorem dX12_round_72 : decode cX12_round 72 = .ok (.aload_n 0, 1) := by decide +kernel
theorem dX12_round_73 : decode cX12_round 73 = .ok (.iload_n 1, 1) := by decide +kernel
theorem dX12_round_74 : decode cX12_round 74 = .ok (.iload_n 2, 1) := by decide +kernel
theorem dX12_round_75 : decode cX12_round 75 = .ok (.invokevirtual 192, 3) := by decide +kernel
theorem dX12_round_78 : decode cX12_round 78 = .ok (.aload_n 0, 1) := by decide +kernel
theorem dX12_round_79 : decode cX12_round 79 = .ok (.iload_n 1, 1) := by decide +kernel
theorem dX12_round_80 : decode cX12_round 80 = .ok (.invokevirtual 154, 3) := by decide +kernel
theorem dX12_round_83 : decode cX12_round 83 = .ok (.ireturn, 1) := by decide +kernel
def k_X12_round_0 (F : FT) (Q : QT) : KT := o_aload 0 (o_iload 1 (o_cV 12 m_X12_isHouse 2 (o_ifeq (F 15) (o_iload 2 (o_cS m_X12_isPoint 1 (o_ifne (F 22) (F 15)))))))
def k_X12_round_15 (F : FT) (Q : QT) : KT := o_aload 0 (o_ic (-1000000001) (o_cV 12 m_X12_finding 2 (o_iret Q)))
def k_X12_round_22 (F : FT) (Q : QT) : KT := o_aload 0 (o_iload 1 (o_iload 2 (o_cV 12 m_X12_cornerOf 3 (o_ifne (F 38) (o_aload 0 (o_ic (-1000000004) (o_cV 12 m_X12_finding 2 (o_iret Q))))))))
def k_X12_round_38 (F : FT) (Q : QT) : KT := o_aload 0 (o_iload 1 (o_iload 2 (o_cV 12 m_X12_isRounded 3 (o_ifeq (F 54) (o_aload 0 (o_ic (-1000000005) (o_cV 12 m_X12_finding 2 (o_iret Q))))))))
def k_X12_round_54 (F : FT) (Q : QT) : KT := o_aload 0 (o_iload 1 (o_ic (nI 4) (o_cV 12 m_X12_houseIs 3 (o_ic (nI 8) (o_icne (F 72) (o_aload 0 (o_ic (-1000000002) (o_cV 12 m_X12_finding 2 (o_iret Q)))))))))
def k_X12_round_72 (F : FT) (Q : QT) : KT := o_aload 0 (o_iload 1 (o_iload 2 (o_cV 12 m_X12_rounds 3 (o_aload 0 (o_iload 1 (o_cV 12 m_X12_taxOf 2 (o_iret Q)))))))
set_option maxRecDepth 20000 in
theorem r_X12_round {a0 : Nat} {a1 : Int32} {a2 : Int32} {n : Nat} {R : RR} {I : II} {J : JJ} {Q : QT} (hn : n + 0 ≤ 90) (h : ∀ F : FT, al_Wk F → al_Ok F (k_X12_round_0 F Q) 0 → al_Ok F (k_X12_round_15 F Q) 15 → al_Ok F (k_X12_round_22 F Q) 22 → al_Ok F (k_X12_round_38 F Q) 38 → al_Ok F (k_X12_round_54 F Q) 54 → al_Ok F (k_X12_round_72 F Q) 72 → F 0 [some (.ref a0), some (.int a1), some (.int a2)] [] n R I J) : CT m_X12_round 0 [.ref a0, .int a1, .int a2] n R I J Q :=
  CT.of (by decide) hn (fun _ => rfl) (fun _ => Nat.le_of_ble_eq_true rfl) (fun F p l e s m args below meth c Rm t Q0 C hQ hr hm => h F (fun _ _ _ _ _ _ _ _ => S_wk C)
    (S_aload_n C dX12_round_0 rfl (S_iload_n C dX12_round_1 rfl (S_cV (ci := 12) C ok_X12_isHouse rfl (al_at 1042 (by decide +kernel) rfl) (Nat.le_of_ble_eq_true rfl) (Nat.le_of_ble_eq_true rfl) dX12_round_2 (S_ifeq (tgt := 15) C dX12_round_5 (by decide) (S_iload_n C dX12_round_8 rfl (S_cS C ok_X12_isPoint (al_at 1134 (by decide +kernel) rfl) (Nat.le_of_ble_eq_true rfl) (Nat.le_of_ble_eq_true rfl) dX12_round_9 (S_ifne (tgt := 22) C dX12_round_12 (by decide) (fun _ _ _ _ _ _ h9 => h9))))))))
    (S_aload_n C dX12_round_15 rfl (S_ldc C dX12_round_16 (al_at 1020 (by decide +kernel) rfl) (S_cV (ci := 12) C ok_X12_finding rfl (al_at 1021 (by decide +kernel) rfl) (Nat.le_of_ble_eq_true rfl) (Nat.le_of_ble_eq_true rfl) dX12_round_18 (S_iret C hQ hr dX12_round_21))))
    (S_aload_n C dX12_round_22 rfl (S_iload_n C dX12_round_23 rfl (S_iload_n C dX12_round_24 rfl (S_cV (ci := 12) C ok_X12_cornerOf rfl (al_at 1058 (by decide +kernel) rfl) (Nat.le_of_ble_eq_true rfl) (Nat.le_of_ble_eq_true rfl) dX12_round_25 (S_ifne (tgt := 38) C dX12_round_28 (by decide) (S_aload_n C dX12_round_31 rfl (S_ldc C dX12_round_32 (al_at 1145 (by decide +kernel) rfl) (S_cV (ci := 12) C ok_X12_finding rfl (al_at 1021 (by decide +kernel) rfl) (Nat.le_of_ble_eq_true rfl) (Nat.le_of_ble_eq_true rfl) dX12_round_34 (S_iret C hQ hr dX12_round_37)))))))))
    (S_aload_n C dX12_round_38 rfl (S_iload_n C dX12_round_39 rfl (S_iload_n C dX12_round_40 rfl (S_cV (ci := 12) C ok_X12_isRounded rfl (al_at 1078 (by decide +kernel) rfl) (Nat.le_of_ble_eq_true rfl) (Nat.le_of_ble_eq_true rfl) dX12_round_41 (S_ifeq (tgt := 54) C dX12_round_44 (by decide) (S_aload_n C dX12_round_47 rfl (S_ldc C dX12_round_48 (al_at 1150 (by decide +kernel) rfl) (S_cV (ci := 12) C ok_X12_finding rfl (al_at 1021 (by decide +kernel) rfl) (Nat.le_of_ble_eq_true rfl) (Nat.le_of_ble_eq_true rfl) dX12_round_50 (S_iret C hQ hr dX12_round_53)))))))))
    (S_aload_n C dX12_round_54 rfl (S_iload_n C dX12_round_55 rfl (S_iconst C dX12_round_56 (by decide +kernel) (S_cV (ci := 12) C ok_X12_houseIs rfl (al_at 1046 (by decide +kernel) rfl) (Nat.le_of_ble_eq_true rfl) (Nat.le_of_ble_eq_true rfl) dX12_round_57 (S_bipush C dX12_round_60 (by decide +kernel) (S_icmpne (tgt := 72) C dX12_round_62 (by decide) (S_aload_n C dX12_round_65 rfl (S_ldc C dX12_round_66 (al_at 1033 (by decide +kernel) rfl) (S_cV (ci := 12) C ok_X12_finding rfl (al_at 1021 (by decide +kernel) rfl) (Nat.le_of_ble_eq_true rfl) (Nat.le_of_ble_eq_true rfl) dX12_round_68 (S_iret C hQ hr dX12_round_71))))))))))
    (S_aload_n C dX12_round_72 rfl (S_iload_n C dX12_round_73 rfl (S_iload_n C dX12_round_74 rfl (S_cV (ci := 12) C ok_X12_rounds rfl (al_at 1167 (by decide +kernel) rfl) (Nat.le_of_ble_eq_true rfl) (Nat.le_of_ble_eq_true rfl) dX12_round_75 (S_aload_n C dX12_round_78 rfl (S_iload_n C dX12_round_79 rfl (S_cV (ci := 12) C ok_X12_taxOf rfl (al_at 1066 (by decide +kernel) rfl) (Nat.le_of_ble_eq_true rfl) (Nat.le_of_ble_eq_true rfl) dX12_round_80 (S_iret C hQ hr dX12_round_83)))))))))
theorem dX12_rounds_0 : decode cX12_rounds 0 = .ok (.bipush 64, 2) := by decide +kernel
theorem dX12_rounds_2 : decode cX12_rounds 2 = .ok (.iconst 5, 1) := by decide +kernel
theorem dX12_rounds_3 : decode cX12_rounds 3 = .ok (.iload_n 1, 1) := by decide +kernel
theorem dX12_rounds_4 : decode cX12_rounds 4 = .ok (.imul, 1) := by decide +kernel
theorem dX12_rounds_5 : decode cX12_rounds 5 = .ok (.iadd, 1) := by decide +kernel
theorem dX12_rounds_6 : decode cX12_rounds 6 = .ok (.iconst 4, 1) := by decide +kernel
theorem dX12_rounds_7 : decode cX12_rounds 7 = .ok (.iadd, 1) := by decide +kernel
theorem dX12_rounds_8 : decode cX12_rounds 8 = .ok (.istore_n 3, 1) := by decide +kernel
theorem dX12_rounds_9 : decode cX12_rounds 9 = .ok (.aload_n 0, 1) := by decide +kernel
theorem dX12_rounds_10 : decode cX12_rounds 10 = .ok (.getfield 9, 3) := by decide +kernel
theorem dX12_rounds_13 : decode cX12_rounds 13 = .ok (.bipush 94, 2) := by decide +kernel
theorem dX12_rounds_15 : decode cX12_rounds 15 = .ok (.bipush 8, 2) := by decide +kernel
theorem dX12_rounds_17 : decode cX12_rounds 17 = .ok (.iload_n 1, 1) := by decide +kernel
theorem dX12_rounds_18 : decode cX12_rounds 18 = .ok (.imul, 1) := by decide +kernel
theorem dX12_rounds_19 : decode cX12_rounds 19 = .ok (.iadd, 1) := by decide +kernel
theorem dX12_rounds_20 : decode cX12_rounds 20 = .ok (.aload_n 0, 1) := by decide +kernel
theorem dX12_rounds_21 : decode cX12_rounds 21 = .ok (.getfield 9, 3) := by decide +kernel
theorem dX12_rounds_24 : decode cX12_rounds 24 = .ok (.iload_n 3, 1) := by decide +kernel
theorem dX12_rounds_25 : decode cX12_rounds 25 = .ok (.iaload, 1) := by decide +kernel
theorem dX12_rounds_26 : decode cX12_rounds 26 = .ok (.iadd, 1) := by decide +kernel
theorem dX12_rounds_27 : decode cX12_rounds 27 = .ok (.iload_n 2, 1) := by decide +kernel
theorem dX12_rounds_28 : decode cX12_rounds 28 = .ok (.iastore, 1) := by decide +kernel
theorem dX12_rounds_29 : decode cX12_rounds 29 = .ok (.aload_n 0, 1) := by decide +kernel
theorem dX12_rounds_30 : decode cX12_rounds 30 = .ok (.getfield 9, 3) := by decide +kernel
theorem dX12_rounds_33 : decode cX12_rounds 33 = .ok (.iload_n 3, 1) := by decide +kernel
theorem dX12_rounds_34 : decode cX12_rounds 34 = .ok (.dup2, 1) := by decide +kernel
theorem dX12_rounds_35 : decode cX12_rounds 35 = .ok (.iaload, 1) := by decide +kernel
theorem dX12_rounds_36 : decode cX12_rounds 36 = .ok (.iconst 1, 1) := by decide +kernel
theorem dX12_rounds_37 : decode cX12_rounds 37 = .ok (.iadd, 1) := by decide +kernel
theorem dX12_rounds_38 : decode cX12_rounds 38 = .ok (.iastore, 1) := by decide +kernel
theorem dX12_rounds_39 : decode cX12_rounds 39 = .ok (.return_, 1) := by decide +kernel
def k_X12_rounds_0 (F : FT) (Q : QT) : KT := o_ic (nI 64) (o_ic (nI 5) (o_iload 1 (o_imul (o_iadd (o_ic (nI 4) (o_iadd (o_istore 3 (o_aload 0 (o_getR 12 0 (o_ic (nI 94) (o_ic (nI 8) (o_iload 1 (o_imul (o_iadd (o_aload 0 (o_getR 12 0 (o_iload 3 (o_iald (o_iadd (o_iload 2 (o_iast (o_aload 0 (o_getR 12 0 (o_iload 3 (o_dup2 (o_iald (o_ic (nI 1) (o_iadd (o_iast (o_vret Q))))))))))))))))))))))))))))))
set_option maxRecDepth 20000 in
theorem r_X12_rounds {a0 : Nat} {a1 : Int32} {a2 : Int32} {n : Nat} {R : RR} {I : II} {J : JJ} {Q : QT} (hn : n + 0 ≤ 90) (h : ∀ F : FT, al_Wk F → al_Ok F (k_X12_rounds_0 F Q) 0 → F 0 [some (.ref a0), some (.int a1), some (.int a2), none] [] n R I J) : CT m_X12_rounds 0 [.ref a0, .int a1, .int a2] n R I J Q :=
  CT.of (by decide) hn (fun _ => rfl) (fun _ => Nat.le_of_ble_eq_true rfl) (fun F p l e s m args below meth c Rm t Q0 C hQ hr hm => h F (fun _ _ _ _ _ _ _ _ => S_wk C)
    (S_bipush C dX12_rounds_0 (by decide +kernel) (S_iconst C dX12_rounds_2 (by decide +kernel) (S_iload_n C dX12_rounds_3 rfl (S_imul C dX12_rounds_4 (S_iadd C dX12_rounds_5 (S_iconst C dX12_rounds_6 (by decide +kernel) (S_iadd C dX12_rounds_7 (S_istore_n C dX12_rounds_8 rfl (Nat.le_of_ble_eq_true rfl) (S_aload_n C dX12_rounds_9 rfl (S_getR (ci := 12) (j := 0) C inG12 rfl (Nat.le_of_ble_eq_true rfl) rfl (al_at 918 (by decide +kernel) rfl) dX12_rounds_10 (S_bipush C dX12_rounds_13 (by decide +kernel) (S_bipush C dX12_rounds_15 (by decide +kernel) (S_iload_n C dX12_rounds_17 rfl (S_imul C dX12_rounds_18 (S_iadd C dX12_rounds_19 (S_aload_n C dX12_rounds_20 rfl (S_getR (ci := 12) (j := 0) C inG12 rfl (Nat.le_of_ble_eq_true rfl) rfl (al_at 918 (by decide +kernel) rfl) dX12_rounds_21 (S_iload_n C dX12_rounds_24 rfl (S_iald C dX12_rounds_25 (S_iadd C dX12_rounds_26 (S_iload_n C dX12_rounds_27 rfl (S_iast C dX12_rounds_28 (S_aload_n C dX12_rounds_29 rfl (S_getR (ci := 12) (j := 0) C inG12 rfl (Nat.le_of_ble_eq_true rfl) rfl (al_at 918 (by decide +kernel) rfl) dX12_rounds_30 (S_iload_n C dX12_rounds_33 rfl (S_dup2 C dX12_rounds_34 (S_iald C dX12_rounds_35 (S_iconst C dX12_rounds_36 (by decide +kernel) (S_iadd C dX12_rounds_37 (S_iast C dX12_rounds_38 (S_vret C hQ hr dX12_rounds_39))))))))))))))))))))))))))))))))
theorem dX12_seen_0 : decode cX12_seen 0 = .ok (.iload_n 1, 1) := by decide +kernel
theorem dX12_seen_1 : decode cX12_seen 1 = .ok (.invokestatic 164, 3) := by decide +kernel
theorem dX12_seen_4 : decode cX12_seen 4 = .ok (.ifCond .eq 14, 3) := by decide +kernel
theorem dX12_seen_7 : decode cX12_seen 7 = .ok (.aload_n 0, 1) := by decide +kernel
theorem dX12_seen_8 : decode cX12_seen 8 = .ok (.iload_n 1, 1) := by decide +kernel
theorem dX12_seen_9 : decode cX12_seen 9 = .ok (.invokevirtual 172, 3) := by decide +kernel
theorem dX12_seen_12 : decode cX12_seen 12 = .ok (.invokestatic 176, 3) := by decide +kernel
theorem dX12_seen_15 : decode cX12_seen 15 = .ok (.goto 9, 3) := by decide +kernel
theorem dX12_seen_18 : decode cX12_seen 18 = .ok (.aload_n 0, 1) := by decide +kernel
theorem dX12_seen_19 : decode cX12_seen 19 = .ok (.ldc 80, 2) := by decide +kernel
theorem dX12_seen_21 : decode cX12_seen 21 = .ok (.invokevirtual 103, 3) := by decide +kernel
theorem dX12_seen_24 : decode cX12_seen 24 = .ok (.ireturn, 1) := by decide +kernel
def k_X12_seen_0 (F : FT) (Q : QT) : KT := o_iload 1 (o_cS m_X12_isPoint 1 (o_ifeq (F 18) (o_aload 0 (o_iload 1 (o_cV 12 m_X12_seenAt 2 (o_cS m_X12_bits 1 (F 24)))))))
def k_X12_seen_18 (F : FT) (Q : QT) : KT := o_aload 0 (o_ic (-1000000001) (o_cV 12 m_X12_finding 2 (F 24)))
def k_X12_seen_24 (F : FT) (Q : QT) : KT := o_iret Q
set_option maxRecDepth 20000 in
theorem r_X12_seen {a0 : Nat} {a1 : Int32} {n : Nat} {R : RR} {I : II} {J : JJ} {Q : QT} (hn : n + 0 ≤ 90) (h : ∀ F : FT, al_Wk F → al_Ok F (k_X12_seen_0 F Q) 0 → al_Ok F (k_X12_seen_18 F Q) 18 → al_Ok F (k_X12_seen_24 F Q) 24 → F 0 [some (.ref a0), some (.int a1)] [] n R I J) : CT m_X12_seen 0 [.ref a0, .int a1] n R I J Q :=
  CT.of (by decide) hn (fun _ => rfl) (fun _ => Nat.le_of_ble_eq_true rfl) (fun F p l e s m args below meth c Rm t Q0 C hQ hr hm => h F (fun _ _ _ _ _ _ _ _ => S_wk C)
    (S_iload_n C dX12_seen_0 rfl (S_cS C ok_X12_isPoint (al_at 1134 (by decide +kernel) rfl) (Nat.le_of_ble_eq_true rfl) (Nat.le_of_ble_eq_true rfl) dX12_seen_1 (S_ifeq (tgt := 18) C dX12_seen_4 (by decide) (S_aload_n C dX12_seen_7 rfl (S_iload_n C dX12_seen_8 rfl (S_cV (ci := 12) C ok_X12_seenAt rfl (al_at 1082 (by decide +kernel) rfl) (Nat.le_of_ble_eq_true rfl) (Nat.le_of_ble_eq_true rfl) dX12_seen_9 (S_cS C ok_X12_bits (al_at 1107 (by decide +kernel) rfl) (Nat.le_of_ble_eq_true rfl) (Nat.le_of_ble_eq_true rfl) dX12_seen_12 (S_goto (tgt := 24) C dX12_seen_15 (by decide)))))))))
    (S_aload_n C dX12_seen_18 rfl (S_ldc C dX12_seen_19 (al_at 1020 (by decide +kernel) rfl) (S_cV (ci := 12) C ok_X12_finding rfl (al_at 1021 (by decide +kernel) rfl) (Nat.le_of_ble_eq_true rfl) (Nat.le_of_ble_eq_true rfl) dX12_seen_21 (fun _ _ _ _ _ _ h9 => h9))))
    (S_iret C hQ hr dX12_seen_24))
theorem dX12_seenAt_0 : decode cX12_seenAt 0 = .ok (.aload_n 0, 1) := by decide +kernel
theorem dX12_seenAt_1 : decode cX12_seenAt 1 = .ok (.getfield 85, 3) := by decide +kernel
theorem dX12_seenAt_4 : decode cX12_seenAt 4 = .ok (.ifCond .ne 7, 3) := by decide +kernel
theorem dX12_seenAt_7 : decode cX12_seenAt 7 = .ok (.aload_n 0, 1) := by decide +kernel
theorem dX12_seenAt_8 : decode cX12_seenAt 8 = .ok (.invokevirtual 135, 3) := by decide +kernel
theorem dX12_seenAt_11 : decode cX12_seenAt 11 = .ok (.aload_n 0, 1) := by decide +kernel
theorem dX12_seenAt_12 : decode cX12_seenAt 12 = .ok (.getfield 19, 3) := by decide +kernel
theorem dX12_seenAt_15 : decode cX12_seenAt 15 = .ok (.iload_n 1, 1) := by decide +kernel
theorem dX12_seenAt_16 : decode cX12_seenAt 16 = .ok (.laload, 1) := by decide +kernel
theorem dX12_seenAt_17 : decode cX12_seenAt 17 = .ok (.lreturn, 1) := by decide +kernel
def k_X12_seenAt_0 (F : FT) (Q : QT) : KT := o_aload 0 (o_getI 12 5 (o_ifne (F 11) (o_aload 0 (o_cV 12 m_X12_findSeen 1 (F 11)))))
def k_X12_seenAt_11 (F : FT) (Q : QT) : KT := o_aload 0 (o_getR 12 4 (o_iload 1 (o_lald (o_lret Q))))
set_option maxRecDepth 20000 in
theorem r_X12_seenAt {a0 : Nat} {a1 : Int32} {n : Nat} {R : RR} {I : II} {J : JJ} {Q : QT} (hn : n + 0 ≤ 90) (h : ∀ F : FT, al_Wk F → al_Ok F (k_X12_seenAt_0 F Q) 0 → al_Ok F (k_X12_seenAt_11 F Q) 11 → F 0 [some (.ref a0), some (.int a1)] [] n R I J) : CT m_X12_seenAt 0 [.ref a0, .int a1] n R I J Q :=
  CT.of (by decide) hn (fun _ => rfl) (fun _ => Nat.le_of_ble_eq_true rfl) (fun F p l e s m args below meth c Rm t Q0 C hQ hr hm => h F (fun _ _ _ _ _ _ _ _ => S_wk C)
    (S_aload_n C dX12_seenAt_0 rfl (S_getZ (ci := 12) (j := 5) C inG12 rfl (Nat.le_of_ble_eq_true rfl) rfl (al_at 923 (by decide +kernel) rfl) dX12_seenAt_1 (S_ifne (tgt := 11) C dX12_seenAt_4 (by decide) (S_aload_n C dX12_seenAt_7 rfl (S_cV (ci := 12) C ok_X12_findSeen rfl (al_at 1086 (by decide +kernel) rfl) (Nat.le_of_ble_eq_true rfl) (Nat.le_of_ble_eq_true rfl) dX12_seenAt_8 (fun _ _ _ _ _ _ h9 => h9))))))
    (S_aload_n C dX12_seenAt_11 rfl (S_getR (ci := 12) (j := 4) C inG12 rfl (Nat.le_of_ble_eq_true rfl) rfl (al_at 922 (by decide +kernel) rfl) dX12_seenAt_12 (S_iload_n C dX12_seenAt_15 rfl (S_lald C dX12_seenAt_16 (S_lret C hQ hr dX12_seenAt_17))))))
theorem dX12_sees_0 : decode cX12_sees 0 = .ok (.iload_n 1, 1) := by decide +kernel
theorem dX12_sees_1 : decode cX12_sees 1 = .ok (.invokestatic 93, 3) := by decide +kernel
theorem dX12_sees_4 : decode cX12_sees 4 = .ok (.ifCond .eq 10, 3) := by decide +kernel
theorem dX12_sees_7 : decode cX12_sees 7 = .ok (.iload_n 2, 1) := by decide +kernel
theorem dX12_sees_8 : decode cX12_sees 8 = .ok (.invokestatic 164, 3) := by decide +kernel
theorem dX12_sees_11 : decode cX12_sees 11 = .ok (.ifCond .ne 10, 3) := by decide +kernel
theorem dX12_sees_14 : decode cX12_sees 14 = .ok (.aload_n 0, 1) := by decide +kernel
theorem dX12_sees_15 : decode cX12_sees 15 = .ok (.ldc 80, 2) := by decide +kernel
theorem dX12_sees_17 : decode cX12_sees 17 = .ok (.invokevirtual 103, 3) := by decide +kernel
theorem dX12_sees_20 : decode cX12_sees 20 = .ok (.ireturn, 1) := by decide +kernel
theorem dX12_sees_21 : decode cX12_sees 21 = .ok (.aload_n 0, 1) := by decide +kernel
theorem dX12_sees_22 : decode cX12_sees 22 = .ok (.getfield 9, 3) := by decide +kernel
theorem dX12_sees_25 : decode cX12_sees 25 = .ok (.iload_n 1, 1) := by decide +kernel
theorem dX12_sees_26 : decode cX12_sees 26 = .ok (.iaload, 1) := by decide +kernel
theorem dX12_sees_27 : decode cX12_sees 27 = .ok (.iconst 1, 1) := by decide +kernel
theorem dX12_sees_28 : decode cX12_sees 28 = .ok (.if_icmp .eq 12, 3) := by decide +kernel
theorem dX12_sees_31 : decode cX12_sees 31 = .ok (.aload_n 0, 1) := by decide +kernel
theorem dX12_sees_32 : decode cX12_sees 32 = .ok (.ldc 171, 2) := by decide +kernel
theorem dX12_sees_34 : decode cX12_sees 34 = .ok (.invokevirtual 103, 3) := by decide +kernel
theorem dX12_sees_37 : decode cX12_sees 37 = .ok (.goto 13, 3) := by decide +kernel
theorem dX12_sees_40 : decode cX12_sees 40 = .ok (.aload_n 0, 1) := by decide +kernel
theorem dX12_sees_41 : decode cX12_sees 41 = .ok (.iload_n 2, 1) := by decide +kernel
theorem dX12_sees_42 : decode cX12_sees 42 = .ok (.invokevirtual 172, 3) := by decide +kernel
theorem dX12_sees_45 : decode cX12_sees 45 = .ok (.iload_n 1, 1) := by decide +kernel
theorem dX12_sees_46 : decode cX12_sees 46 = .ok (.lshr, 1) := by decide +kernel
theorem dX12_sees_47 : decode cX12_sees 47 = .ok (.lconst 1, 1) := by decide +kernel
theorem dX12_sees_48 : decode cX12_sees 48 = .ok (.land, 1) := by decide +kernel
theorem dX12_sees_49 : decode cX12_sees 49 = .ok (.l2i, 1) := by decide +kernel
theorem dX12_sees_50 : decode cX12_sees 50 = .ok (.ireturn, 1) := by decide +kernel
def k_X12_sees_0 (F : FT) (Q : QT) : KT := o_iload 1 (o_cS m_X12_isSquare 1 (o_ifeq (F 14) (o_iload 2 (o_cS m_X12_isPoint 1 (o_ifne (F 21) (F 14))))))
def k_X12_sees_14 (F : FT) (Q : QT) : KT := o_aload 0 (o_ic (-1000000001) (o_cV 12 m_X12_finding 2 (o_iret Q)))
def k_X12_sees_21 (F : FT) (Q : QT) : KT := o_aload 0 (o_getR 12 0 (o_iload 1 (o_iald (o_ic (nI 1) (o_iceq (F 40) (o_aload 0 (o_ic (-1000000005) (o_cV 12 m_X12_finding 2 (F 50)))))))))
def k_X12_sees_40 (F : FT) (Q : QT) : KT := o_aload 0 (o_iload 2 (o_cV 12 m_X12_seenAt 2 (o_iload 1 (o_lshr (o_lc (lN 1) (o_land (o_l2i (F 50))))))))
def k_X12_sees_50 (F : FT) (Q : QT) : KT := o_iret Q
set_option maxRecDepth 20000 in
theorem r_X12_sees {a0 : Nat} {a1 : Int32} {a2 : Int32} {n : Nat} {R : RR} {I : II} {J : JJ} {Q : QT} (hn : n + 0 ≤ 90) (h : ∀ F : FT, al_Wk F → al_Ok F (k_X12_sees_0 F Q) 0 → al_Ok F (k_X12_sees_14 F Q) 14 → al_Ok F (k_X12_sees_21 F Q) 21 → al_Ok F (k_X12_sees_40 F Q) 40 → al_Ok F (k_X12_sees_50 F Q) 50 → F 0 [some (.ref a0), some (.int a1), some (.int a2)] [] n R I J) : CT m_X12_sees 0 [.ref a0, .int a1, .int a2] n R I J Q :=
  CT.of (by decide) hn (fun _ => rfl) (fun _ => Nat.le_of_ble_eq_true rfl) (fun F p l e s m args below meth c Rm t Q0 C hQ hr hm => h F (fun _ _ _ _ _ _ _ _ => S_wk C)
    (S_iload_n C dX12_sees_0 rfl (S_cS C ok_X12_isSquare (al_at 1002 (by decide +kernel) rfl) (Nat.le_of_ble_eq_true rfl) (Nat.le_of_ble_eq_true rfl) dX12_sees_1 (S_ifeq (tgt := 14) C dX12_sees_4 (by decide) (S_iload_n C dX12_sees_7 rfl (S_cS C ok_X12_isPoint (al_at 1134 (by decide +kernel) rfl) (Nat.le_of_ble_eq_true rfl) (Nat.le_of_ble_eq_true rfl) dX12_sees_8 (S_ifne (tgt := 21) C dX12_sees_11 (by decide) (fun _ _ _ _ _ _ h9 => h9)))))))
    (S_aload_n C dX12_sees_14 rfl (S_ldc C dX12_sees_15 (al_at 1020 (by decide +kernel) rfl) (S_cV (ci := 12) C ok_X12_finding rfl (al_at 1021 (by decide +kernel) rfl) (Nat.le_of_ble_eq_true rfl) (Nat.le_of_ble_eq_true rfl) dX12_sees_17 (S_iret C hQ hr dX12_sees_20))))
    (S_aload_n C dX12_sees_21 rfl (S_getR (ci := 12) (j := 0) C inG12 rfl (Nat.le_of_ble_eq_true rfl) rfl (al_at 918 (by decide +kernel) rfl) dX12_sees_22 (S_iload_n C dX12_sees_25 rfl (S_iald C dX12_sees_26 (S_iconst C dX12_sees_27 (by decide +kernel) (S_icmpeq (tgt := 40) C dX12_sees_28 (by decide) (S_aload_n C dX12_sees_31 rfl (S_ldc C dX12_sees_32 (al_at 1150 (by decide +kernel) rfl) (S_cV (ci := 12) C ok_X12_finding rfl (al_at 1021 (by decide +kernel) rfl) (Nat.le_of_ble_eq_true rfl) (Nat.le_of_ble_eq_true rfl) dX12_sees_34 (S_goto (tgt := 50) C dX12_sees_37 (by decide)))))))))))
    (S_aload_n C dX12_sees_40 rfl (S_iload_n C dX12_sees_41 rfl (S_cV (ci := 12) C ok_X12_seenAt rfl (al_at 1082 (by decide +kernel) rfl) (Nat.le_of_ble_eq_true rfl) (Nat.le_of_ble_eq_true rfl) dX12_sees_42 (S_iload_n C dX12_sees_45 rfl (S_lshr C dX12_sees_46 (S_lconst C dX12_sees_47 (by decide +kernel) (S_land C dX12_sees_48 (S_l2i C dX12_sees_49 (fun _ _ _ _ _ _ h9 => h9)))))))))
    (S_iret C hQ hr dX12_sees_50))
theorem dX12_set_0 : decode cX12_set 0 = .ok (.aload_n 0, 1) := by decide +kernel
theorem dX12_set_1 : decode cX12_set 1 = .ok (.iload_n 1, 1) := by decide +kernel
theorem dX12_set_2 : decode cX12_set 2 = .ok (.invokevirtual 142, 3) := by decide +kernel
theorem dX12_set_5 : decode cX12_set 5 = .ok (.ifCond .eq 38, 3) := by decide +kernel
theorem dX12_set_8 : decode cX12_set 8 = .ok (.iload_n 2, 1) := by decide +kernel
theorem dX12_set_9 : decode cX12_set 9 = .ok (.iconst 1, 1) := by decide +kernel
theorem dX12_set_10 : decode cX12_set 10 = .ok (.if_icmp .ne 13, 3) := by decide +kernel
theorem dX12_set_13 : decode cX12_set 13 = .ok (.iload_n 3, 1) := by decide +kernel
theorem dX12_set_14 : decode cX12_set 14 = .ok (.iconst 1, 1) := by decide +kernel
theorem dX12_set_15 : decode cX12_set 15 = .ok (.bipush 99, 2) := by decide +kernel
theorem dX12_set_17 : decode cX12_set 17 = .ok (.invokestatic 81, 3) := by decide +kernel
theorem dX12_set_20 : decode cX12_set 20 = .ok (.ifCond .ne 19, 3) := by decide +kernel
theorem dX12_set_23 : decode cX12_set 23 = .ok (.iload_n 2, 1) := by decide +kernel
theorem dX12_set_24 : decode cX12_set 24 = .ok (.iconst 2, 1) := by decide +kernel
theorem dX12_set_25 : decode cX12_set 25 = .ok (.if_icmp .ne 18, 3) := by decide +kernel
theorem dX12_set_28 : decode cX12_set 28 = .ok (.iload_n 3, 1) := by decide +kernel
theorem dX12_set_29 : decode cX12_set 29 = .ok (.iconst 0, 1) := by decide +kernel
theorem dX12_set_30 : decode cX12_set 30 = .ok (.sipush 9999, 3) := by decide +kernel
theorem dX12_set_33 : decode cX12_set 33 = .ok (.invokestatic 81, 3) := by decide +kernel
theorem dX12_set_36 : decode cX12_set 36 = .ok (.ifCond .eq 7, 3) := by decide +kernel
theorem dX12_set_39 : decode cX12_set 39 = .ok (.iconst 1, 1) := by decide +kernel
theorem dX12_set_40 : decode cX12_set 40 = .ok (.goto 4, 3) := by decide +kernel
theorem dX12_set_43 : decode cX12_set 43 = .ok (.iconst 0, 1) := by decide +kernel
theorem dX12_set_44 : decode cX12_set 44 = .ok (.istore 4, 2) := by decide +kernel
theorem dX12_set_46 : decode cX12_set 46 = .ok (.iload 4, 2) := by decide +kernel
theorem dX12_set_48 : decode cX12_set 48 = .ok (.ifCond .eq 19, 3) := by decide +kernel
theorem dX12_set_51 : decode cX12_set 51 = .ok (.aload_n 0, 1) := by decide +kernel
theorem dX12_set_52 : decode cX12_set 52 = .ok (.bipush 64, 2) := by decide +kernel
theorem dX12_set_54 : decode cX12_set 54 = .ok (.iconst 5, 1) := by decide +kernel
theorem dX12_set_55 : decode cX12_set 55 = .ok (.iload_n 1, 1) := by decide +kernel
theorem dX12_set_56 : decode cX12_set 56 = .ok (.imul, 1) := by decide +kernel
theorem dX12_set_57 : decode cX12_set 57 = .ok (.iadd, 1) := by decide +kernel
theorem dX12_set_58 : decode cX12_set 58 = .ok (.iload_n 2, 1) := by decide +kernel
theorem dX12_set_59 : decode cX12_set 59 = .ok (.iadd, 1) := by decide +kernel
theorem dX12_set_60 : decode cX12_set 60 = .ok (.iload_n 3, 1) := by decide +kernel
theorem dX12_set_61 : decode cX12_set 61 = .ok (.invokevirtual 89, 3) := by decide +kernel
theorem dX12_set_64 : decode cX12_set 64 = .ok (.goto 9, 3) := by decide +kernel
theorem dX12_set_67 : decode cX12_set 67 = .ok (.aload_n 0, 1) := by decide +kernel
theorem dX12_set_68 : decode cX12_set 68 = .ok (.ldc 80, 2) := by decide +kernel
theorem dX12_set_70 : decode cX12_set 70 = .ok (.invokevirtual 103, 3) := by decide +kernel
theorem dX12_set_73 : decode cX12_set 73 = .ok (.ireturn, 1) := by decide +kernel
def k_X12_set_0 (F : FT) (Q : QT) : KT := o_aload 0 (o_iload 1 (o_cV 12 m_X12_isHouse 2 (o_ifeq (F 43) (o_iload 2 (o_ic (nI 1) (o_icne (F 23) (o_iload 3 (o_ic (nI 1) (o_ic (nI 99) (o_cS m_X12_within 3 (o_ifne (F 39) (F 23))))))))))))
def k_X12_set_23 (F : FT) (Q : QT) : KT := o_iload 2 (o_ic (nI 2) (o_icne (F 43) (o_iload 3 (o_ic (nI 0) (o_ic (nI 9999) (o_cS m_X12_within 3 (o_ifeq (F 43) (F 39))))))))
def k_X12_set_39 (F : FT) (Q : QT) : KT := o_ic (nI 1) (F 44)
def k_X12_set_43 (F : FT) (Q : QT) : KT := o_ic (nI 0) (F 44)
def k_X12_set_44 (F : FT) (Q : QT) : KT := o_istore 4 (o_iload 4 (o_ifeq (F 67) (o_aload 0 (o_ic (nI 64) (o_ic (nI 5) (o_iload 1 (o_imul (o_iadd (o_iload 2 (o_iadd (o_iload 3 (o_cV 12 m_X12_become 3 (F 73)))))))))))))
def k_X12_set_67 (F : FT) (Q : QT) : KT := o_aload 0 (o_ic (-1000000001) (o_cV 12 m_X12_finding 2 (F 73)))
def k_X12_set_73 (F : FT) (Q : QT) : KT := o_iret Q
set_option maxRecDepth 20000 in
theorem r_X12_set {a0 : Nat} {a1 : Int32} {a2 : Int32} {a3 : Int32} {n : Nat} {R : RR} {I : II} {J : JJ} {Q : QT} (hn : n + 0 ≤ 90) (h : ∀ F : FT, al_Wk F → al_Ok F (k_X12_set_0 F Q) 0 → al_Ok F (k_X12_set_23 F Q) 23 → al_Ok F (k_X12_set_39 F Q) 39 → al_Ok F (k_X12_set_43 F Q) 43 → al_Ok F (k_X12_set_44 F Q) 44 → al_Ok F (k_X12_set_67 F Q) 67 → al_Ok F (k_X12_set_73 F Q) 73 → F 0 [some (.ref a0), some (.int a1), some (.int a2), some (.int a3), none] [] n R I J) : CT m_X12_set 0 [.ref a0, .int a1, .int a2, .int a3] n R I J Q :=
  CT.of (by decide) hn (fun _ => rfl) (fun _ => Nat.le_of_ble_eq_true rfl) (fun F p l e s m args below meth c Rm t Q0 C hQ hr hm => h F (fun _ _ _ _ _ _ _ _ => S_wk C)
    (S_aload_n C dX12_set_0 rfl (S_iload_n C dX12_set_1 rfl (S_cV (ci := 12) C ok_X12_isHouse rfl (al_at 1042 (by decide +kernel) rfl) (Nat.le_of_ble_eq_true rfl) (Nat.le_of_ble_eq_true rfl) dX12_set_2 (S_ifeq (tgt := 43) C dX12_set_5 (by decide) (S_iload_n C dX12_set_8 rfl (S_iconst C dX12_set_9 (by decide +kernel) (S_icmpne (tgt := 23) C dX12_set_10 (by decide) (S_iload_n C dX12_set_13 rfl (S_iconst C dX12_set_14 (by decide +kernel) (S_bipush C dX12_set_15 (by decide +kernel) (S_cS C ok_X12_within (al_at 1005 (by decide +kernel) rfl) (Nat.le_of_ble_eq_true rfl) (Nat.le_of_ble_eq_true rfl) dX12_set_17 (S_ifne (tgt := 39) C dX12_set_20 (by decide) (fun _ _ _ _ _ _ h9 => h9)))))))))))))
    (S_iload_n C dX12_set_23 rfl (S_iconst C dX12_set_24 (by decide +kernel) (S_icmpne (tgt := 43) C dX12_set_25 (by decide) (S_iload_n C dX12_set_28 rfl (S_iconst C dX12_set_29 (by decide +kernel) (S_sipush C dX12_set_30 (by decide +kernel) (S_cS C ok_X12_within (al_at 1005 (by decide +kernel) rfl) (Nat.le_of_ble_eq_true rfl) (Nat.le_of_ble_eq_true rfl) dX12_set_33 (S_ifeq (tgt := 43) C dX12_set_36 (by decide) (fun _ _ _ _ _ _ h9 => h9)))))))))
    (S_iconst C dX12_set_39 (by decide +kernel) (S_goto (tgt := 44) C dX12_set_40 (by decide)))
    (S_iconst C dX12_set_43 (by decide +kernel) (fun _ _ _ _ _ _ h9 => h9))
    (S_istore C dX12_set_44 (Nat.le_of_ble_eq_true rfl) (S_iload C dX12_set_46 (S_ifeq (tgt := 67) C dX12_set_48 (by decide) (S_aload_n C dX12_set_51 rfl (S_bipush C dX12_set_52 (by decide +kernel) (S_iconst C dX12_set_54 (by decide +kernel) (S_iload_n C dX12_set_55 rfl (S_imul C dX12_set_56 (S_iadd C dX12_set_57 (S_iload_n C dX12_set_58 rfl (S_iadd C dX12_set_59 (S_iload_n C dX12_set_60 rfl (S_cV (ci := 12) C ok_X12_become rfl (al_at 1016 (by decide +kernel) rfl) (Nat.le_of_ble_eq_true rfl) (Nat.le_of_ble_eq_true rfl) dX12_set_61 (S_goto (tgt := 73) C dX12_set_64 (by decide)))))))))))))))
    (S_aload_n C dX12_set_67 rfl (S_ldc C dX12_set_68 (al_at 1020 (by decide +kernel) rfl) (S_cV (ci := 12) C ok_X12_finding rfl (al_at 1021 (by decide +kernel) rfl) (Nat.le_of_ble_eq_true rfl) (Nat.le_of_ble_eq_true rfl) dX12_set_70 (fun _ _ _ _ _ _ h9 => h9))))
    (S_iret C hQ hr dX12_set_73))
theorem dX12_shed_0 : decode cX12_shed 0 = .ok (.aload_n 0, 1) := by decide +kernel
theorem dX12_shed_1 : decode cX12_shed 1 = .ok (.iload_n 1, 1) := by decide +kernel
theorem dX12_shed_2 : decode cX12_shed 2 = .ok (.invokevirtual 142, 3) := by decide +kernel
theorem dX12_shed_5 : decode cX12_shed 5 = .ok (.ifCond .ne 10, 3) := by decide +kernel
theorem dX12_shed_8 : decode cX12_shed 8 = .ok (.aload_n 0, 1) := by decide +kernel
theorem dX12_shed_9 : decode cX12_shed 9 = .ok (.ldc 80, 2) := by decide +kernel
theorem dX12_shed_11 : decode cX12_shed 11 = .ok (.invokevirtual 103, 3) := by decide +kernel
theorem dX12_shed_14 : decode cX12_shed 14 = .ok (.ireturn, 1) := by decide +kernel
theorem dX12_shed_15 : decode cX12_shed 15 = .ok (.aload_n 0, 1) := by decide +kernel
theorem dX12_shed_16 : decode cX12_shed 16 = .ok (.iload_n 1, 1) := by decide +kernel
theorem dX12_shed_17 : decode cX12_shed 17 = .ok (.invokevirtual 154, 3) := by decide +kernel
theorem dX12_shed_20 : decode cX12_shed 20 = .ok (.istore_n 2, 1) := by decide +kernel
theorem dX12_shed_21 : decode cX12_shed 21 = .ok (.iconst (-1), 1) := by decide +kernel
theorem dX12_shed_22 : decode cX12_shed 22 = .ok (.istore_n 3, 1) := by decide +kernel
theorem dX12_shed_23 : decode cX12_shed 23 = .ok (.iconst 0, 1) := by decide +kernel
theorem dX12_shed_24 : decode cX12_shed 24 = .ok (.istore 4, 2) := by decide +kernel
theorem dX12_shed_26 : decode cX12_shed 26 = .ok (.iload 4, 2) := by decide +kernel
theorem dX12_shed_28 : decode cX12_shed 28 = .ok (.bipush 64, 2) := by decide +kernel
theorem dX12_shed_30 : decode cX12_shed 30 = .ok (.if_icmp .ge 56, 3) := by decide +kernel
theorem dX12_shed_33 : decode cX12_shed 33 = .ok (.aload_n 0, 1) := by decide +kernel
theorem dX12_shed_34 : decode cX12_shed 34 = .ok (.getfield 9, 3) := by decide +kernel
theorem dX12_shed_37 : decode cX12_shed 37 = .ok (.iload 4, 2) := by decide +kernel
theorem dX12_shed_39 : decode cX12_shed 39 = .ok (.iaload, 1) := by decide +kernel
theorem dX12_shed_40 : decode cX12_shed 40 = .ok (.ifCond .ne 40, 3) := by decide +kernel
theorem dX12_shed_43 : decode cX12_shed 43 = .ok (.aload_n 0, 1) := by decide +kernel
theorem dX12_shed_44 : decode cX12_shed 44 = .ok (.iload 4, 2) := by decide +kernel
theorem dX12_shed_46 : decode cX12_shed 46 = .ok (.iconst 2, 1) := by decide +kernel
theorem dX12_shed_47 : decode cX12_shed 47 = .ok (.invokevirtual 100, 3) := by decide +kernel
theorem dX12_shed_50 : decode cX12_shed 50 = .ok (.istore 5, 2) := by decide +kernel
theorem dX12_shed_52 : decode cX12_shed 52 = .ok (.aload_n 0, 1) := by decide +kernel
theorem dX12_shed_53 : decode cX12_shed 53 = .ok (.iload_n 1, 1) := by decide +kernel
theorem dX12_shed_54 : decode cX12_shed 54 = .ok (.invokevirtual 154, 3) := by decide +kernel
theorem dX12_shed_57 : decode cX12_shed 57 = .ok (.istore 6, 2) := by decide +kernel
theorem dX12_shed_59 : decode cX12_shed 59 = .ok (.aload_n 0, 1) := by decide +kernel
theorem dX12_shed_60 : decode cX12_shed 60 = .ok (.iload 4, 2) := by decide +kernel
theorem dX12_shed_62 : decode cX12_shed 62 = .ok (.iconst 0, 1) := by decide +kernel
theorem dX12_shed_63 : decode cX12_shed 63 = .ok (.invokevirtual 100, 3) := by decide +kernel
theorem dX12_shed_66 : decode cX12_shed 66 = .ok (.istore 5, 2) := by decide +kernel
theorem dX12_shed_68 : decode cX12_shed 68 = .ok (.iload 6, 2) := by decide +kernel
theorem dX12_shed_70 : decode cX12_shed 70 = .ok (.iload_n 2, 1) := by decide +kernel
theorem dX12_shed_71 : decode cX12_shed 71 = .ok (.if_icmp .ge 9, 3) := by decide +kernel
theorem dX12_shed_74 : decode cX12_shed 74 = .ok (.iload 6, 2) := by decide +kernel
theorem dX12_shed_76 : decode cX12_shed 76 = .ok (.istore_n 2, 1) := by decide +kernel
theorem dX12_shed_77 : decode cX12_shed 77 = .ok (.iload 4, 2) := by decide +kernel
theorem dX12_shed_79 : decode cX12_shed 79 = .ok (.istore_n 3, 1) := by decide +kernel
theorem dX12_shed_80 : decode cX12_shed 80 = .ok (.iinc 4 1, 3) := by decide +kernel
theorem dX12_shed_83 : decode cX12_shed 83 = .ok (.goto (-57), 3) := by decide +kernel
theorem dX12_shed_86 : decode cX12_shed 86 = .ok (.iload_n 3, 1) := by decide +kernel
theorem dX12_shed_87 : decode cX12_shed 87 = .ok (.ifCond .ge 12, 3) := by decide +kernel
theorem dX12_shed_90 : decode cX12_shed 90 = .ok (.aload_n 0, 1) := by decide +kernel
theorem dX12_shed_91 : decode cX12_shed 91 = .ok (.ldc 170, 2) := by decide +kernel
theorem dX12_shed_93 : decode cX12_shed 93 = .ok (.invokevirtual 103, 3) := by decide +kernel
theorem dX12_shed_96 : decode cX12_shed 96 = .ok (.goto 4, 3) := by decide +kernel
theorem dX12_shed_99 : decode cX12_shed 99 = .ok (.iload_n 3, 1) := by decide +kernel
theorem dX12_shed_100 : decode cX12_shed 100 = .ok (.ireturn, 1) := by decide +kernel
def k_X12_shed_0 (F : FT) (Q : QT) : KT := o_aload 0 (o_iload 1 (o_cV 12 m_X12_isHouse 2 (o_ifne (F 15) (o_aload 0 (o_ic (-1000000001) (o_cV 12 m_X12_finding 2 (o_iret Q)))))))
def k_X12_shed_15 (F : FT) (Q : QT) : KT := o_aload 0 (o_iload 1 (o_cV 12 m_X12_taxOf 2 (o_istore 2 (o_ic (-1) (o_istore 3 (o_ic (nI 0) (o_istore 4 (F 26))))))))
def k_X12_shed_26 (F : FT) (Q : QT) : KT := o_iload 4 (o_ic (nI 64) (o_icge (F 86) (o_aload 0 (o_getR 12 0 (o_iload 4 (o_iald (o_ifne (F 80) (o_aload 0 (o_iload 4 (o_ic (nI 2) (o_cV 12 m_X12_stands 3 (o_istore 5 (o_aload 0 (o_iload 1 (o_cV 12 m_X12_taxOf 2 (o_istore 6 (o_aload 0 (o_iload 4 (o_ic (nI 0) (o_cV 12 m_X12_stands 3 (o_istore 5 (o_iload 6 (o_iload 2 (o_icge (F 80) (o_iload 6 (o_istore 2 (o_iload 4 (o_istore 3 (F 80)))))))))))))))))))))))))))))
def k_X12_shed_80 (F : FT) (Q : QT) : KT := o_iinc 4 (nI 1) (F 26)
def k_X12_shed_86 (F : FT) (Q : QT) : KT := o_iload 3 (o_ifge (F 99) (o_aload 0 (o_ic (-1000000004) (o_cV 12 m_X12_finding 2 (F 100)))))
def k_X12_shed_99 (F : FT) (Q : QT) : KT := o_iload 3 (F 100)
def k_X12_shed_100 (F : FT) (Q : QT) : KT := o_iret Q
set_option maxRecDepth 20000 in
theorem r_X12_shed {a0 : Nat} {a1 : Int32} {n : Nat} {R : RR} {I : II} {J : JJ} {Q : QT} (hn : n + 0 ≤ 90) (h : ∀ F : FT, al_Wk F → al_Ok F (k_X12_shed_0 F Q) 0 → al_Ok F (k_X12_shed_15 F Q) 15 → al_Ok F (k_X12_shed_26 F Q) 26 → al_Ok F (k_X12_shed_80 F Q) 80 → al_Ok F (k_X12_shed_86 F Q) 86 → al_Ok F (k_X12_shed_99 F Q) 99 → al_Ok F (k_X12_shed_100 F Q) 100 → F 0 [some (.ref a0), some (.int a1), none, none, none, none, none] [] n R I J) : CT m_X12_shed 0 [.ref a0, .int a1] n R I J Q :=
  CT.of (by decide) hn (fun _ => rfl) (fun _ => Nat.le_of_ble_eq_true rfl) (fun F p l e s m args below meth c Rm t Q0 C hQ hr hm => h F (fun _ _ _ _ _ _ _ _ => S_wk C)
    (S_aload_n C dX12_shed_0 rfl (S_iload_n C dX12_shed_1 rfl (S_cV (ci := 12) C ok_X12_isHouse rfl (al_at 1042 (by decide +kernel) rfl) (Nat.le_of_ble_eq_true rfl) (Nat.le_of_ble_eq_true rfl) dX12_shed_2 (S_ifne (tgt := 15) C dX12_shed_5 (by decide) (S_aload_n C dX12_shed_8 rfl (S_ldc C dX12_shed_9 (al_at 1020 (by decide +kernel) rfl) (S_cV (ci := 12) C ok_X12_finding rfl (al_at 1021 (by decide +kernel) rfl) (Nat.le_of_ble_eq_true rfl) (Nat.le_of_ble_eq_true rfl) dX12_shed_11 (S_iret C hQ hr dX12_shed_14))))))))
    (S_aload_n C dX12_shed_15 rfl (S_iload_n C dX12_shed_16 rfl (S_cV (ci := 12) C ok_X12_taxOf rfl (al_at 1066 (by decide +kernel) rfl) (Nat.le_of_ble_eq_true rfl) (Nat.le_of_ble_eq_true rfl) dX12_shed_17 (S_istore_n C dX12_shed_20 rfl (Nat.le_of_ble_eq_true rfl) (S_iconst C dX12_shed_21 (by decide +kernel) (S_istore_n C dX12_shed_22 rfl (Nat.le_of_ble_eq_true rfl) (S_iconst C dX12_shed_23 (by decide +kernel) (S_istore C dX12_shed_24 (Nat.le_of_ble_eq_true rfl) (fun _ _ _ _ _ _ h9 => h9)))))))))
    (S_iload C dX12_shed_26 (S_bipush C dX12_shed_28 (by decide +kernel) (S_icmpge (tgt := 86) C dX12_shed_30 (by decide) (S_aload_n C dX12_shed_33 rfl (S_getR (ci := 12) (j := 0) C inG12 rfl (Nat.le_of_ble_eq_true rfl) rfl (al_at 918 (by decide +kernel) rfl) dX12_shed_34 (S_iload C dX12_shed_37 (S_iald C dX12_shed_39 (S_ifne (tgt := 80) C dX12_shed_40 (by decide) (S_aload_n C dX12_shed_43 rfl (S_iload C dX12_shed_44 (S_iconst C dX12_shed_46 (by decide +kernel) (S_cV (ci := 12) C ok_X12_stands rfl (al_at 1012 (by decide +kernel) rfl) (Nat.le_of_ble_eq_true rfl) (Nat.le_of_ble_eq_true rfl) dX12_shed_47 (S_istore C dX12_shed_50 (Nat.le_of_ble_eq_true rfl) (S_aload_n C dX12_shed_52 rfl (S_iload_n C dX12_shed_53 rfl (S_cV (ci := 12) C ok_X12_taxOf rfl (al_at 1066 (by decide +kernel) rfl) (Nat.le_of_ble_eq_true rfl) (Nat.le_of_ble_eq_true rfl) dX12_shed_54 (S_istore C dX12_shed_57 (Nat.le_of_ble_eq_true rfl) (S_aload_n C dX12_shed_59 rfl (S_iload C dX12_shed_60 (S_iconst C dX12_shed_62 (by decide +kernel) (S_cV (ci := 12) C ok_X12_stands rfl (al_at 1012 (by decide +kernel) rfl) (Nat.le_of_ble_eq_true rfl) (Nat.le_of_ble_eq_true rfl) dX12_shed_63 (S_istore C dX12_shed_66 (Nat.le_of_ble_eq_true rfl) (S_iload C dX12_shed_68 (S_iload_n C dX12_shed_70 rfl (S_icmpge (tgt := 80) C dX12_shed_71 (by decide) (S_iload C dX12_shed_74 (S_istore_n C dX12_shed_76 rfl (Nat.le_of_ble_eq_true rfl) (S_iload C dX12_shed_77 (S_istore_n C dX12_shed_79 rfl (Nat.le_of_ble_eq_true rfl) (fun _ _ _ _ _ _ h9 => h9))))))))))))))))))))))))))))))
    (S_iinc C dX12_shed_80 (by decide +kernel) (Nat.le_of_ble_eq_true rfl) (S_goto (tgt := 26) C dX12_shed_83 (by decide)))
    (S_iload_n C dX12_shed_86 rfl (S_ifge (tgt := 99) C dX12_shed_87 (by decide) (S_aload_n C dX12_shed_90 rfl (S_ldc C dX12_shed_91 (al_at 1145 (by decide +kernel) rfl) (S_cV (ci := 12) C ok_X12_finding rfl (al_at 1021 (by decide +kernel) rfl) (Nat.le_of_ble_eq_true rfl) (Nat.le_of_ble_eq_true rfl) dX12_shed_93 (S_goto (tgt := 100) C dX12_shed_96 (by decide)))))))
    (S_iload_n C dX12_shed_99 rfl (fun _ _ _ _ _ _ h9 => h9))
    (S_iret C hQ hr dX12_shed_100))
theorem dX12_sheet_0 : decode cX12_sheet 0 = .ok (.iload_n 1, 1) := by decide +kernel
theorem dX12_sheet_1 : decode cX12_sheet 1 = .ok (.invokestatic 298, 3) := by decide +kernel
theorem dX12_sheet_4 : decode cX12_sheet 4 = .ok (.ifCond .eq 25, 3) := by decide +kernel
theorem dX12_sheet_7 : decode cX12_sheet 7 = .ok (.iload_n 2, 1) := by decide +kernel
theorem dX12_sheet_8 : decode cX12_sheet 8 = .ok (.ifCond .eq 28, 3) := by decide +kernel
theorem dX12_sheet_11 : decode cX12_sheet 11 = .ok (.iload_n 2, 1) := by decide +kernel
theorem dX12_sheet_12 : decode cX12_sheet 12 = .ok (.bipush 8, 2) := by decide +kernel
theorem dX12_sheet_14 : decode cX12_sheet 14 = .ok (.if_icmp .eq 22, 3) := by decide +kernel
theorem dX12_sheet_17 : decode cX12_sheet 17 = .ok (.iload_n 2, 1) := by decide +kernel
theorem dX12_sheet_18 : decode cX12_sheet 18 = .ok (.bipush 16, 2) := by decide +kernel
theorem dX12_sheet_20 : decode cX12_sheet 20 = .ok (.if_icmp .eq 16, 3) := by decide +kernel
theorem dX12_sheet_23 : decode cX12_sheet 23 = .ok (.iload_n 2, 1) := by decide +kernel
theorem dX12_sheet_24 : decode cX12_sheet 24 = .ok (.bipush 64, 2) := by decide +kernel
theorem dX12_sheet_26 : decode cX12_sheet 26 = .ok (.if_icmp .eq 10, 3) := by decide +kernel
theorem dX12_sheet_29 : decode cX12_sheet 29 = .ok (.aload_n 0, 1) := by decide +kernel
theorem dX12_sheet_30 : decode cX12_sheet 30 = .ok (.ldc 80, 2) := by decide +kernel
theorem dX12_sheet_32 : decode cX12_sheet 32 = .ok (.invokevirtual 103, 3) := by decide +kernel
theorem dX12_sheet_35 : decode cX12_sheet 35 = .ok (.ireturn, 1) := by decide +kernel
theorem dX12_sheet_36 : decode cX12_sheet 36 = .ok (.iload_n 3, 1) := by decide +kernel
theorem dX12_sheet_37 : decode cX12_sheet 37 = .ok (.ifCond .ge 11, 3) := by decide +kernel
theorem dX12_sheet_40 : decode cX12_sheet 40 = .ok (.aload_n 0, 1) := by decide +kernel
theorem dX12_sheet_41 : decode cX12_sheet 41 = .ok (.ldc_w 301, 3) := by decide +kernel
theorem dX12_sheet_44 : decode cX12_sheet 44 = .ok (.invokevirtual 103, 3) := by decide +kernel
theorem dX12_sheet_47 : decode cX12_sheet 47 = .ok (.ireturn, 1) := by decide +kernel
theorem dX12_sheet_48 : decode cX12_sheet 48 = .ok (.iload_n 3, 1) := by decide +kernel
theorem dX12_sheet_49 : decode cX12_sheet 49 = .ok (.bipush 40, 2) := by decide +kernel
theorem dX12_sheet_51 : decode cX12_sheet 51 = .ok (.if_icmp .le 10, 3) := by decide +kernel
theorem dX12_sheet_54 : decode cX12_sheet 54 = .ok (.aload_n 0, 1) := by decide +kernel
theorem dX12_sheet_55 : decode cX12_sheet 55 = .ok (.ldc 80, 2) := by decide +kernel
theorem dX12_sheet_57 : decode cX12_sheet 57 = .ok (.invokevirtual 103, 3) := by decide +kernel
theorem dX12_sheet_60 : decode cX12_sheet 60 = .ok (.ireturn, 1) := by decide +kernel
theorem dX12_sheet_61 : decode cX12_sheet 61 = .ok (.aload_n 0, 1) := by decide +kernel
theorem dX12_sheet_62 : decode cX12_sheet 62 = .ok (.getfield 68, 3) := by decide +kernel
theorem dX12_sheet_65 : decode cX12_sheet 65 = .ok (.iload_n 1, 1) := by decide +kernel
theorem dX12_sheet_66 : decode cX12_sheet 66 = .ok (.iload_n 2, 1) := by decide +kernel
theorem dX12_sheet_67 : decode cX12_sheet 67 = .ok (.iastore, 1) := by decide +kernel
theorem dX12_sheet_68 : decode cX12_sheet 68 = .ok (.aload_n 0, 1) := by decide +kernel
theorem dX12_sheet_69 : decode cX12_sheet 69 = .ok (.getfield 71, 3) := by decide +kernel
theorem dX12_sheet_72 : decode cX12_sheet 72 = .ok (.iload_n 1, 1) := by decide +kernel
theorem dX12_sheet_73 : decode cX12_sheet 73 = .ok (.iload_n 2, 1) := by decide +kernel
theorem dX12_sheet_74 : decode cX12_sheet 74 = .ok (.ifCond .ne 7, 3) := by decide +kernel
theorem dX12_sheet_77 : decode cX12_sheet 77 = .ok (.iconst 0, 1) := by decide +kernel
theorem dX12_sheet_78 : decode cX12_sheet 78 = .ok (.goto 4, 3) := by decide +kernel
theorem dX12_sheet_81 : decode cX12_sheet 81 = .ok (.iload_n 3, 1) := by decide +kernel
theorem dX12_sheet_82 : decode cX12_sheet 82 = .ok (.iastore, 1) := by decide +kernel
theorem dX12_sheet_83 : decode cX12_sheet 83 = .ok (.iconst 0, 1) := by decide +kernel
theorem dX12_sheet_84 : decode cX12_sheet 84 = .ok (.istore 4, 2) := by decide +kernel
theorem dX12_sheet_86 : decode cX12_sheet 86 = .ok (.iload 4, 2) := by decide +kernel
theorem dX12_sheet_88 : decode cX12_sheet 88 = .ok (.bipush 40, 2) := by decide +kernel
theorem dX12_sheet_90 : decode cX12_sheet 90 = .ok (.if_icmp .ge 22, 3) := by decide +kernel
theorem dX12_sheet_93 : decode cX12_sheet 93 = .ok (.aload_n 0, 1) := by decide +kernel
theorem dX12_sheet_94 : decode cX12_sheet 94 = .ok (.getfield 74, 3) := by decide +kernel
theorem dX12_sheet_97 : decode cX12_sheet 97 = .ok (.bipush 40, 2) := by decide +kernel
theorem dX12_sheet_99 : decode cX12_sheet 99 = .ok (.iload_n 1, 1) := by decide +kernel
theorem dX12_sheet_100 : decode cX12_sheet 100 = .ok (.imul, 1) := by decide +kernel
theorem dX12_sheet_101 : decode cX12_sheet 101 = .ok (.iload 4, 2) := by decide +kernel
theorem dX12_sheet_103 : decode cX12_sheet 103 = .ok (.iadd, 1) := by decide +kernel
theorem dX12_sheet_104 : decode cX12_sheet 104 = .ok (.lconst 0, 1) := by decide +kernel
theorem dX12_sheet_105 : decode cX12_sheet 105 = .ok (.lastore, 1) := by decide +kernel
theorem dX12_sheet_106 : decode cX12_sheet 106 = .ok (.iinc 4 1, 3) := by decide +kernel
theorem dX12_sheet_109 : decode cX12_sheet 109 = .ok (.goto (-23), 3) := by decide +kernel
theorem dX12_sheet_112 : decode cX12_sheet 112 = .ok (.aload_n 0, 1) := by decide +kernel
theorem dX12_sheet_113 : decode cX12_sheet 113 = .ok (.getfield 71, 3) := by decide +kernel
theorem dX12_sheet_116 : decode cX12_sheet 116 = .ok (.iload_n 1, 1) := by decide +kernel
theorem dX12_sheet_117 : decode cX12_sheet 117 = .ok (.iaload, 1) := by decide +kernel
theorem dX12_sheet_118 : decode cX12_sheet 118 = .ok (.ireturn, 1) := by decide +kernel
def k_X12_sheet_0 (F : FT) (Q : QT) : KT := o_iload 1 (o_cS m_X12_isSheet 1 (o_ifeq (F 29) (o_iload 2 (o_ifeq (F 36) (o_iload 2 (o_ic (nI 8) (o_iceq (F 36) (o_iload 2 (o_ic (nI 16) (o_iceq (F 36) (o_iload 2 (o_ic (nI 64) (o_iceq (F 36) (F 29))))))))))))))
def k_X12_sheet_29 (F : FT) (Q : QT) : KT := o_aload 0 (o_ic (-1000000001) (o_cV 12 m_X12_finding 2 (o_iret Q)))
def k_X12_sheet_36 (F : FT) (Q : QT) : KT := o_iload 3 (o_ifge (F 48) (o_aload 0 (o_ic (-1000000007) (o_cV 12 m_X12_finding 2 (o_iret Q)))))
def k_X12_sheet_48 (F : FT) (Q : QT) : KT := o_iload 3 (o_ic (nI 40) (o_icle (F 61) (o_aload 0 (o_ic (-1000000001) (o_cV 12 m_X12_finding 2 (o_iret Q))))))
def k_X12_sheet_61 (F : FT) (Q : QT) : KT := o_aload 0 (o_getR 12 22 (o_iload 1 (o_iload 2 (o_iast (o_aload 0 (o_getR 12 23 (o_iload 1 (o_iload 2 (o_ifne (F 81) (o_ic (nI 0) (F 82)))))))))))
def k_X12_sheet_81 (F : FT) (Q : QT) : KT := o_iload 3 (F 82)
def k_X12_sheet_82 (F : FT) (Q : QT) : KT := o_iast (o_ic (nI 0) (o_istore 4 (F 86)))
def k_X12_sheet_86 (F : FT) (Q : QT) : KT := o_iload 4 (o_ic (nI 40) (o_icge (F 112) (o_aload 0 (o_getR 12 24 (o_ic (nI 40) (o_iload 1 (o_imul (o_iload 4 (o_iadd (o_lc (lN 0) (o_last (o_iinc 4 (nI 1) (F 86)))))))))))))
def k_X12_sheet_112 (F : FT) (Q : QT) : KT := o_aload 0 (o_getR 12 23 (o_iload 1 (o_iald (o_iret Q))))
set_option maxRecDepth 20000 in
theorem r_X12_sheet {a0 : Nat} {a1 : Int32} {a2 : Int32} {a3 : Int32} {n : Nat} {R : RR} {I : II} {J : JJ} {Q : QT} (hn : n + 0 ≤ 90) (h : ∀ F : FT, al_Wk F → al_Ok F (k_X12_sheet_0 F Q) 0 → al_Ok F (k_X12_sheet_29 F Q) 29 → al_Ok F (k_X12_sheet_36 F Q) 36 → al_Ok F (k_X12_sheet_48 F Q) 48 → al_Ok F (k_X12_sheet_61 F Q) 61 → al_Ok F (k_X12_sheet_81 F Q) 81 → al_Ok F (k_X12_sheet_82 F Q) 82 → al_Ok F (k_X12_sheet_86 F Q) 86 → al_Ok F (k_X12_sheet_112 F Q) 112 → F 0 [some (.ref a0), some (.int a1), some (.int a2), some (.int a3), none] [] n R I J) : CT m_X12_sheet 0 [.ref a0, .int a1, .int a2, .int a3] n R I J Q :=
  CT.of (by decide) hn (fun _ => rfl) (fun _ => Nat.le_of_ble_eq_true rfl) (fun F p l e s m args below meth c Rm t Q0 C hQ hr hm => h F (fun _ _ _ _ _ _ _ _ => S_wk C)
    (S_iload_n C dX12_sheet_0 rfl (S_cS C ok_X12_isSheet (al_at 1292 (by decide +kernel) rfl) (Nat.le_of_ble_eq_true rfl) (Nat.le_of_ble_eq_true rfl) dX12_sheet_1 (S_ifeq (tgt := 29) C dX12_sheet_4 (by decide) (S_iload_n C dX12_sheet_7 rfl (S_ifeq (tgt := 36) C dX12_sheet_8 (by decide) (S_iload_n C dX12_sheet_11 rfl (S_bipush C dX12_sheet_12 (by decide +kernel) (S_icmpeq (tgt := 36) C dX12_sheet_14 (by decide) (S_iload_n C dX12_sheet_17 rfl (S_bipush C dX12_sheet_18 (by decide +kernel) (S_icmpeq (tgt := 36) C dX12_sheet_20 (by decide) (S_iload_n C dX12_sheet_23 rfl (S_bipush C dX12_sheet_24 (by decide +kernel) (S_icmpeq (tgt := 36) C dX12_sheet_26 (by decide) (fun _ _ _ _ _ _ h9 => h9)))))))))))))))
    (S_aload_n C dX12_sheet_29 rfl (S_ldc C dX12_sheet_30 (al_at 1020 (by decide +kernel) rfl) (S_cV (ci := 12) C ok_X12_finding rfl (al_at 1021 (by decide +kernel) rfl) (Nat.le_of_ble_eq_true rfl) (Nat.le_of_ble_eq_true rfl) dX12_sheet_32 (S_iret C hQ hr dX12_sheet_35))))
    (S_iload_n C dX12_sheet_36 rfl (S_ifge (tgt := 48) C dX12_sheet_37 (by decide) (S_aload_n C dX12_sheet_40 rfl (S_ldcw C dX12_sheet_41 (al_at 1295 (by decide +kernel) rfl) (S_cV (ci := 12) C ok_X12_finding rfl (al_at 1021 (by decide +kernel) rfl) (Nat.le_of_ble_eq_true rfl) (Nat.le_of_ble_eq_true rfl) dX12_sheet_44 (S_iret C hQ hr dX12_sheet_47))))))
    (S_iload_n C dX12_sheet_48 rfl (S_bipush C dX12_sheet_49 (by decide +kernel) (S_icmple (tgt := 61) C dX12_sheet_51 (by decide) (S_aload_n C dX12_sheet_54 rfl (S_ldc C dX12_sheet_55 (al_at 1020 (by decide +kernel) rfl) (S_cV (ci := 12) C ok_X12_finding rfl (al_at 1021 (by decide +kernel) rfl) (Nat.le_of_ble_eq_true rfl) (Nat.le_of_ble_eq_true rfl) dX12_sheet_57 (S_iret C hQ hr dX12_sheet_60)))))))
    (S_aload_n C dX12_sheet_61 rfl (S_getR (ci := 12) (j := 22) C inG12 rfl (Nat.le_of_ble_eq_true rfl) rfl (al_at 940 (by decide +kernel) rfl) dX12_sheet_62 (S_iload_n C dX12_sheet_65 rfl (S_iload_n C dX12_sheet_66 rfl (S_iast C dX12_sheet_67 (S_aload_n C dX12_sheet_68 rfl (S_getR (ci := 12) (j := 23) C inG12 rfl (Nat.le_of_ble_eq_true rfl) rfl (al_at 941 (by decide +kernel) rfl) dX12_sheet_69 (S_iload_n C dX12_sheet_72 rfl (S_iload_n C dX12_sheet_73 rfl (S_ifne (tgt := 81) C dX12_sheet_74 (by decide) (S_iconst C dX12_sheet_77 (by decide +kernel) (S_goto (tgt := 82) C dX12_sheet_78 (by decide)))))))))))))
    (S_iload_n C dX12_sheet_81 rfl (fun _ _ _ _ _ _ h9 => h9))
    (S_iast C dX12_sheet_82 (S_iconst C dX12_sheet_83 (by decide +kernel) (S_istore C dX12_sheet_84 (Nat.le_of_ble_eq_true rfl) (fun _ _ _ _ _ _ h9 => h9))))
    (S_iload C dX12_sheet_86 (S_bipush C dX12_sheet_88 (by decide +kernel) (S_icmpge (tgt := 112) C dX12_sheet_90 (by decide) (S_aload_n C dX12_sheet_93 rfl (S_getR (ci := 12) (j := 24) C inG12 rfl (Nat.le_of_ble_eq_true rfl) rfl (al_at 942 (by decide +kernel) rfl) dX12_sheet_94 (S_bipush C dX12_sheet_97 (by decide +kernel) (S_iload_n C dX12_sheet_99 rfl (S_imul C dX12_sheet_100 (S_iload C dX12_sheet_101 (S_iadd C dX12_sheet_103 (S_lconst C dX12_sheet_104 (by decide +kernel) (S_last C dX12_sheet_105 (S_iinc C dX12_sheet_106 (by decide +kernel) (Nat.le_of_ble_eq_true rfl) (S_goto (tgt := 86) C dX12_sheet_109 (by decide)))))))))))))))
    (S_aload_n C dX12_sheet_112 rfl (S_getR (ci := 12) (j := 23) C inG12 rfl (Nat.le_of_ble_eq_true rfl) rfl (al_at 941 (by decide +kernel) rfl) dX12_sheet_113 (S_iload_n C dX12_sheet_116 rfl (S_iald C dX12_sheet_117 (S_iret C hQ hr dX12_sheet_118))))))
theorem dX12_spots_0 : decode cX12_spots 0 = .ok (.iload_n 1, 1) := by decide +kernel
theorem dX12_spots_1 : decode cX12_spots 1 = .ok (.iconst (-1), 1) := by decide +kernel
theorem dX12_spots_2 : decode cX12_spots 2 = .ok (.bipush 63, 2) := by decide +kernel
theorem dX12_spots_4 : decode cX12_spots 4 = .ok (.invokestatic 81, 3) := by decide +kernel
theorem dX12_spots_7 : decode cX12_spots 7 = .ok (.ifCond .ne 10, 3) := by decide +kernel
theorem dX12_spots_10 : decode cX12_spots 10 = .ok (.aload_n 0, 1) := by decide +kernel
theorem dX12_spots_11 : decode cX12_spots 11 = .ok (.ldc 80, 2) := by decide +kernel
theorem dX12_spots_13 : decode cX12_spots 13 = .ok (.invokevirtual 103, 3) := by decide +kernel
theorem dX12_spots_16 : decode cX12_spots 16 = .ok (.ireturn, 1) := by decide +kernel
theorem dX12_spots_17 : decode cX12_spots 17 = .ok (.aload_n 0, 1) := by decide +kernel
theorem dX12_spots_18 : decode cX12_spots 18 = .ok (.invokevirtual 215, 3) := by decide +kernel
theorem dX12_spots_21 : decode cX12_spots 21 = .ok (.istore_n 2, 1) := by decide +kernel
theorem dX12_spots_22 : decode cX12_spots 22 = .ok (.iload_n 1, 1) := by decide +kernel
theorem dX12_spots_23 : decode cX12_spots 23 = .ok (.ifCond .ge 7, 3) := by decide +kernel
theorem dX12_spots_26 : decode cX12_spots 26 = .ok (.iload_n 2, 1) := by decide +kernel
theorem dX12_spots_27 : decode cX12_spots 27 = .ok (.goto 23, 3) := by decide +kernel
theorem dX12_spots_30 : decode cX12_spots 30 = .ok (.iload_n 1, 1) := by decide +kernel
theorem dX12_spots_31 : decode cX12_spots 31 = .ok (.iload_n 2, 1) := by decide +kernel
theorem dX12_spots_32 : decode cX12_spots 32 = .ok (.if_icmp .ge 12, 3) := by decide +kernel
theorem dX12_spots_35 : decode cX12_spots 35 = .ok (.aload_n 0, 1) := by decide +kernel
theorem dX12_spots_36 : decode cX12_spots 36 = .ok (.getfield 23, 3) := by decide +kernel
theorem dX12_spots_39 : decode cX12_spots 39 = .ok (.iload_n 1, 1) := by decide +kernel
theorem dX12_spots_40 : decode cX12_spots 40 = .ok (.iaload, 1) := by decide +kernel
theorem dX12_spots_41 : decode cX12_spots 41 = .ok (.goto 9, 3) := by decide +kernel
theorem dX12_spots_44 : decode cX12_spots 44 = .ok (.aload_n 0, 1) := by decide +kernel
theorem dX12_spots_45 : decode cX12_spots 45 = .ok (.ldc 170, 2) := by decide +kernel
theorem dX12_spots_47 : decode cX12_spots 47 = .ok (.invokevirtual 103, 3) := by decide +kernel
theorem dX12_spots_50 : decode cX12_spots 50 = .ok (.ireturn, 1) := by decide +kernel
def k_X12_spots_0 (F : FT) (Q : QT) : KT := o_iload 1 (o_ic (-1) (o_ic (nI 63) (o_cS m_X12_within 3 (o_ifne (F 17) (o_aload 0 (o_ic (-1000000001) (o_cV 12 m_X12_finding 2 (o_iret Q))))))))
def k_X12_spots_17 (F : FT) (Q : QT) : KT := o_aload 0 (o_cV 12 m_X12_findSpots 1 (o_istore 2 (o_iload 1 (o_ifge (F 30) (o_iload 2 (F 50))))))
def k_X12_spots_30 (F : FT) (Q : QT) : KT := o_iload 1 (o_iload 2 (o_icge (F 44) (o_aload 0 (o_getR 12 7 (o_iload 1 (o_iald (F 50)))))))
def k_X12_spots_44 (F : FT) (Q : QT) : KT := o_aload 0 (o_ic (-1000000004) (o_cV 12 m_X12_finding 2 (F 50)))
def k_X12_spots_50 (F : FT) (Q : QT) : KT := o_iret Q
set_option maxRecDepth 20000 in
theorem r_X12_spots {a0 : Nat} {a1 : Int32} {n : Nat} {R : RR} {I : II} {J : JJ} {Q : QT} (hn : n + 0 ≤ 90) (h : ∀ F : FT, al_Wk F → al_Ok F (k_X12_spots_0 F Q) 0 → al_Ok F (k_X12_spots_17 F Q) 17 → al_Ok F (k_X12_spots_30 F Q) 30 → al_Ok F (k_X12_spots_44 F Q) 44 → al_Ok F (k_X12_spots_50 F Q) 50 → F 0 [some (.ref a0), some (.int a1), none] [] n R I J) : CT m_X12_spots 0 [.ref a0, .int a1] n R I J Q :=
  CT.of (by decide) hn (fun _ => rfl) (fun _ => Nat.le_of_ble_eq_true rfl) (fun F p l e s m args below meth c Rm t Q0 C hQ hr hm => h F (fun _ _ _ _ _ _ _ _ => S_wk C)
    (S_iload_n C dX12_spots_0 rfl (S_iconst C dX12_spots_1 (by decide +kernel) (S_bipush C dX12_spots_2 (by decide +kernel) (S_cS C ok_X12_within (al_at 1005 (by decide +kernel) rfl) (Nat.le_of_ble_eq_true rfl) (Nat.le_of_ble_eq_true rfl) dX12_spots_4 (S_ifne (tgt := 17) C dX12_spots_7 (by decide) (S_aload_n C dX12_spots_10 rfl (S_ldc C dX12_spots_11 (al_at 1020 (by decide +kernel) rfl) (S_cV (ci := 12) C ok_X12_finding rfl (al_at 1021 (by decide +kernel) rfl) (Nat.le_of_ble_eq_true rfl) (Nat.le_of_ble_eq_true rfl) dX12_spots_13 (S_iret C hQ hr dX12_spots_16)))))))))
    (S_aload_n C dX12_spots_17 rfl (S_cV (ci := 12) C ok_X12_findSpots rfl (al_at 1199 (by decide +kernel) rfl) (Nat.le_of_ble_eq_true rfl) (Nat.le_of_ble_eq_true rfl) dX12_spots_18 (S_istore_n C dX12_spots_21 rfl (Nat.le_of_ble_eq_true rfl) (S_iload_n C dX12_spots_22 rfl (S_ifge (tgt := 30) C dX12_spots_23 (by decide) (S_iload_n C dX12_spots_26 rfl (S_goto (tgt := 50) C dX12_spots_27 (by decide))))))))
    (S_iload_n C dX12_spots_30 rfl (S_iload_n C dX12_spots_31 rfl (S_icmpge (tgt := 44) C dX12_spots_32 (by decide) (S_aload_n C dX12_spots_35 rfl (S_getR (ci := 12) (j := 7) C inG12 rfl (Nat.le_of_ble_eq_true rfl) rfl (al_at 925 (by decide +kernel) rfl) dX12_spots_36 (S_iload_n C dX12_spots_39 rfl (S_iald C dX12_spots_40 (S_goto (tgt := 50) C dX12_spots_41 (by decide)))))))))
    (S_aload_n C dX12_spots_44 rfl (S_ldc C dX12_spots_45 (al_at 1145 (by decide +kernel) rfl) (S_cV (ci := 12) C ok_X12_finding rfl (al_at 1021 (by decide +kernel) rfl) (Nat.le_of_ble_eq_true rfl) (Nat.le_of_ble_eq_true rfl) dX12_spots_47 (fun _ _ _ _ _ _ h9 => h9))))
    (S_iret C hQ hr dX12_spots_50))
theorem dX12_square_0 : decode cX12_square 0 = .ok (.iload_n 1, 1) := by decide +kernel
theorem dX12_square_1 : decode cX12_square 1 = .ok (.invokestatic 93, 3) := by decide +kernel
theorem dX12_square_4 : decode cX12_square 4 = .ok (.ifCond .eq 20, 3) := by decide +kernel
theorem dX12_square_7 : decode cX12_square 7 = .ok (.aload_n 0, 1) := by decide +kernel
theorem dX12_square_8 : decode cX12_square 8 = .ok (.iload_n 2, 1) := by decide +kernel
theorem dX12_square_9 : decode cX12_square 9 = .ok (.invokevirtual 97, 3) := by decide +kernel
theorem dX12_square_12 : decode cX12_square 12 = .ok (.ifCond .eq 12, 3) := by decide +kernel
theorem dX12_square_15 : decode cX12_square 15 = .ok (.aload_n 0, 1) := by decide +kernel
theorem dX12_square_16 : decode cX12_square 16 = .ok (.iload_n 1, 1) := by decide +kernel
theorem dX12_square_17 : decode cX12_square 17 = .ok (.iload_n 2, 1) := by decide +kernel
theorem dX12_square_18 : decode cX12_square 18 = .ok (.invokevirtual 100, 3) := by decide +kernel
theorem dX12_square_21 : decode cX12_square 21 = .ok (.goto 9, 3) := by decide +kernel
theorem dX12_square_24 : decode cX12_square 24 = .ok (.aload_n 0, 1) := by decide +kernel
theorem dX12_square_25 : decode cX12_square 25 = .ok (.ldc 80, 2) := by decide +kernel
theorem dX12_square_27 : decode cX12_square 27 = .ok (.invokevirtual 103, 3) := by decide +kernel
theorem dX12_square_30 : decode cX12_square 30 = .ok (.ireturn, 1) := by decide +kernel
def k_X12_square_0 (F : FT) (Q : QT) : KT := o_iload 1 (o_cS m_X12_isSquare 1 (o_ifeq (F 24) (o_aload 0 (o_iload 2 (o_cV 12 m_X12_isSort 2 (o_ifeq (F 24) (o_aload 0 (o_iload 1 (o_iload 2 (o_cV 12 m_X12_stands 3 (F 30)))))))))))
def k_X12_square_24 (F : FT) (Q : QT) : KT := o_aload 0 (o_ic (-1000000001) (o_cV 12 m_X12_finding 2 (F 30)))
def k_X12_square_30 (F : FT) (Q : QT) : KT := o_iret Q
set_option maxRecDepth 20000 in
theorem r_X12_square {a0 : Nat} {a1 : Int32} {a2 : Int32} {n : Nat} {R : RR} {I : II} {J : JJ} {Q : QT} (hn : n + 0 ≤ 90) (h : ∀ F : FT, al_Wk F → al_Ok F (k_X12_square_0 F Q) 0 → al_Ok F (k_X12_square_24 F Q) 24 → al_Ok F (k_X12_square_30 F Q) 30 → F 0 [some (.ref a0), some (.int a1), some (.int a2)] [] n R I J) : CT m_X12_square 0 [.ref a0, .int a1, .int a2] n R I J Q :=
  CT.of (by decide) hn (fun _ => rfl) (fun _ => Nat.le_of_ble_eq_true rfl) (fun F p l e s m args below meth c Rm t Q0 C hQ hr hm => h F (fun _ _ _ _ _ _ _ _ => S_wk C)
    (S_iload_n C dX12_square_0 rfl (S_cS C ok_X12_isSquare (al_at 1002 (by decide +kernel) rfl) (Nat.le_of_ble_eq_true rfl) (Nat.le_of_ble_eq_true rfl) dX12_square_1 (S_ifeq (tgt := 24) C dX12_square_4 (by decide) (S_aload_n C dX12_square_7 rfl (S_iload_n C dX12_square_8 rfl (S_cV (ci := 12) C ok_X12_isSort rfl (al_at 1008 (by decide +kernel) rfl) (Nat.le_of_ble_eq_true rfl) (Nat.le_of_ble_eq_true rfl) dX12_square_9 (S_ifeq (tgt := 24) C dX12_square_12 (by decide) (S_aload_n C dX12_square_15 rfl (S_iload_n C dX12_square_16 rfl (S_iload_n C dX12_square_17 rfl (S_cV (ci := 12) C ok_X12_stands rfl (al_at 1012 (by decide +kernel) rfl) (Nat.le_of_ble_eq_true rfl) (Nat.le_of_ble_eq_true rfl) dX12_square_18 (S_goto (tgt := 30) C dX12_square_21 (by decide)))))))))))))
    (S_aload_n C dX12_square_24 rfl (S_ldc C dX12_square_25 (al_at 1020 (by decide +kernel) rfl) (S_cV (ci := 12) C ok_X12_finding rfl (al_at 1021 (by decide +kernel) rfl) (Nat.le_of_ble_eq_true rfl) (Nat.le_of_ble_eq_true rfl) dX12_square_27 (fun _ _ _ _ _ _ h9 => h9))))
    (S_iret C hQ hr dX12_square_30))
theorem dX12_stands_0 : decode cX12_stands 0 = .ok (.aload_n 0, 1) := by decide +kernel
theorem dX12_stands_1 : decode cX12_stands 1 = .ok (.aload_n 0, 1) := by decide +kernel
theorem dX12_stands_2 : decode cX12_stands 2 = .ok (.getfield 85, 3) := by decide +kernel
theorem dX12_stands_5 : decode cX12_stands 5 = .ok (.ifCond .eq 17, 3) := by decide +kernel
theorem dX12_stands_8 : decode cX12_stands 8 = .ok (.aload_n 0, 1) := by decide +kernel
theorem dX12_stands_9 : decode cX12_stands 9 = .ok (.getfield 9, 3) := by decide +kernel
theorem dX12_stands_12 : decode cX12_stands 12 = .ok (.iload_n 1, 1) := by decide +kernel
theorem dX12_stands_13 : decode cX12_stands 13 = .ok (.iaload, 1) := by decide +kernel
theorem dX12_stands_14 : decode cX12_stands 14 = .ok (.iload_n 2, 1) := by decide +kernel
theorem dX12_stands_15 : decode cX12_stands 15 = .ok (.if_icmp .ne 7, 3) := by decide +kernel
theorem dX12_stands_18 : decode cX12_stands 18 = .ok (.iconst 1, 1) := by decide +kernel
theorem dX12_stands_19 : decode cX12_stands 19 = .ok (.goto 4, 3) := by decide +kernel
theorem dX12_stands_22 : decode cX12_stands 22 = .ok (.iconst 0, 1) := by decide +kernel
theorem dX12_stands_23 : decode cX12_stands 23 = .ok (.putfield 85, 3) := by decide +kernel
theorem dX12_stands_26 : decode cX12_stands 26 = .ok (.aload_n 0, 1) := by decide +kernel
theorem dX12_stands_27 : decode cX12_stands 27 = .ok (.iload_n 1, 1) := by decide +kernel
theorem dX12_stands_28 : decode cX12_stands 28 = .ok (.iload_n 2, 1) := by decide +kernel
theorem dX12_stands_29 : decode cX12_stands 29 = .ok (.invokevirtual 89, 3) := by decide +kernel
theorem dX12_stands_32 : decode cX12_stands 32 = .ok (.ireturn, 1) := by decide +kernel
def k_X12_stands_0 (F : FT) (Q : QT) : KT := o_aload 0 (o_aload 0 (o_getI 12 5 (o_ifeq (F 22) (o_aload 0 (o_getR 12 0 (o_iload 1 (o_iald (o_iload 2 (o_icne (F 22) (o_ic (nI 1) (F 23)))))))))))
def k_X12_stands_22 (F : FT) (Q : QT) : KT := o_ic (nI 0) (F 23)
def k_X12_stands_23 (F : FT) (Q : QT) : KT := o_putZ 12 5 (o_aload 0 (o_iload 1 (o_iload 2 (o_cV 12 m_X12_become 3 (o_iret Q)))))
set_option maxRecDepth 20000 in
theorem r_X12_stands {a0 : Nat} {a1 : Int32} {a2 : Int32} {n : Nat} {R : RR} {I : II} {J : JJ} {Q : QT} (hn : n + 0 ≤ 90) (h : ∀ F : FT, al_Wk F → al_Ok F (k_X12_stands_0 F Q) 0 → al_Ok F (k_X12_stands_22 F Q) 22 → al_Ok F (k_X12_stands_23 F Q) 23 → F 0 [some (.ref a0), some (.int a1), some (.int a2)] [] n R I J) : CT m_X12_stands 0 [.ref a0, .int a1, .int a2] n R I J Q :=
  CT.of (by decide) hn (fun _ => rfl) (fun _ => Nat.le_of_ble_eq_true rfl) (fun F p l e s m args below meth c Rm t Q0 C hQ hr hm => h F (fun _ _ _ _ _ _ _ _ => S_wk C)
    (S_aload_n C dX12_stands_0 rfl (S_aload_n C dX12_stands_1 rfl (S_getZ (ci := 12) (j := 5) C inG12 rfl (Nat.le_of_ble_eq_true rfl) rfl (al_at 923 (by decide +kernel) rfl) dX12_stands_2 (S_ifeq (tgt := 22) C dX12_stands_5 (by decide) (S_aload_n C dX12_stands_8 rfl (S_getR (ci := 12) (j := 0) C inG12 rfl (Nat.le_of_ble_eq_true rfl) rfl (al_at 918 (by decide +kernel) rfl) dX12_stands_9 (S_iload_n C dX12_stands_12 rfl (S_iald C dX12_stands_13 (S_iload_n C dX12_stands_14 rfl (S_icmpne (tgt := 22) C dX12_stands_15 (by decide) (S_iconst C dX12_stands_18 (by decide +kernel) (S_goto (tgt := 23) C dX12_stands_19 (by decide)))))))))))))
    (S_iconst C dX12_stands_22 (by decide +kernel) (fun _ _ _ _ _ _ h9 => h9))
    (S_putZ (ci := 12) (j := 5) C inG12 rfl (Nat.le_of_ble_eq_true rfl) tyX12 tyX12_ok nmX12 rfl rfl (tyX12_ok 5 (Nat.le_of_ble_eq_true rfl)) (al_at 923 (by decide +kernel) rfl) dX12_stands_23 (S_aload_n C dX12_stands_26 rfl (S_iload_n C dX12_stands_27 rfl (S_iload_n C dX12_stands_28 rfl (S_cV (ci := 12) C ok_X12_become rfl (al_at 1016 (by decide +kernel) rfl) (Nat.le_of_ble_eq_true rfl) (Nat.le_of_ble_eq_true rfl) dX12_stands_29 (S_iret C hQ hr dX12_stands_32)))))))
theorem dX12_standsAt_0 : decode cX12_standsAt 0 = .ok (.iload_n 1, 1) := by decide +kernel
theorem dX12_standsAt_1 : decode cX12_standsAt 1 = .ok (.iconst 0, 1) := by decide +kernel
theorem dX12_standsAt_2 : decode cX12_standsAt 2 = .ok (.bipush 7, 2) := by decide +kernel
theorem dX12_standsAt_4 : decode cX12_standsAt 4 = .ok (.invokestatic 81, 3) := by decide +kernel
theorem dX12_standsAt_7 : decode cX12_standsAt 7 = .ok (.ifCond .eq 27, 3) := by decide +kernel
theorem dX12_standsAt_10 : decode cX12_standsAt 10 = .ok (.iload_n 2, 1) := by decide +kernel
theorem dX12_standsAt_11 : decode cX12_standsAt 11 = .ok (.iconst 0, 1) := by decide +kernel
theorem dX12_standsAt_12 : decode cX12_standsAt 12 = .ok (.bipush 7, 2) := by decide +kernel
theorem dX12_standsAt_14 : decode cX12_standsAt 14 = .ok (.invokestatic 81, 3) := by decide +kernel
theorem dX12_standsAt_17 : decode cX12_standsAt 17 = .ok (.ifCond .eq 17, 3) := by decide +kernel
theorem dX12_standsAt_20 : decode cX12_standsAt 20 = .ok (.aload_n 0, 1) := by decide +kernel
theorem dX12_standsAt_21 : decode cX12_standsAt 21 = .ok (.getfield 9, 3) := by decide +kernel
theorem dX12_standsAt_24 : decode cX12_standsAt 24 = .ok (.bipush 8, 2) := by decide +kernel
theorem dX12_standsAt_26 : decode cX12_standsAt 26 = .ok (.iload_n 1, 1) := by decide +kernel
theorem dX12_standsAt_27 : decode cX12_standsAt 27 = .ok (.imul, 1) := by decide +kernel
theorem dX12_standsAt_28 : decode cX12_standsAt 28 = .ok (.iload_n 2, 1) := by decide +kernel
theorem dX12_standsAt_29 : decode cX12_standsAt 29 = .ok (.iadd, 1) := by decide +kernel
theorem dX12_standsAt_30 : decode cX12_standsAt 30 = .ok (.iaload, 1) := by decide +kernel
theorem dX12_standsAt_31 : decode cX12_standsAt 31 = .ok (.goto 4, 3) := by decide +kernel
theorem dX12_standsAt_34 : decode cX12_standsAt 34 = .ok (.iconst (-1), 1) := by decide +kernel
theorem dX12_standsAt_35 : decode cX12_standsAt 35 = .ok (.ireturn, 1) := by decide +kernel
def k_X12_standsAt_0 (F : FT) (Q : QT) : KT := o_iload 1 (o_ic (nI 0) (o_ic (nI 7) (o_cS m_X12_within 3 (o_ifeq (F 34) (o_iload 2 (o_ic (nI 0) (o_ic (nI 7) (o_cS m_X12_within 3 (o_ifeq (F 34) (o_aload 0 (o_getR 12 0 (o_ic (nI 8) (o_iload 1 (o_imul (o_iload 2 (o_iadd (o_iald (F 35))))))))))))))))))
def k_X12_standsAt_34 (F : FT) (Q : QT) : KT := o_ic (-1) (F 35)
def k_X12_standsAt_35 (F : FT) (Q : QT) : KT := o_iret Q
set_option maxRecDepth 20000 in
theorem r_X12_standsAt {a0 : Nat} {a1 : Int32} {a2 : Int32} {n : Nat} {R : RR} {I : II} {J : JJ} {Q : QT} (hn : n + 0 ≤ 90) (h : ∀ F : FT, al_Wk F → al_Ok F (k_X12_standsAt_0 F Q) 0 → al_Ok F (k_X12_standsAt_34 F Q) 34 → al_Ok F (k_X12_standsAt_35 F Q) 35 → F 0 [some (.ref a0), some (.int a1), some (.int a2)] [] n R I J) : CT m_X12_standsAt 0 [.ref a0, .int a1, .int a2] n R I J Q :=
  CT.of (by decide) hn (fun _ => rfl) (fun _ => Nat.le_of_ble_eq_true rfl) (fun F p l e s m args below meth c Rm t Q0 C hQ hr hm => h F (fun _ _ _ _ _ _ _ _ => S_wk C)
    (S_iload_n C dX12_standsAt_0 rfl (S_iconst C dX12_standsAt_1 (by decide +kernel) (S_bipush C dX12_standsAt_2 (by decide +kernel) (S_cS C ok_X12_within (al_at 1005 (by decide +kernel) rfl) (Nat.le_of_ble_eq_true rfl) (Nat.le_of_ble_eq_true rfl) dX12_standsAt_4 (S_ifeq (tgt := 34) C dX12_standsAt_7 (by decide) (S_iload_n C dX12_standsAt_10 rfl (S_iconst C dX12_standsAt_11 (by decide +kernel) (S_bipush C dX12_standsAt_12 (by decide +kernel) (S_cS C ok_X12_within (al_at 1005 (by decide +kernel) rfl) (Nat.le_of_ble_eq_true rfl) (Nat.le_of_ble_eq_true rfl) dX12_standsAt_14 (S_ifeq (tgt := 34) C dX12_standsAt_17 (by decide) (S_aload_n C dX12_standsAt_20 rfl (S_getR (ci := 12) (j := 0) C inG12 rfl (Nat.le_of_ble_eq_true rfl) rfl (al_at 918 (by decide +kernel) rfl) dX12_standsAt_21 (S_bipush C dX12_standsAt_24 (by decide +kernel) (S_iload_n C dX12_standsAt_26 rfl (S_imul C dX12_standsAt_27 (S_iload_n C dX12_standsAt_28 rfl (S_iadd C dX12_standsAt_29 (S_iald C dX12_standsAt_30 (S_goto (tgt := 35) C dX12_standsAt_31 (by decide))))))))))))))))))))
    (S_iconst C dX12_standsAt_34 (by decide +kernel) (fun _ _ _ _ _ _ h9 => h9))
    (S_iret C hQ hr dX12_standsAt_35))
theorem dX12_status_0 : decode cX12_status 0 = .ok (.iload_n 1, 1) := by decide +kernel
theorem dX12_status_1 : decode cX12_status 1 = .ok (.iconst (-1), 1) := by decide +kernel
theorem dX12_status_2 : decode cX12_status 2 = .ok (.bipush 6, 2) := by decide +kernel
theorem dX12_status_4 : decode cX12_status 4 = .ok (.invokestatic 81, 3) := by decide +kernel
theorem dX12_status_7 : decode cX12_status 7 = .ok (.ifCond .eq 14, 3) := by decide +kernel
theorem dX12_status_10 : decode cX12_status 10 = .ok (.aload_n 0, 1) := by decide +kernel
theorem dX12_status_11 : decode cX12_status 11 = .ok (.getfield 16, 3) := by decide +kernel
theorem dX12_status_14 : decode cX12_status 14 = .ok (.iload_n 1, 1) := by decide +kernel
theorem dX12_status_15 : decode cX12_status 15 = .ok (.iconst 1, 1) := by decide +kernel
theorem dX12_status_16 : decode cX12_status 16 = .ok (.iadd, 1) := by decide +kernel
theorem dX12_status_17 : decode cX12_status 17 = .ok (.iaload, 1) := by decide +kernel
theorem dX12_status_18 : decode cX12_status 18 = .ok (.goto 9, 3) := by decide +kernel
theorem dX12_status_21 : decode cX12_status 21 = .ok (.aload_n 0, 1) := by decide +kernel
theorem dX12_status_22 : decode cX12_status 22 = .ok (.ldc 80, 2) := by decide +kernel
theorem dX12_status_24 : decode cX12_status 24 = .ok (.invokevirtual 103, 3) := by decide +kernel
theorem dX12_status_27 : decode cX12_status 27 = .ok (.ireturn, 1) := by decide +kernel
def k_X12_status_0 (F : FT) (Q : QT) : KT := o_iload 1 (o_ic (-1) (o_ic (nI 6) (o_cS m_X12_within 3 (o_ifeq (F 21) (o_aload 0 (o_getR 12 3 (o_iload 1 (o_ic (nI 1) (o_iadd (o_iald (F 27)))))))))))
def k_X12_status_21 (F : FT) (Q : QT) : KT := o_aload 0 (o_ic (-1000000001) (o_cV 12 m_X12_finding 2 (F 27)))
def k_X12_status_27 (F : FT) (Q : QT) : KT := o_iret Q
set_option maxRecDepth 20000 in
theorem r_X12_status {a0 : Nat} {a1 : Int32} {n : Nat} {R : RR} {I : II} {J : JJ} {Q : QT} (hn : n + 0 ≤ 90) (h : ∀ F : FT, al_Wk F → al_Ok F (k_X12_status_0 F Q) 0 → al_Ok F (k_X12_status_21 F Q) 21 → al_Ok F (k_X12_status_27 F Q) 27 → F 0 [some (.ref a0), some (.int a1)] [] n R I J) : CT m_X12_status 0 [.ref a0, .int a1] n R I J Q :=
  CT.of (by decide) hn (fun _ => rfl) (fun _ => Nat.le_of_ble_eq_true rfl) (fun F p l e s m args below meth c Rm t Q0 C hQ hr hm => h F (fun _ _ _ _ _ _ _ _ => S_wk C)
    (S_iload_n C dX12_status_0 rfl (S_iconst C dX12_status_1 (by decide +kernel) (S_bipush C dX12_status_2 (by decide +kernel) (S_cS C ok_X12_within (al_at 1005 (by decide +kernel) rfl) (Nat.le_of_ble_eq_true rfl) (Nat.le_of_ble_eq_true rfl) dX12_status_4 (S_ifeq (tgt := 21) C dX12_status_7 (by decide) (S_aload_n C dX12_status_10 rfl (S_getR (ci := 12) (j := 3) C inG12 rfl (Nat.le_of_ble_eq_true rfl) rfl (al_at 921 (by decide +kernel) rfl) dX12_status_11 (S_iload_n C dX12_status_14 rfl (S_iconst C dX12_status_15 (by decide +kernel) (S_iadd C dX12_status_16 (S_iald C dX12_status_17 (S_goto (tgt := 27) C dX12_status_18 (by decide)))))))))))))
    (S_aload_n C dX12_status_21 rfl (S_ldc C dX12_status_22 (al_at 1020 (by decide +kernel) rfl) (S_cV (ci := 12) C ok_X12_finding rfl (al_at 1021 (by decide +kernel) rfl) (Nat.le_of_ble_eq_true rfl) (Nat.le_of_ble_eq_true rfl) dX12_status_24 (fun _ _ _ _ _ _ h9 => h9))))
    (S_iret C hQ hr dX12_status_27))
theorem dX12_taxOf_0 : decode cX12_taxOf 0 = .ok (.aload_n 0, 1) := by decide +kernel
theorem dX12_taxOf_1 : decode cX12_taxOf 1 = .ok (.iload_n 1, 1) := by decide +kernel
theorem dX12_taxOf_2 : decode cX12_taxOf 2 = .ok (.iconst 1, 1) := by decide +kernel
theorem dX12_taxOf_3 : decode cX12_taxOf 3 = .ok (.invokevirtual 145, 3) := by decide +kernel
theorem dX12_taxOf_6 : decode cX12_taxOf 6 = .ok (.aload_n 0, 1) := by decide +kernel
theorem dX12_taxOf_7 : decode cX12_taxOf 7 = .ok (.iload_n 1, 1) := by decide +kernel
theorem dX12_taxOf_8 : decode cX12_taxOf 8 = .ok (.invokevirtual 189, 3) := by decide +kernel
theorem dX12_taxOf_11 : decode cX12_taxOf 11 = .ok (.imul, 1) := by decide +kernel
theorem dX12_taxOf_12 : decode cX12_taxOf 12 = .ok (.ireturn, 1) := by decide +kernel
def k_X12_taxOf_0 (F : FT) (Q : QT) : KT := o_aload 0 (o_iload 1 (o_ic (nI 1) (o_cV 12 m_X12_houseIs 3 (o_aload 0 (o_iload 1 (o_cV 12 m_X12_allCounts 2 (o_imul (o_iret Q))))))))
set_option maxRecDepth 20000 in
theorem r_X12_taxOf {a0 : Nat} {a1 : Int32} {n : Nat} {R : RR} {I : II} {J : JJ} {Q : QT} (hn : n + 0 ≤ 90) (h : ∀ F : FT, al_Wk F → al_Ok F (k_X12_taxOf_0 F Q) 0 → F 0 [some (.ref a0), some (.int a1)] [] n R I J) : CT m_X12_taxOf 0 [.ref a0, .int a1] n R I J Q :=
  CT.of (by decide) hn (fun _ => rfl) (fun _ => Nat.le_of_ble_eq_true rfl) (fun F p l e s m args below meth c Rm t Q0 C hQ hr hm => h F (fun _ _ _ _ _ _ _ _ => S_wk C)
    (S_aload_n C dX12_taxOf_0 rfl (S_iload_n C dX12_taxOf_1 rfl (S_iconst C dX12_taxOf_2 (by decide +kernel) (S_cV (ci := 12) C ok_X12_houseIs rfl (al_at 1046 (by decide +kernel) rfl) (Nat.le_of_ble_eq_true rfl) (Nat.le_of_ble_eq_true rfl) dX12_taxOf_3 (S_aload_n C dX12_taxOf_6 rfl (S_iload_n C dX12_taxOf_7 rfl (S_cV (ci := 12) C ok_X12_allCounts rfl (al_at 1070 (by decide +kernel) rfl) (Nat.le_of_ble_eq_true rfl) (Nat.le_of_ble_eq_true rfl) dX12_taxOf_8 (S_imul C dX12_taxOf_11 (S_iret C hQ hr dX12_taxOf_12))))))))))
theorem dX12_tear_0 : decode cX12_tear 0 = .ok (.aload_n 0, 1) := by decide +kernel
theorem dX12_tear_1 : decode cX12_tear 1 = .ok (.getfield 313, 3) := by decide +kernel
theorem dX12_tear_4 : decode cX12_tear 4 = .ok (.ifCond .eq 7, 3) := by decide +kernel
theorem dX12_tear_7 : decode cX12_tear 7 = .ok (.iconst 1, 1) := by decide +kernel
theorem dX12_tear_8 : decode cX12_tear 8 = .ok (.goto 4, 3) := by decide +kernel
theorem dX12_tear_11 : decode cX12_tear 11 = .ok (.iconst 0, 1) := by decide +kernel
theorem dX12_tear_12 : decode cX12_tear 12 = .ok (.istore_n 1, 1) := by decide +kernel
theorem dX12_tear_13 : decode cX12_tear 13 = .ok (.aload_n 0, 1) := by decide +kernel
theorem dX12_tear_14 : decode cX12_tear 14 = .ok (.iconst 0, 1) := by decide +kernel
theorem dX12_tear_15 : decode cX12_tear 15 = .ok (.putfield 313, 3) := by decide +kernel
theorem dX12_tear_18 : decode cX12_tear 18 = .ok (.iload_n 1, 1) := by decide +kernel
theorem dX12_tear_19 : decode cX12_tear 19 = .ok (.ireturn, 1) := by decide +kernel
def k_X12_tear_0 (F : FT) (Q : QT) : KT := o_aload 0 (o_getI 12 2 (o_ifeq (F 11) (o_ic (nI 1) (F 12))))
def k_X12_tear_11 (F : FT) (Q : QT) : KT := o_ic (nI 0) (F 12)
def k_X12_tear_12 (F : FT) (Q : QT) : KT := o_istore 1 (o_aload 0 (o_ic (nI 0) (o_putZ 12 2 (o_iload 1 (o_iret Q)))))
set_option maxRecDepth 20000 in
theorem r_X12_tear {a0 : Nat} {n : Nat} {R : RR} {I : II} {J : JJ} {Q : QT} (hn : n + 0 ≤ 90) (h : ∀ F : FT, al_Wk F → al_Ok F (k_X12_tear_0 F Q) 0 → al_Ok F (k_X12_tear_11 F Q) 11 → al_Ok F (k_X12_tear_12 F Q) 12 → F 0 [some (.ref a0), none] [] n R I J) : CT m_X12_tear 0 [.ref a0] n R I J Q :=
  CT.of (by decide) hn (fun _ => rfl) (fun _ => Nat.le_of_ble_eq_true rfl) (fun F p l e s m args below meth c Rm t Q0 C hQ hr hm => h F (fun _ _ _ _ _ _ _ _ => S_wk C)
    (S_aload_n C dX12_tear_0 rfl (S_getZ (ci := 12) (j := 2) C inG12 rfl (Nat.le_of_ble_eq_true rfl) rfl (al_at 920 (by decide +kernel) rfl) dX12_tear_1 (S_ifeq (tgt := 11) C dX12_tear_4 (by decide) (S_iconst C dX12_tear_7 (by decide +kernel) (S_goto (tgt := 12) C dX12_tear_8 (by decide))))))
    (S_iconst C dX12_tear_11 (by decide +kernel) (fun _ _ _ _ _ _ h9 => h9))
    (S_istore_n C dX12_tear_12 rfl (Nat.le_of_ble_eq_true rfl) (S_aload_n C dX12_tear_13 rfl (S_iconst C dX12_tear_14 (by decide +kernel) (S_putZ (ci := 12) (j := 2) C inG12 rfl (Nat.le_of_ble_eq_true rfl) tyX12 tyX12_ok nmX12 rfl rfl (tyX12_ok 2 (Nat.le_of_ble_eq_true rfl)) (al_at 920 (by decide +kernel) rfl) dX12_tear_15 (S_iload_n C dX12_tear_18 rfl (S_iret C hQ hr dX12_tear_19)))))))
theorem dX12_turn_0 : decode cX12_turn 0 = .ok (.aload_n 0, 1) := by decide +kernel
theorem dX12_turn_1 : decode cX12_turn 1 = .ok (.iload_n 1, 1) := by decide +kernel
theorem dX12_turn_2 : decode cX12_turn 2 = .ok (.invokevirtual 142, 3) := by decide +kernel
theorem dX12_turn_5 : decode cX12_turn 5 = .ok (.ifCond .eq 28, 3) := by decide +kernel
theorem dX12_turn_8 : decode cX12_turn 8 = .ok (.iload_n 2, 1) := by decide +kernel
theorem dX12_turn_9 : decode cX12_turn 9 = .ok (.iconst 0, 1) := by decide +kernel
theorem dX12_turn_10 : decode cX12_turn 10 = .ok (.iconst 5, 1) := by decide +kernel
theorem dX12_turn_11 : decode cX12_turn 11 = .ok (.invokestatic 81, 3) := by decide +kernel
theorem dX12_turn_14 : decode cX12_turn 14 = .ok (.ifCond .eq 19, 3) := by decide +kernel
theorem dX12_turn_17 : decode cX12_turn 17 = .ok (.aload_n 0, 1) := by decide +kernel
theorem dX12_turn_18 : decode cX12_turn 18 = .ok (.bipush 64, 2) := by decide +kernel
theorem dX12_turn_20 : decode cX12_turn 20 = .ok (.iconst 5, 1) := by decide +kernel
theorem dX12_turn_21 : decode cX12_turn 21 = .ok (.iload_n 1, 1) := by decide +kernel
theorem dX12_turn_22 : decode cX12_turn 22 = .ok (.imul, 1) := by decide +kernel
theorem dX12_turn_23 : decode cX12_turn 23 = .ok (.iadd, 1) := by decide +kernel
theorem dX12_turn_24 : decode cX12_turn 24 = .ok (.iconst 0, 1) := by decide +kernel
theorem dX12_turn_25 : decode cX12_turn 25 = .ok (.iadd, 1) := by decide +kernel
theorem dX12_turn_26 : decode cX12_turn 26 = .ok (.iload_n 2, 1) := by decide +kernel
theorem dX12_turn_27 : decode cX12_turn 27 = .ok (.invokevirtual 89, 3) := by decide +kernel
theorem dX12_turn_30 : decode cX12_turn 30 = .ok (.goto 9, 3) := by decide +kernel
theorem dX12_turn_33 : decode cX12_turn 33 = .ok (.aload_n 0, 1) := by decide +kernel
theorem dX12_turn_34 : decode cX12_turn 34 = .ok (.ldc 80, 2) := by decide +kernel
theorem dX12_turn_36 : decode cX12_turn 36 = .ok (.invokevirtual 103, 3) := by decide +kernel
theorem dX12_turn_39 : decode cX12_turn 39 = .ok (.ireturn, 1) := by decide +kernel
def k_X12_turn_0 (F : FT) (Q : QT) : KT := o_aload 0 (o_iload 1 (o_cV 12 m_X12_isHouse 2 (o_ifeq (F 33) (o_iload 2 (o_ic (nI 0) (o_ic (nI 5) (o_cS m_X12_within 3 (o_ifeq (F 33) (o_aload 0 (o_ic (nI 64) (o_ic (nI 5) (o_iload 1 (o_imul (o_iadd (o_ic (nI 0) (o_iadd (o_iload 2 (o_cV 12 m_X12_become 3 (F 39)))))))))))))))))))
def k_X12_turn_33 (F : FT) (Q : QT) : KT := o_aload 0 (o_ic (-1000000001) (o_cV 12 m_X12_finding 2 (F 39)))
def k_X12_turn_39 (F : FT) (Q : QT) : KT := o_iret Q
set_option maxRecDepth 20000 in
theorem r_X12_turn {a0 : Nat} {a1 : Int32} {a2 : Int32} {n : Nat} {R : RR} {I : II} {J : JJ} {Q : QT} (hn : n + 0 ≤ 90) (h : ∀ F : FT, al_Wk F → al_Ok F (k_X12_turn_0 F Q) 0 → al_Ok F (k_X12_turn_33 F Q) 33 → al_Ok F (k_X12_turn_39 F Q) 39 → F 0 [some (.ref a0), some (.int a1), some (.int a2)] [] n R I J) : CT m_X12_turn 0 [.ref a0, .int a1, .int a2] n R I J Q :=
  CT.of (by decide) hn (fun _ => rfl) (fun _ => Nat.le_of_ble_eq_true rfl) (fun F p l e s m args below meth c Rm t Q0 C hQ hr hm => h F (fun _ _ _ _ _ _ _ _ => S_wk C)
    (S_aload_n C dX12_turn_0 rfl (S_iload_n C dX12_turn_1 rfl (S_cV (ci := 12) C ok_X12_isHouse rfl (al_at 1042 (by decide +kernel) rfl) (Nat.le_of_ble_eq_true rfl) (Nat.le_of_ble_eq_true rfl) dX12_turn_2 (S_ifeq (tgt := 33) C dX12_turn_5 (by decide) (S_iload_n C dX12_turn_8 rfl (S_iconst C dX12_turn_9 (by decide +kernel) (S_iconst C dX12_turn_10 (by decide +kernel) (S_cS C ok_X12_within (al_at 1005 (by decide +kernel) rfl) (Nat.le_of_ble_eq_true rfl) (Nat.le_of_ble_eq_true rfl) dX12_turn_11 (S_ifeq (tgt := 33) C dX12_turn_14 (by decide) (S_aload_n C dX12_turn_17 rfl (S_bipush C dX12_turn_18 (by decide +kernel) (S_iconst C dX12_turn_20 (by decide +kernel) (S_iload_n C dX12_turn_21 rfl (S_imul C dX12_turn_22 (S_iadd C dX12_turn_23 (S_iconst C dX12_turn_24 (by decide +kernel) (S_iadd C dX12_turn_25 (S_iload_n C dX12_turn_26 rfl (S_cV (ci := 12) C ok_X12_become rfl (al_at 1016 (by decide +kernel) rfl) (Nat.le_of_ble_eq_true rfl) (Nat.le_of_ble_eq_true rfl) dX12_turn_27 (S_goto (tgt := 39) C dX12_turn_30 (by decide)))))))))))))))))))))
    (S_aload_n C dX12_turn_33 rfl (S_ldc C dX12_turn_34 (al_at 1020 (by decide +kernel) rfl) (S_cV (ci := 12) C ok_X12_finding rfl (al_at 1021 (by decide +kernel) rfl) (Nat.le_of_ble_eq_true rfl) (Nat.le_of_ble_eq_true rfl) dX12_turn_36 (fun _ _ _ _ _ _ h9 => h9))))
    (S_iret C hQ hr dX12_turn_39))
theorem dX12_undo_0 : decode cX12_undo 0 = .ok (.aload_n 0, 1) := by decide +kernel
theorem dX12_undo_1 : decode cX12_undo 1 = .ok (.getfield 313, 3) := by decide +kernel
theorem dX12_undo_4 : decode cX12_undo 4 = .ok (.ifCond .ne 10, 3) := by decide +kernel
theorem dX12_undo_7 : decode cX12_undo 7 = .ok (.aload_n 0, 1) := by decide +kernel
theorem dX12_undo_8 : decode cX12_undo 8 = .ok (.ldc 170, 2) := by decide +kernel
theorem dX12_undo_10 : decode cX12_undo 10 = .ok (.invokevirtual 103, 3) := by decide +kernel
theorem dX12_undo_13 : decode cX12_undo 13 = .ok (.ireturn, 1) := by decide +kernel
theorem dX12_undo_14 : decode cX12_undo 14 = .ok (.aload_n 0, 1) := by decide +kernel
theorem dX12_undo_15 : decode cX12_undo 15 = .ok (.getfield 13, 3) := by decide +kernel
theorem dX12_undo_18 : decode cX12_undo 18 = .ok (.aload_n 0, 1) := by decide +kernel
theorem dX12_undo_19 : decode cX12_undo 19 = .ok (.getfield 9, 3) := by decide +kernel
theorem dX12_undo_22 : decode cX12_undo 22 = .ok (.invokestatic 309, 3) := by decide +kernel
theorem dX12_undo_25 : decode cX12_undo 25 = .ok (.aload_n 0, 1) := by decide +kernel
theorem dX12_undo_26 : decode cX12_undo 26 = .ok (.iconst 0, 1) := by decide +kernel
theorem dX12_undo_27 : decode cX12_undo 27 = .ok (.putfield 85, 3) := by decide +kernel
theorem dX12_undo_30 : decode cX12_undo 30 = .ok (.aload_n 0, 1) := by decide +kernel
theorem dX12_undo_31 : decode cX12_undo 31 = .ok (.getfield 9, 3) := by decide +kernel
theorem dX12_undo_34 : decode cX12_undo 34 = .ok (.sipush 142, 3) := by decide +kernel
theorem dX12_undo_37 : decode cX12_undo 37 = .ok (.iaload, 1) := by decide +kernel
theorem dX12_undo_38 : decode cX12_undo 38 = .ok (.ireturn, 1) := by decide +kernel
def k_X12_undo_0 (F : FT) (Q : QT) : KT := o_aload 0 (o_getI 12 2 (o_ifne (F 14) (o_aload 0 (o_ic (-1000000004) (o_cV 12 m_X12_finding 2 (o_iret Q))))))
def k_X12_undo_14 (F : FT) (Q : QT) : KT := o_aload 0 (o_getR 12 1 (o_aload 0 (o_getR 12 0 (o_cS m_X12_copyRow 2 (o_aload 0 (o_ic (nI 0) (o_putZ 12 5 (o_aload 0 (o_getR 12 0 (o_ic (nI 142) (o_iald (o_iret Q))))))))))))
set_option maxRecDepth 20000 in
theorem r_X12_undo {a0 : Nat} {n : Nat} {R : RR} {I : II} {J : JJ} {Q : QT} (hn : n + 0 ≤ 90) (h : ∀ F : FT, al_Wk F → al_Ok F (k_X12_undo_0 F Q) 0 → al_Ok F (k_X12_undo_14 F Q) 14 → F 0 [some (.ref a0)] [] n R I J) : CT m_X12_undo 0 [.ref a0] n R I J Q :=
  CT.of (by decide) hn (fun _ => rfl) (fun _ => Nat.le_of_ble_eq_true rfl) (fun F p l e s m args below meth c Rm t Q0 C hQ hr hm => h F (fun _ _ _ _ _ _ _ _ => S_wk C)
    (S_aload_n C dX12_undo_0 rfl (S_getZ (ci := 12) (j := 2) C inG12 rfl (Nat.le_of_ble_eq_true rfl) rfl (al_at 920 (by decide +kernel) rfl) dX12_undo_1 (S_ifne (tgt := 14) C dX12_undo_4 (by decide) (S_aload_n C dX12_undo_7 rfl (S_ldc C dX12_undo_8 (al_at 1145 (by decide +kernel) rfl) (S_cV (ci := 12) C ok_X12_finding rfl (al_at 1021 (by decide +kernel) rfl) (Nat.le_of_ble_eq_true rfl) (Nat.le_of_ble_eq_true rfl) dX12_undo_10 (S_iret C hQ hr dX12_undo_13)))))))
    (S_aload_n C dX12_undo_14 rfl (S_getR (ci := 12) (j := 1) C inG12 rfl (Nat.le_of_ble_eq_true rfl) rfl (al_at 919 (by decide +kernel) rfl) dX12_undo_15 (S_aload_n C dX12_undo_18 rfl (S_getR (ci := 12) (j := 0) C inG12 rfl (Nat.le_of_ble_eq_true rfl) rfl (al_at 918 (by decide +kernel) rfl) dX12_undo_19 (S_cS C ok_X12_copyRow (al_at 1321 (by decide +kernel) rfl) (Nat.le_of_ble_eq_true rfl) (Nat.le_of_ble_eq_true rfl) dX12_undo_22 (S_aload_n C dX12_undo_25 rfl (S_iconst C dX12_undo_26 (by decide +kernel) (S_putZ (ci := 12) (j := 5) C inG12 rfl (Nat.le_of_ble_eq_true rfl) tyX12 tyX12_ok nmX12 rfl rfl (tyX12_ok 5 (Nat.le_of_ble_eq_true rfl)) (al_at 923 (by decide +kernel) rfl) dX12_undo_27 (S_aload_n C dX12_undo_30 rfl (S_getR (ci := 12) (j := 0) C inG12 rfl (Nat.le_of_ble_eq_true rfl) rfl (al_at 918 (by decide +kernel) rfl) dX12_undo_31 (S_sipush C dX12_undo_34 (by decide +kernel) (S_iald C dX12_undo_37 (S_iret C hQ hr dX12_undo_38))))))))))))))
theorem dX12_whose_0 : decode cX12_whose 0 = .ok (.iload_n 1, 1) := by decide +kernel
theorem dX12_whose_1 : decode cX12_whose 1 = .ok (.invokestatic 164, 3) := by decide +kernel
theorem dX12_whose_4 : decode cX12_whose 4 = .ok (.ifCond .eq 11, 3) := by decide +kernel
theorem dX12_whose_7 : decode cX12_whose 7 = .ok (.aload_n 0, 1) := by decide +kernel
theorem dX12_whose_8 : decode cX12_whose 8 = .ok (.iload_n 1, 1) := by decide +kernel
theorem dX12_whose_9 : decode cX12_whose 9 = .ok (.invokevirtual 183, 3) := by decide +kernel
theorem dX12_whose_12 : decode cX12_whose 12 = .ok (.goto 9, 3) := by decide +kernel
theorem dX12_whose_15 : decode cX12_whose 15 = .ok (.aload_n 0, 1) := by decide +kernel
theorem dX12_whose_16 : decode cX12_whose 16 = .ok (.ldc 80, 2) := by decide +kernel
theorem dX12_whose_18 : decode cX12_whose 18 = .ok (.invokevirtual 103, 3) := by decide +kernel
theorem dX12_whose_21 : decode cX12_whose 21 = .ok (.ireturn, 1) := by decide +kernel
def k_X12_whose_0 (F : FT) (Q : QT) : KT := o_iload 1 (o_cS m_X12_isPoint 1 (o_ifeq (F 15) (o_aload 0 (o_iload 1 (o_cV 12 m_X12_whoseIs 2 (F 21))))))
def k_X12_whose_15 (F : FT) (Q : QT) : KT := o_aload 0 (o_ic (-1000000001) (o_cV 12 m_X12_finding 2 (F 21)))
def k_X12_whose_21 (F : FT) (Q : QT) : KT := o_iret Q
set_option maxRecDepth 20000 in
theorem r_X12_whose {a0 : Nat} {a1 : Int32} {n : Nat} {R : RR} {I : II} {J : JJ} {Q : QT} (hn : n + 0 ≤ 90) (h : ∀ F : FT, al_Wk F → al_Ok F (k_X12_whose_0 F Q) 0 → al_Ok F (k_X12_whose_15 F Q) 15 → al_Ok F (k_X12_whose_21 F Q) 21 → F 0 [some (.ref a0), some (.int a1)] [] n R I J) : CT m_X12_whose 0 [.ref a0, .int a1] n R I J Q :=
  CT.of (by decide) hn (fun _ => rfl) (fun _ => Nat.le_of_ble_eq_true rfl) (fun F p l e s m args below meth c Rm t Q0 C hQ hr hm => h F (fun _ _ _ _ _ _ _ _ => S_wk C)
    (S_iload_n C dX12_whose_0 rfl (S_cS C ok_X12_isPoint (al_at 1134 (by decide +kernel) rfl) (Nat.le_of_ble_eq_true rfl) (Nat.le_of_ble_eq_true rfl) dX12_whose_1 (S_ifeq (tgt := 15) C dX12_whose_4 (by decide) (S_aload_n C dX12_whose_7 rfl (S_iload_n C dX12_whose_8 rfl (S_cV (ci := 12) C ok_X12_whoseIs rfl (al_at 1110 (by decide +kernel) rfl) (Nat.le_of_ble_eq_true rfl) (Nat.le_of_ble_eq_true rfl) dX12_whose_9 (S_goto (tgt := 21) C dX12_whose_12 (by decide))))))))
    (S_aload_n C dX12_whose_15 rfl (S_ldc C dX12_whose_16 (al_at 1020 (by decide +kernel) rfl) (S_cV (ci := 12) C ok_X12_finding rfl (al_at 1021 (by decide +kernel) rfl) (Nat.le_of_ble_eq_true rfl) (Nat.le_of_ble_eq_true rfl) dX12_whose_18 (fun _ _ _ _ _ _ h9 => h9))))
    (S_iret C hQ hr dX12_whose_21))
theorem dX12_whoseIs_0 : decode cX12_whoseIs 0 = .ok (.iconst 0, 1) := by decide +kernel
theorem dX12_whoseIs_1 : decode cX12_whoseIs 1 = .ok (.istore_n 2, 1) := by decide +kernel
theorem dX12_whoseIs_2 : decode cX12_whoseIs 2 = .ok (.iconst 0, 1) := by decide +kernel
theorem dX12_whoseIs_3 : decode cX12_whoseIs 3 = .ok (.istore_n 3, 1) := by decide +kernel
theorem dX12_whoseIs_4 : decode cX12_whoseIs 4 = .ok (.iload_n 3, 1) := by decide +kernel
theorem dX12_whoseIs_5 : decode cX12_whoseIs 5 = .ok (.aload_n 0, 1) := by decide +kernel
theorem dX12_whoseIs_6 : decode cX12_whoseIs 6 = .ok (.getfield 9, 3) := by decide +kernel
theorem dX12_whoseIs_9 : decode cX12_whoseIs 9 = .ok (.sipush 142, 3) := by decide +kernel
theorem dX12_whoseIs_12 : decode cX12_whoseIs 12 = .ok (.iaload, 1) := by decide +kernel
theorem dX12_whoseIs_13 : decode cX12_whoseIs 13 = .ok (.if_icmp .ge 28, 3) := by decide +kernel
theorem dX12_whoseIs_16 : decode cX12_whoseIs 16 = .ok (.iload_n 2, 1) := by decide +kernel
theorem dX12_whoseIs_17 : decode cX12_whoseIs 17 = .ok (.aload_n 0, 1) := by decide +kernel
theorem dX12_whoseIs_18 : decode cX12_whoseIs 18 = .ok (.iload_n 3, 1) := by decide +kernel
theorem dX12_whoseIs_19 : decode cX12_whoseIs 19 = .ok (.iload_n 1, 1) := by decide +kernel
theorem dX12_whoseIs_20 : decode cX12_whoseIs 20 = .ok (.invokevirtual 161, 3) := by decide +kernel
theorem dX12_whoseIs_23 : decode cX12_whoseIs 23 = .ok (.ifCond .le 9, 3) := by decide +kernel
theorem dX12_whoseIs_26 : decode cX12_whoseIs 26 = .ok (.iconst 1, 1) := by decide +kernel
theorem dX12_whoseIs_27 : decode cX12_whoseIs 27 = .ok (.iload_n 3, 1) := by decide +kernel
theorem dX12_whoseIs_28 : decode cX12_whoseIs 28 = .ok (.ishl, 1) := by decide +kernel
theorem dX12_whoseIs_29 : decode cX12_whoseIs 29 = .ok (.goto 4, 3) := by decide +kernel
theorem dX12_whoseIs_32 : decode cX12_whoseIs 32 = .ok (.iconst 0, 1) := by decide +kernel
theorem dX12_whoseIs_33 : decode cX12_whoseIs 33 = .ok (.ior, 1) := by decide +kernel
theorem dX12_whoseIs_34 : decode cX12_whoseIs 34 = .ok (.istore_n 2, 1) := by decide +kernel
theorem dX12_whoseIs_35 : decode cX12_whoseIs 35 = .ok (.iinc 3 1, 3) := by decide +kernel
theorem dX12_whoseIs_38 : decode cX12_whoseIs 38 = .ok (.goto (-34), 3) := by decide +kernel
theorem dX12_whoseIs_41 : decode cX12_whoseIs 41 = .ok (.iload_n 2, 1) := by decide +kernel
theorem dX12_whoseIs_42 : decode cX12_whoseIs 42 = .ok (.ireturn, 1) := by decide +kernel
def k_X12_whoseIs_0 (F : FT) (Q : QT) : KT := o_ic (nI 0) (o_istore 2 (o_ic (nI 0) (o_istore 3 (F 4))))
def k_X12_whoseIs_4 (F : FT) (Q : QT) : KT := o_iload 3 (o_aload 0 (o_getR 12 0 (o_ic (nI 142) (o_iald (o_icge (F 41) (o_iload 2 (o_aload 0 (o_iload 3 (o_iload 1 (o_cV 12 m_X12_cornerOf 3 (o_ifle (F 32) (o_ic (nI 1) (o_iload 3 (o_ishl (F 33)))))))))))))))
def k_X12_whoseIs_32 (F : FT) (Q : QT) : KT := o_ic (nI 0) (F 33)
def k_X12_whoseIs_33 (F : FT) (Q : QT) : KT := o_ior (o_istore 2 (o_iinc 3 (nI 1) (F 4)))
def k_X12_whoseIs_41 (F : FT) (Q : QT) : KT := o_iload 2 (o_iret Q)
set_option maxRecDepth 20000 in
theorem r_X12_whoseIs {a0 : Nat} {a1 : Int32} {n : Nat} {R : RR} {I : II} {J : JJ} {Q : QT} (hn : n + 0 ≤ 90) (h : ∀ F : FT, al_Wk F → al_Ok F (k_X12_whoseIs_0 F Q) 0 → al_Ok F (k_X12_whoseIs_4 F Q) 4 → al_Ok F (k_X12_whoseIs_32 F Q) 32 → al_Ok F (k_X12_whoseIs_33 F Q) 33 → al_Ok F (k_X12_whoseIs_41 F Q) 41 → F 0 [some (.ref a0), some (.int a1), none, none] [] n R I J) : CT m_X12_whoseIs 0 [.ref a0, .int a1] n R I J Q :=
  CT.of (by decide) hn (fun _ => rfl) (fun _ => Nat.le_of_ble_eq_true rfl) (fun F p l e s m args below meth c Rm t Q0 C hQ hr hm => h F (fun _ _ _ _ _ _ _ _ => S_wk C)
    (S_iconst C dX12_whoseIs_0 (by decide +kernel) (S_istore_n C dX12_whoseIs_1 rfl (Nat.le_of_ble_eq_true rfl) (S_iconst C dX12_whoseIs_2 (by decide +kernel) (S_istore_n C dX12_whoseIs_3 rfl (Nat.le_of_ble_eq_true rfl) (fun _ _ _ _ _ _ h9 => h9)))))
    (S_iload_n C dX12_whoseIs_4 rfl (S_aload_n C dX12_whoseIs_5 rfl (S_getR (ci := 12) (j := 0) C inG12 rfl (Nat.le_of_ble_eq_true rfl) rfl (al_at 918 (by decide +kernel) rfl) dX12_whoseIs_6 (S_sipush C dX12_whoseIs_9 (by decide +kernel) (S_iald C dX12_whoseIs_12 (S_icmpge (tgt := 41) C dX12_whoseIs_13 (by decide) (S_iload_n C dX12_whoseIs_16 rfl (S_aload_n C dX12_whoseIs_17 rfl (S_iload_n C dX12_whoseIs_18 rfl (S_iload_n C dX12_whoseIs_19 rfl (S_cV (ci := 12) C ok_X12_cornerOf rfl (al_at 1058 (by decide +kernel) rfl) (Nat.le_of_ble_eq_true rfl) (Nat.le_of_ble_eq_true rfl) dX12_whoseIs_20 (S_ifle (tgt := 32) C dX12_whoseIs_23 (by decide) (S_iconst C dX12_whoseIs_26 (by decide +kernel) (S_iload_n C dX12_whoseIs_27 rfl (S_ishl C dX12_whoseIs_28 (S_goto (tgt := 33) C dX12_whoseIs_29 (by decide)))))))))))))))))
    (S_iconst C dX12_whoseIs_32 (by decide +kernel) (fun _ _ _ _ _ _ h9 => h9))
    (S_ior C dX12_whoseIs_33 (S_istore_n C dX12_whoseIs_34 rfl (Nat.le_of_ble_eq_true rfl) (S_iinc C dX12_whoseIs_35 (by decide +kernel) (Nat.le_of_ble_eq_true rfl) (S_goto (tgt := 4) C dX12_whoseIs_38 (by decide)))))
    (S_iload_n C dX12_whoseIs_41 rfl (S_iret C hQ hr dX12_whoseIs_42)))
theorem dX12_wipe_0 : decode cX12_wipe 0 = .ok (.aload_n 0, 1) := by decide +kernel
theorem dX12_wipe_1 : decode cX12_wipe 1 = .ok (.getfield 225, 3) := by decide +kernel
theorem dX12_wipe_4 : decode cX12_wipe 4 = .ok (.istore_n 1, 1) := by decide +kernel
theorem dX12_wipe_5 : decode cX12_wipe 5 = .ok (.aload_n 0, 1) := by decide +kernel
theorem dX12_wipe_6 : decode cX12_wipe 6 = .ok (.iconst 0, 1) := by decide +kernel
theorem dX12_wipe_7 : decode cX12_wipe 7 = .ok (.putfield 225, 3) := by decide +kernel
theorem dX12_wipe_10 : decode cX12_wipe 10 = .ok (.iload_n 1, 1) := by decide +kernel
theorem dX12_wipe_11 : decode cX12_wipe 11 = .ok (.ireturn, 1) := by decide +kernel
def k_X12_wipe_0 (F : FT) (Q : QT) : KT := o_aload 0 (o_getI 12 10 (o_istore 1 (o_aload 0 (o_ic (nI 0) (o_putI 12 10 (o_iload 1 (o_iret Q)))))))
set_option maxRecDepth 20000 in
theorem r_X12_wipe {a0 : Nat} {n : Nat} {R : RR} {I : II} {J : JJ} {Q : QT} (hn : n + 0 ≤ 90) (h : ∀ F : FT, al_Wk F → al_Ok F (k_X12_wipe_0 F Q) 0 → F 0 [some (.ref a0), none] [] n R I J) : CT m_X12_wipe 0 [.ref a0] n R I J Q :=
  CT.of (by decide) hn (fun _ => rfl) (fun _ => Nat.le_of_ble_eq_true rfl) (fun F p l e s m args below meth c Rm t Q0 C hQ hr hm => h F (fun _ _ _ _ _ _ _ _ => S_wk C)
    (S_aload_n C dX12_wipe_0 rfl (S_getI (ci := 12) (j := 10) C inG12 rfl (Nat.le_of_ble_eq_true rfl) rfl (al_at 928 (by decide +kernel) rfl) dX12_wipe_1 (S_istore_n C dX12_wipe_4 rfl (Nat.le_of_ble_eq_true rfl) (S_aload_n C dX12_wipe_5 rfl (S_iconst C dX12_wipe_6 (by decide +kernel) (S_putI (ci := 12) (j := 10) C inG12 rfl (Nat.le_of_ble_eq_true rfl) tyX12 tyX12_ok nmX12 rfl rfl (tyX12_ok 10 (Nat.le_of_ble_eq_true rfl)) (al_at 928 (by decide +kernel) rfl) dX12_wipe_7 (S_iload_n C dX12_wipe_10 rfl (S_iret C hQ hr dX12_wipe_11)))))))))
theorem dX12_within_0 : decode cX12_within 0 = .ok (.iload_n 0, 1) := by decide +kernel
theorem dX12_within_1 : decode cX12_within 1 = .ok (.iload_n 1, 1) := by decide +kernel
theorem dX12_within_2 : decode cX12_within 2 = .ok (.if_icmp .lt 12, 3) := by decide +kernel
theorem dX12_within_5 : decode cX12_within 5 = .ok (.iload_n 0, 1) := by decide +kernel
theorem dX12_within_6 : decode cX12_within 6 = .ok (.iload_n 2, 1) := by decide +kernel
theorem dX12_within_7 : decode cX12_within 7 = .ok (.if_icmp .gt 7, 3) := by decide +kernel
theorem dX12_within_10 : decode cX12_within 10 = .ok (.iconst 1, 1) := by decide +kernel
theorem dX12_within_11 : decode cX12_within 11 = .ok (.goto 4, 3) := by decide +kernel
theorem dX12_within_14 : decode cX12_within 14 = .ok (.iconst 0, 1) := by decide +kernel
theorem dX12_within_15 : decode cX12_within 15 = .ok (.ireturn, 1) := by decide +kernel
def k_X12_within_0 (F : FT) (Q : QT) : KT := o_iload 0 (o_iload 1 (o_iclt (F 14) (o_iload 0 (o_iload 2 (o_icgt (F 14) (o_ic (nI 1) (F 15)))))))
def k_X12_within_14 (F : FT) (Q : QT) : KT := o_ic (nI 0) (F 15)
def k_X12_within_15 (F : FT) (Q : QT) : KT := o_zret Q
set_option maxRecDepth 20000 in
theorem r_X12_within {a0 : Int32} {a1 : Int32} {a2 : Int32} {n : Nat} {R : RR} {I : II} {J : JJ} {Q : QT} (hn : n + 0 ≤ 90) (h : ∀ F : FT, al_Wk F → al_Ok F (k_X12_within_0 F Q) 0 → al_Ok F (k_X12_within_14 F Q) 14 → al_Ok F (k_X12_within_15 F Q) 15 → F 0 [some (.int a0), some (.int a1), some (.int a2)] [] n R I J) : CT m_X12_within 0 [.int a0, .int a1, .int a2] n R I J Q :=
  CT.of (by decide) hn (fun _ => rfl) (fun _ => Nat.le_of_ble_eq_true rfl) (fun F p l e s m args below meth c Rm t Q0 C hQ hr hm => h F (fun _ _ _ _ _ _ _ _ => S_wk C)
    (S_iload_n C dX12_within_0 rfl (S_iload_n C dX12_within_1 rfl (S_icmplt (tgt := 14) C dX12_within_2 (by decide) (S_iload_n C dX12_within_5 rfl (S_iload_n C dX12_within_6 rfl (S_icmpgt (tgt := 14) C dX12_within_7 (by decide) (S_iconst C dX12_within_10 (by decide +kernel) (S_goto (tgt := 15) C dX12_within_11 (by decide)))))))))
    (S_iconst C dX12_within_14 (by decide +kernel) (fun _ _ _ _ _ _ h9 => h9))
    (S_zret C hQ hr dX12_within_15))
theorem dX12_write_0 : decode cX12_write 0 = .ok (.iload_n 1, 1) := by decide +kernel
theorem dX12_write_1 : decode cX12_write 1 = .ok (.invokestatic 298, 3) := by decide +kernel
theorem dX12_write_4 : decode cX12_write 4 = .ok (.ifCond .ne 11, 3) := by decide +kernel
theorem dX12_write_7 : decode cX12_write 7 = .ok (.aload_n 0, 1) := by decide +kernel
theorem dX12_write_8 : decode cX12_write 8 = .ok (.ldc 80, 2) := by decide +kernel
theorem dX12_write_10 : decode cX12_write 10 = .ok (.invokevirtual 103, 3) := by decide +kernel
theorem dX12_write_13 : decode cX12_write 13 = .ok (.i2l, 1) := by decide +kernel
theorem dX12_write_14 : decode cX12_write 14 = .ok (.lreturn, 1) := by decide +kernel
theorem dX12_write_15 : decode cX12_write 15 = .ok (.aload_n 0, 1) := by decide +kernel
theorem dX12_write_16 : decode cX12_write 16 = .ok (.getfield 68, 3) := by decide +kernel
theorem dX12_write_19 : decode cX12_write 19 = .ok (.iload_n 1, 1) := by decide +kernel
theorem dX12_write_20 : decode cX12_write 20 = .ok (.iaload, 1) := by decide +kernel
theorem dX12_write_21 : decode cX12_write 21 = .ok (.ifCond .ne 12, 3) := by decide +kernel
theorem dX12_write_24 : decode cX12_write 24 = .ok (.aload_n 0, 1) := by decide +kernel
theorem dX12_write_25 : decode cX12_write 25 = .ok (.ldc_w 302, 3) := by decide +kernel
theorem dX12_write_28 : decode cX12_write 28 = .ok (.invokevirtual 103, 3) := by decide +kernel
theorem dX12_write_31 : decode cX12_write 31 = .ok (.i2l, 1) := by decide +kernel
theorem dX12_write_32 : decode cX12_write 32 = .ok (.lreturn, 1) := by decide +kernel
theorem dX12_write_33 : decode cX12_write 33 = .ok (.iload_n 2, 1) := by decide +kernel
theorem dX12_write_34 : decode cX12_write 34 = .ok (.iconst 0, 1) := by decide +kernel
theorem dX12_write_35 : decode cX12_write 35 = .ok (.aload_n 0, 1) := by decide +kernel
theorem dX12_write_36 : decode cX12_write 36 = .ok (.getfield 71, 3) := by decide +kernel
theorem dX12_write_39 : decode cX12_write 39 = .ok (.iload_n 1, 1) := by decide +kernel
theorem dX12_write_40 : decode cX12_write 40 = .ok (.iaload, 1) := by decide +kernel
theorem dX12_write_41 : decode cX12_write 41 = .ok (.iconst 1, 1) := by decide +kernel
theorem dX12_write_42 : decode cX12_write 42 = .ok (.isub, 1) := by decide +kernel
theorem dX12_write_43 : decode cX12_write 43 = .ok (.invokestatic 81, 3) := by decide +kernel
theorem dX12_write_46 : decode cX12_write 46 = .ok (.ifCond .ne 11, 3) := by decide +kernel
theorem dX12_write_49 : decode cX12_write 49 = .ok (.aload_n 0, 1) := by decide +kernel
theorem dX12_write_50 : decode cX12_write 50 = .ok (.ldc 80, 2) := by decide +kernel
theorem dX12_write_52 : decode cX12_write 52 = .ok (.invokevirtual 103, 3) := by decide +kernel
theorem dX12_write_55 : decode cX12_write 55 = .ok (.i2l, 1) := by decide +kernel
theorem dX12_write_56 : decode cX12_write 56 = .ok (.lreturn, 1) := by decide +kernel
theorem dX12_write_57 : decode cX12_write 57 = .ok (.aload_n 0, 1) := by decide +kernel
theorem dX12_write_58 : decode cX12_write 58 = .ok (.getfield 74, 3) := by decide +kernel
theorem dX12_write_61 : decode cX12_write 61 = .ok (.bipush 40, 2) := by decide +kernel
theorem dX12_write_63 : decode cX12_write 63 = .ok (.iload_n 1, 1) := by decide +kernel
theorem dX12_write_64 : decode cX12_write 64 = .ok (.imul, 1) := by decide +kernel
theorem dX12_write_65 : decode cX12_write 65 = .ok (.iload_n 2, 1) := by decide +kernel
theorem dX12_write_66 : decode cX12_write 66 = .ok (.iadd, 1) := by decide +kernel
theorem dX12_write_67 : decode cX12_write 67 = .ok (.laload, 1) := by decide +kernel
theorem dX12_write_68 : decode cX12_write 68 = .ok (.lstore 5, 2) := by decide +kernel
theorem dX12_write_70 : decode cX12_write 70 = .ok (.aload_n 0, 1) := by decide +kernel
theorem dX12_write_71 : decode cX12_write 71 = .ok (.getfield 74, 3) := by decide +kernel
theorem dX12_write_74 : decode cX12_write 74 = .ok (.bipush 40, 2) := by decide +kernel
theorem dX12_write_76 : decode cX12_write 76 = .ok (.iload_n 1, 1) := by decide +kernel
theorem dX12_write_77 : decode cX12_write 77 = .ok (.imul, 1) := by decide +kernel
theorem dX12_write_78 : decode cX12_write 78 = .ok (.iload_n 2, 1) := by decide +kernel
theorem dX12_write_79 : decode cX12_write 79 = .ok (.iadd, 1) := by decide +kernel
theorem dX12_write_80 : decode cX12_write 80 = .ok (.lload_n 3, 1) := by decide +kernel
theorem dX12_write_81 : decode cX12_write 81 = .ok (.aload_n 0, 1) := by decide +kernel
theorem dX12_write_82 : decode cX12_write 82 = .ok (.getfield 68, 3) := by decide +kernel
theorem dX12_write_85 : decode cX12_write 85 = .ok (.iload_n 1, 1) := by decide +kernel
theorem dX12_write_86 : decode cX12_write 86 = .ok (.iaload, 1) := by decide +kernel
theorem dX12_write_87 : decode cX12_write 87 = .ok (.invokestatic 303, 3) := by decide +kernel
theorem dX12_write_90 : decode cX12_write 90 = .ok (.lastore, 1) := by decide +kernel
theorem dX12_write_91 : decode cX12_write 91 = .ok (.lload 5, 2) := by decide +kernel
theorem dX12_write_93 : decode cX12_write 93 = .ok (.lreturn, 1) := by decide +kernel
def k_X12_write_0 (F : FT) (Q : QT) : KT := o_iload 1 (o_cS m_X12_isSheet 1 (o_ifne (F 15) (o_aload 0 (o_ic (-1000000001) (o_cV 12 m_X12_finding 2 (o_i2l (o_lret Q)))))))
def k_X12_write_15 (F : FT) (Q : QT) : KT := o_aload 0 (o_getR 12 22 (o_iload 1 (o_iald (o_ifne (F 33) (o_aload 0 (o_ic (-1000000006) (o_cV 12 m_X12_finding 2 (o_i2l (o_lret Q)))))))))
def k_X12_write_33 (F : FT) (Q : QT) : KT := o_iload 2 (o_ic (nI 0) (o_aload 0 (o_getR 12 23 (o_iload 1 (o_iald (o_ic (nI 1) (o_isub (o_cS m_X12_within 3 (o_ifne (F 57) (o_aload 0 (o_ic (-1000000001) (o_cV 12 m_X12_finding 2 (o_i2l (o_lret Q))))))))))))))
def k_X12_write_57 (F : FT) (Q : QT) : KT := o_aload 0 (o_getR 12 24 (o_ic (nI 40) (o_iload 1 (o_imul (o_iload 2 (o_iadd (o_lald (o_lstore 5 (o_aload 0 (o_getR 12 24 (o_ic (nI 40) (o_iload 1 (o_imul (o_iload 2 (o_iadd (o_lload 3 (o_aload 0 (o_getR 12 22 (o_iload 1 (o_iald (o_cS m_X12_cutTo 2 (o_last (o_lload 5 (o_lret Q))))))))))))))))))))))))
set_option maxRecDepth 20000 in
theorem r_X12_write {a0 : Nat} {a1 : Int32} {a2 : Int32} {a3 : Int64} {n : Nat} {R : RR} {I : II} {J : JJ} {Q : QT} (hn : n + 0 ≤ 90) (h : ∀ F : FT, al_Wk F → al_Ok F (k_X12_write_0 F Q) 0 → al_Ok F (k_X12_write_15 F Q) 15 → al_Ok F (k_X12_write_33 F Q) 33 → al_Ok F (k_X12_write_57 F Q) 57 → F 0 [some (.ref a0), some (.int a1), some (.int a2), some (.long a3), none, none, none] [] n R I J) : CT m_X12_write 0 [.ref a0, .int a1, .int a2, .long a3] n R I J Q :=
  CT.of (by decide) hn (fun _ => rfl) (fun _ => Nat.le_of_ble_eq_true rfl) (fun F p l e s m args below meth c Rm t Q0 C hQ hr hm => h F (fun _ _ _ _ _ _ _ _ => S_wk C)
    (S_iload_n C dX12_write_0 rfl (S_cS C ok_X12_isSheet (al_at 1292 (by decide +kernel) rfl) (Nat.le_of_ble_eq_true rfl) (Nat.le_of_ble_eq_true rfl) dX12_write_1 (S_ifne (tgt := 15) C dX12_write_4 (by decide) (S_aload_n C dX12_write_7 rfl (S_ldc C dX12_write_8 (al_at 1020 (by decide +kernel) rfl) (S_cV (ci := 12) C ok_X12_finding rfl (al_at 1021 (by decide +kernel) rfl) (Nat.le_of_ble_eq_true rfl) (Nat.le_of_ble_eq_true rfl) dX12_write_10 (S_i2l C dX12_write_13 (S_lret C hQ hr dX12_write_14))))))))
    (S_aload_n C dX12_write_15 rfl (S_getR (ci := 12) (j := 22) C inG12 rfl (Nat.le_of_ble_eq_true rfl) rfl (al_at 940 (by decide +kernel) rfl) dX12_write_16 (S_iload_n C dX12_write_19 rfl (S_iald C dX12_write_20 (S_ifne (tgt := 33) C dX12_write_21 (by decide) (S_aload_n C dX12_write_24 rfl (S_ldcw C dX12_write_25 (al_at 1300 (by decide +kernel) rfl) (S_cV (ci := 12) C ok_X12_finding rfl (al_at 1021 (by decide +kernel) rfl) (Nat.le_of_ble_eq_true rfl) (Nat.le_of_ble_eq_true rfl) dX12_write_28 (S_i2l C dX12_write_31 (S_lret C hQ hr dX12_write_32))))))))))
    (S_iload_n C dX12_write_33 rfl (S_iconst C dX12_write_34 (by decide +kernel) (S_aload_n C dX12_write_35 rfl (S_getR (ci := 12) (j := 23) C inG12 rfl (Nat.le_of_ble_eq_true rfl) rfl (al_at 941 (by decide +kernel) rfl) dX12_write_36 (S_iload_n C dX12_write_39 rfl (S_iald C dX12_write_40 (S_iconst C dX12_write_41 (by decide +kernel) (S_isub C dX12_write_42 (S_cS C ok_X12_within (al_at 1005 (by decide +kernel) rfl) (Nat.le_of_ble_eq_true rfl) (Nat.le_of_ble_eq_true rfl) dX12_write_43 (S_ifne (tgt := 57) C dX12_write_46 (by decide) (S_aload_n C dX12_write_49 rfl (S_ldc C dX12_write_50 (al_at 1020 (by decide +kernel) rfl) (S_cV (ci := 12) C ok_X12_finding rfl (al_at 1021 (by decide +kernel) rfl) (Nat.le_of_ble_eq_true rfl) (Nat.le_of_ble_eq_true rfl) dX12_write_52 (S_i2l C dX12_write_55 (S_lret C hQ hr dX12_write_56)))))))))))))))
    (S_aload_n C dX12_write_57 rfl (S_getR (ci := 12) (j := 24) C inG12 rfl (Nat.le_of_ble_eq_true rfl) rfl (al_at 942 (by decide +kernel) rfl) dX12_write_58 (S_bipush C dX12_write_61 (by decide +kernel) (S_iload_n C dX12_write_63 rfl (S_imul C dX12_write_64 (S_iload_n C dX12_write_65 rfl (S_iadd C dX12_write_66 (S_lald C dX12_write_67 (S_lstore C dX12_write_68 (Nat.le_of_ble_eq_true rfl) (S_aload_n C dX12_write_70 rfl (S_getR (ci := 12) (j := 24) C inG12 rfl (Nat.le_of_ble_eq_true rfl) rfl (al_at 942 (by decide +kernel) rfl) dX12_write_71 (S_bipush C dX12_write_74 (by decide +kernel) (S_iload_n C dX12_write_76 rfl (S_imul C dX12_write_77 (S_iload_n C dX12_write_78 rfl (S_iadd C dX12_write_79 (S_lload_n C dX12_write_80 rfl (S_aload_n C dX12_write_81 rfl (S_getR (ci := 12) (j := 22) C inG12 rfl (Nat.le_of_ble_eq_true rfl) rfl (al_at 940 (by decide +kernel) rfl) dX12_write_82 (S_iload_n C dX12_write_85 rfl (S_iald C dX12_write_86 (S_cS C ok_X12_cutTo (al_at 1301 (by decide +kernel) rfl) (Nat.le_of_ble_eq_true rfl) (Nat.le_of_ble_eq_true rfl) dX12_write_87 (S_last C dX12_write_90 (S_lload C dX12_write_91 (S_lret C hQ hr dX12_write_93))))))))))))))))))))))))))
theorem dX12_yearOf_0 : decode cX12_yearOf 0 = .ok (.bipush 64, 2) := by decide +kernel
theorem dX12_yearOf_2 : decode cX12_yearOf 2 = .ok (.iconst 5, 1) := by decide +kernel
theorem dX12_yearOf_3 : decode cX12_yearOf 3 = .ok (.iload_n 1, 1) := by decide +kernel
theorem dX12_yearOf_4 : decode cX12_yearOf 4 = .ok (.imul, 1) := by decide +kernel
theorem dX12_yearOf_5 : decode cX12_yearOf 5 = .ok (.iadd, 1) := by decide +kernel
theorem dX12_yearOf_6 : decode cX12_yearOf 6 = .ok (.istore_n 2, 1) := by decide +kernel
theorem dX12_yearOf_7 : decode cX12_yearOf 7 = .ok (.aload_n 0, 1) := by decide +kernel
theorem dX12_yearOf_8 : decode cX12_yearOf 8 = .ok (.iload_n 1, 1) := by decide +kernel
theorem dX12_yearOf_9 : decode cX12_yearOf 9 = .ok (.invokevirtual 154, 3) := by decide +kernel
theorem dX12_yearOf_12 : decode cX12_yearOf 12 = .ok (.istore_n 3, 1) := by decide +kernel
theorem dX12_yearOf_13 : decode cX12_yearOf 13 = .ok (.iload_n 3, 1) := by decide +kernel
theorem dX12_yearOf_14 : decode cX12_yearOf 14 = .ok (.aload_n 0, 1) := by decide +kernel
theorem dX12_yearOf_15 : decode cX12_yearOf 15 = .ok (.getfield 9, 3) := by decide +kernel
theorem dX12_yearOf_18 : decode cX12_yearOf 18 = .ok (.iload_n 2, 1) := by decide +kernel
theorem dX12_yearOf_19 : decode cX12_yearOf 19 = .ok (.iconst 2, 1) := by decide +kernel
theorem dX12_yearOf_20 : decode cX12_yearOf 20 = .ok (.iadd, 1) := by decide +kernel
theorem dX12_yearOf_21 : decode cX12_yearOf 21 = .ok (.iaload, 1) := by decide +kernel
theorem dX12_yearOf_22 : decode cX12_yearOf 22 = .ok (.invokestatic 117, 3) := by decide +kernel
theorem dX12_yearOf_25 : decode cX12_yearOf 25 = .ok (.istore 4, 2) := by decide +kernel
theorem dX12_yearOf_27 : decode cX12_yearOf 27 = .ok (.aload_n 0, 1) := by decide +kernel
theorem dX12_yearOf_28 : decode cX12_yearOf 28 = .ok (.getfield 9, 3) := by decide +kernel
theorem dX12_yearOf_31 : decode cX12_yearOf 31 = .ok (.iload_n 2, 1) := by decide +kernel
theorem dX12_yearOf_32 : decode cX12_yearOf 32 = .ok (.iconst 2, 1) := by decide +kernel
theorem dX12_yearOf_33 : decode cX12_yearOf 33 = .ok (.iadd, 1) := by decide +kernel
theorem dX12_yearOf_34 : decode cX12_yearOf 34 = .ok (.dup2, 1) := by decide +kernel
theorem dX12_yearOf_35 : decode cX12_yearOf 35 = .ok (.iaload, 1) := by decide +kernel
theorem dX12_yearOf_36 : decode cX12_yearOf 36 = .ok (.iload 4, 2) := by decide +kernel
theorem dX12_yearOf_38 : decode cX12_yearOf 38 = .ok (.isub, 1) := by decide +kernel
theorem dX12_yearOf_39 : decode cX12_yearOf 39 = .ok (.iastore, 1) := by decide +kernel
theorem dX12_yearOf_40 : decode cX12_yearOf 40 = .ok (.aload_n 0, 1) := by decide +kernel
theorem dX12_yearOf_41 : decode cX12_yearOf 41 = .ok (.getfield 9, 3) := by decide +kernel
theorem dX12_yearOf_44 : decode cX12_yearOf 44 = .ok (.iload_n 2, 1) := by decide +kernel
theorem dX12_yearOf_45 : decode cX12_yearOf 45 = .ok (.iconst 3, 1) := by decide +kernel
theorem dX12_yearOf_46 : decode cX12_yearOf 46 = .ok (.iadd, 1) := by decide +kernel
theorem dX12_yearOf_47 : decode cX12_yearOf 47 = .ok (.dup2, 1) := by decide +kernel
theorem dX12_yearOf_48 : decode cX12_yearOf 48 = .ok (.iaload, 1) := by decide +kernel
theorem dX12_yearOf_49 : decode cX12_yearOf 49 = .ok (.iload_n 3, 1) := by decide +kernel
theorem dX12_yearOf_50 : decode cX12_yearOf 50 = .ok (.iload 4, 2) := by decide +kernel
theorem dX12_yearOf_52 : decode cX12_yearOf 52 = .ok (.isub, 1) := by decide +kernel
theorem dX12_yearOf_53 : decode cX12_yearOf 53 = .ok (.iadd, 1) := by decide +kernel
theorem dX12_yearOf_54 : decode cX12_yearOf 54 = .ok (.iastore, 1) := by decide +kernel
theorem dX12_yearOf_55 : decode cX12_yearOf 55 = .ok (.aload_n 0, 1) := by decide +kernel
theorem dX12_yearOf_56 : decode cX12_yearOf 56 = .ok (.iload_n 1, 1) := by decide +kernel
theorem dX12_yearOf_57 : decode cX12_yearOf 57 = .ok (.invokevirtual 219, 3) := by decide +kernel
theorem dX12_yearOf_60 : decode cX12_yearOf 60 = .ok (.istore 5, 2) := by decide +kernel
theorem dX12_yearOf_62 : decode cX12_yearOf 62 = .ok (.aload_n 0, 1) := by decide +kernel
theorem dX12_yearOf_63 : decode cX12_yearOf 63 = .ok (.getfield 9, 3) := by decide +kernel
theorem dX12_yearOf_66 : decode cX12_yearOf 66 = .ok (.iload_n 2, 1) := by decide +kernel
theorem dX12_yearOf_67 : decode cX12_yearOf 67 = .ok (.iconst 2, 1) := by decide +kernel
theorem dX12_yearOf_68 : decode cX12_yearOf 68 = .ok (.iadd, 1) := by decide +kernel
theorem dX12_yearOf_69 : decode cX12_yearOf 69 = .ok (.iaload, 1) := by decide +kernel
theorem dX12_yearOf_70 : decode cX12_yearOf 70 = .ok (.bipush 40, 2) := by decide +kernel
theorem dX12_yearOf_72 : decode cX12_yearOf 72 = .ok (.if_icmp .lt 41, 3) := by decide +kernel
theorem dX12_yearOf_75 : decode cX12_yearOf 75 = .ok (.aload_n 0, 1) := by decide +kernel
theorem dX12_yearOf_76 : decode cX12_yearOf 76 = .ok (.getfield 9, 3) := by decide +kernel
theorem dX12_yearOf_79 : decode cX12_yearOf 79 = .ok (.iload_n 2, 1) := by decide +kernel
theorem dX12_yearOf_80 : decode cX12_yearOf 80 = .ok (.iconst 4, 1) := by decide +kernel
theorem dX12_yearOf_81 : decode cX12_yearOf 81 = .ok (.iadd, 1) := by decide +kernel
theorem dX12_yearOf_82 : decode cX12_yearOf 82 = .ok (.iaload, 1) := by decide +kernel
theorem dX12_yearOf_83 : decode cX12_yearOf 83 = .ok (.bipush 8, 2) := by decide +kernel
theorem dX12_yearOf_85 : decode cX12_yearOf 85 = .ok (.if_icmp .ge 28, 3) := by decide +kernel
theorem dX12_yearOf_88 : decode cX12_yearOf 88 = .ok (.iload 5, 2) := by decide +kernel
theorem dX12_yearOf_90 : decode cX12_yearOf 90 = .ok (.ifCond .lt 23, 3) := by decide +kernel
theorem dX12_yearOf_93 : decode cX12_yearOf 93 = .ok (.aload_n 0, 1) := by decide +kernel
theorem dX12_yearOf_94 : decode cX12_yearOf 94 = .ok (.iload_n 1, 1) := by decide +kernel
theorem dX12_yearOf_95 : decode cX12_yearOf 95 = .ok (.iload 5, 2) := by decide +kernel
theorem dX12_yearOf_97 : decode cX12_yearOf 97 = .ok (.invokevirtual 192, 3) := by decide +kernel
theorem dX12_yearOf_100 : decode cX12_yearOf 100 = .ok (.aload_n 0, 1) := by decide +kernel
theorem dX12_yearOf_101 : decode cX12_yearOf 101 = .ok (.getfield 9, 3) := by decide +kernel
theorem dX12_yearOf_104 : decode cX12_yearOf 104 = .ok (.iload_n 2, 1) := by decide +kernel
theorem dX12_yearOf_105 : decode cX12_yearOf 105 = .ok (.iconst 2, 1) := by decide +kernel
theorem dX12_yearOf_106 : decode cX12_yearOf 106 = .ok (.iadd, 1) := by decide +kernel
theorem dX12_yearOf_107 : decode cX12_yearOf 107 = .ok (.dup2, 1) := by decide +kernel
theorem dX12_yearOf_108 : decode cX12_yearOf 108 = .ok (.iaload, 1) := by decide +kernel
theorem dX12_yearOf_109 : decode cX12_yearOf 109 = .ok (.bipush 40, 2) := by decide +kernel
theorem dX12_yearOf_111 : decode cX12_yearOf 111 = .ok (.isub, 1) := by decide +kernel
theorem dX12_yearOf_112 : decode cX12_yearOf 112 = .ok (.iastore, 1) := by decide +kernel
theorem dX12_yearOf_113 : decode cX12_yearOf 113 = .ok (.iload 4, 2) := by decide +kernel
theorem dX12_yearOf_115 : decode cX12_yearOf 115 = .ok (.ireturn, 1) := by decide +kernel
def k_X12_yearOf_0 (F : FT) (Q : QT) : KT := o_ic (nI 64) (o_ic (nI 5) (o_iload 1 (o_imul (o_iadd (o_istore 2 (o_aload 0 (o_iload 1 (o_cV 12 m_X12_taxOf 2 (o_istore 3 (o_iload 3 (o_aload 0 (o_getR 12 0 (o_iload 2 (o_ic (nI 2) (o_iadd (o_iald (o_mmin (o_istore 4 (o_aload 0 (o_getR 12 0 (o_iload 2 (o_ic (nI 2) (o_iadd (o_dup2 (o_iald (o_iload 4 (o_isub (o_iast (o_aload 0 (o_getR 12 0 (o_iload 2 (o_ic (nI 3) (o_iadd (o_dup2 (o_iald (o_iload 3 (o_iload 4 (o_isub (o_iadd (o_iast (o_aload 0 (o_iload 1 (o_cV 12 m_X12_bestToRound 2 (o_istore 5 (o_aload 0 (o_getR 12 0 (o_iload 2 (o_ic (nI 2) (o_iadd (o_iald (o_ic (nI 40) (o_iclt (F 113) (o_aload 0 (o_getR 12 0 (o_iload 2 (o_ic (nI 4) (o_iadd (o_iald (o_ic (nI 8) (o_icge (F 113) (o_iload 5 (o_iflt (F 113) (o_aload 0 (o_iload 1 (o_iload 5 (o_cV 12 m_X12_rounds 3 (o_aload 0 (o_getR 12 0 (o_iload 2 (o_ic (nI 2) (o_iadd (o_dup2 (o_iald (o_ic (nI 40) (o_isub (o_iast (F 113)))))))))))))))))))))))))))))))))))))))))))))))))))))))))))))))))))))))))))))
def k_X12_yearOf_113 (F : FT) (Q : QT) : KT := o_iload 4 (o_iret Q)
set_option maxRecDepth 20000 in
theorem r_X12_yearOf {a0 : Nat} {a1 : Int32} {n : Nat} {R : RR} {I : II} {J : JJ} {Q : QT} (hn : n + 0 ≤ 90) (h : ∀ F : FT, al_Wk F → al_Ok F (k_X12_yearOf_0 F Q) 0 → al_Ok F (k_X12_yearOf_113 F Q) 113 → F 0 [some (.ref a0), some (.int a1), none, none, none, none] [] n R I J) : CT m_X12_yearOf 0 [.ref a0, .int a1] n R I J Q :=
  CT.of (by decide) hn (fun _ => rfl) (fun _ => Nat.le_of_ble_eq_true rfl) (fun F p l e s m args below meth c Rm t Q0 C hQ hr hm => h F (fun _ _ _ _ _ _ _ _ => S_wk C)
    (S_bipush C dX12_yearOf_0 (by decide +kernel) (S_iconst C dX12_yearOf_2 (by decide +kernel) (S_iload_n C dX12_yearOf_3 rfl (S_imul C dX12_yearOf_4 (S_iadd C dX12_yearOf_5 (S_istore_n C dX12_yearOf_6 rfl (Nat.le_of_ble_eq_true rfl) (S_aload_n C dX12_yearOf_7 rfl (S_iload_n C dX12_yearOf_8 rfl (S_cV (ci := 12) C ok_X12_taxOf rfl (al_at 1066 (by decide +kernel) rfl) (Nat.le_of_ble_eq_true rfl) (Nat.le_of_ble_eq_true rfl) dX12_yearOf_9 (S_istore_n C dX12_yearOf_12 rfl (Nat.le_of_ble_eq_true rfl) (S_iload_n C dX12_yearOf_13 rfl (S_aload_n C dX12_yearOf_14 rfl (S_getR (ci := 12) (j := 0) C inG12 rfl (Nat.le_of_ble_eq_true rfl) rfl (al_at 918 (by decide +kernel) rfl) dX12_yearOf_15 (S_iload_n C dX12_yearOf_18 rfl (S_iconst C dX12_yearOf_19 (by decide +kernel) (S_iadd C dX12_yearOf_20 (S_iald C dX12_yearOf_21 (S_mmin C (al_at 1098 (by decide +kernel) rfl) (al_at 658 (by decide +kernel) rfl) (al_at 73 (by decide +kernel) rfl) (al_at 659 (by decide +kernel) rfl) (Nat.le_of_ble_eq_true rfl) (Nat.le_of_ble_eq_true rfl) dX12_yearOf_22 (S_istore C dX12_yearOf_25 (Nat.le_of_ble_eq_true rfl) (S_aload_n C dX12_yearOf_27 rfl (S_getR (ci := 12) (j := 0) C inG12 rfl (Nat.le_of_ble_eq_true rfl) rfl (al_at 918 (by decide +kernel) rfl) dX12_yearOf_28 (S_iload_n C dX12_yearOf_31 rfl (S_iconst C dX12_yearOf_32 (by decide +kernel) (S_iadd C dX12_yearOf_33 (S_dup2 C dX12_yearOf_34 (S_iald C dX12_yearOf_35 (S_iload C dX12_yearOf_36 (S_isub C dX12_yearOf_38 (S_iast C dX12_yearOf_39 (S_aload_n C dX12_yearOf_40 rfl (S_getR (ci := 12) (j := 0) C inG12 rfl (Nat.le_of_ble_eq_true rfl) rfl (al_at 918 (by decide +kernel) rfl) dX12_yearOf_41 (S_iload_n C dX12_yearOf_44 rfl (S_iconst C dX12_yearOf_45 (by decide +kernel) (S_iadd C dX12_yearOf_46 (S_dup2 C dX12_yearOf_47 (S_iald C dX12_yearOf_48 (S_iload_n C dX12_yearOf_49 rfl (S_iload C dX12_yearOf_50 (S_isub C dX12_yearOf_52 (S_iadd C dX12_yearOf_53 (S_iast C dX12_yearOf_54 (S_aload_n C dX12_yearOf_55 rfl (S_iload_n C dX12_yearOf_56 rfl (S_cV (ci := 12) C ok_X12_bestToRound rfl (al_at 1227 (by decide +kernel) rfl) (Nat.le_of_ble_eq_true rfl) (Nat.le_of_ble_eq_true rfl) dX12_yearOf_57 (S_istore C dX12_yearOf_60 (Nat.le_of_ble_eq_true rfl) (S_aload_n C dX12_yearOf_62 rfl (S_getR (ci := 12) (j := 0) C inG12 rfl (Nat.le_of_ble_eq_true rfl) rfl (al_at 918 (by decide +kernel) rfl) dX12_yearOf_63 (S_iload_n C dX12_yearOf_66 rfl (S_iconst C dX12_yearOf_67 (by decide +kernel) (S_iadd C dX12_yearOf_68 (S_iald C dX12_yearOf_69 (S_bipush C dX12_yearOf_70 (by decide +kernel) (S_icmplt (tgt := 113) C dX12_yearOf_72 (by decide) (S_aload_n C dX12_yearOf_75 rfl (S_getR (ci := 12) (j := 0) C inG12 rfl (Nat.le_of_ble_eq_true rfl) rfl (al_at 918 (by decide +kernel) rfl) dX12_yearOf_76 (S_iload_n C dX12_yearOf_79 rfl (S_iconst C dX12_yearOf_80 (by decide +kernel) (S_iadd C dX12_yearOf_81 (S_iald C dX12_yearOf_82 (S_bipush C dX12_yearOf_83 (by decide +kernel) (S_icmpge (tgt := 113) C dX12_yearOf_85 (by decide) (S_iload C dX12_yearOf_88 (S_iflt (tgt := 113) C dX12_yearOf_90 (by decide) (S_aload_n C dX12_yearOf_93 rfl (S_iload_n C dX12_yearOf_94 rfl (S_iload C dX12_yearOf_95 (S_cV (ci := 12) C ok_X12_rounds rfl (al_at 1167 (by decide +kernel) rfl) (Nat.le_of_ble_eq_true rfl) (Nat.le_of_ble_eq_true rfl) dX12_yearOf_97 (S_aload_n C dX12_yearOf_100 rfl (S_getR (ci := 12) (j := 0) C inG12 rfl (Nat.le_of_ble_eq_true rfl) rfl (al_at 918 (by decide +kernel) rfl) dX12_yearOf_101 (S_iload_n C dX12_yearOf_104 rfl (S_iconst C dX12_yearOf_105 (by decide +kernel) (S_iadd C dX12_yearOf_106 (S_dup2 C dX12_yearOf_107 (S_iald C dX12_yearOf_108 (S_bipush C dX12_yearOf_109 (by decide +kernel) (S_isub C dX12_yearOf_111 (S_iast C dX12_yearOf_112 (fun _ _ _ _ _ _ h9 => h9))))))))))))))))))))))))))))))))))))))))))))))))))))))))))))))))))))))))))))))
    (S_iload C dX12_yearOf_113 (S_iret C hQ hr dX12_yearOf_115)))
theorem dX12_years_0 : decode cX12_years 0 = .ok (.iload_n 1, 1) := by decide +kernel
theorem dX12_years_1 : decode cX12_years 1 = .ok (.iconst 1, 1) := by decide +kernel
theorem dX12_years_2 : decode cX12_years 2 = .ok (.bipush 20, 2) := by decide +kernel
theorem dX12_years_4 : decode cX12_years 4 = .ok (.invokestatic 81, 3) := by decide +kernel
theorem dX12_years_7 : decode cX12_years 7 = .ok (.ifCond .ne 10, 3) := by decide +kernel
theorem dX12_years_10 : decode cX12_years 10 = .ok (.aload_n 0, 1) := by decide +kernel
theorem dX12_years_11 : decode cX12_years 11 = .ok (.ldc 80, 2) := by decide +kernel
theorem dX12_years_13 : decode cX12_years 13 = .ok (.invokevirtual 103, 3) := by decide +kernel
theorem dX12_years_16 : decode cX12_years 16 = .ok (.ireturn, 1) := by decide +kernel
theorem dX12_years_17 : decode cX12_years 17 = .ok (.iconst 0, 1) := by decide +kernel
theorem dX12_years_18 : decode cX12_years 18 = .ok (.istore_n 2, 1) := by decide +kernel
theorem dX12_years_19 : decode cX12_years 19 = .ok (.iconst 0, 1) := by decide +kernel
theorem dX12_years_20 : decode cX12_years 20 = .ok (.istore_n 3, 1) := by decide +kernel
theorem dX12_years_21 : decode cX12_years 21 = .ok (.iload_n 3, 1) := by decide +kernel
theorem dX12_years_22 : decode cX12_years 22 = .ok (.iload_n 1, 1) := by decide +kernel
theorem dX12_years_23 : decode cX12_years 23 = .ok (.if_icmp .ge 40, 3) := by decide +kernel
theorem dX12_years_26 : decode cX12_years 26 = .ok (.iconst 0, 1) := by decide +kernel
theorem dX12_years_27 : decode cX12_years 27 = .ok (.istore 4, 2) := by decide +kernel
theorem dX12_years_29 : decode cX12_years 29 = .ok (.iload 4, 2) := by decide +kernel
theorem dX12_years_31 : decode cX12_years 31 = .ok (.aload_n 0, 1) := by decide +kernel
theorem dX12_years_32 : decode cX12_years 32 = .ok (.getfield 9, 3) := by decide +kernel
theorem dX12_years_35 : decode cX12_years 35 = .ok (.sipush 142, 3) := by decide +kernel
theorem dX12_years_38 : decode cX12_years 38 = .ok (.iaload, 1) := by decide +kernel
theorem dX12_years_39 : decode cX12_years 39 = .ok (.if_icmp .ge 18, 3) := by decide +kernel
theorem dX12_years_42 : decode cX12_years 42 = .ok (.iload_n 2, 1) := by decide +kernel
theorem dX12_years_43 : decode cX12_years 43 = .ok (.aload_n 0, 1) := by decide +kernel
theorem dX12_years_44 : decode cX12_years 44 = .ok (.iload 4, 2) := by decide +kernel
theorem dX12_years_46 : decode cX12_years 46 = .ok (.invokevirtual 222, 3) := by decide +kernel
theorem dX12_years_49 : decode cX12_years 49 = .ok (.iadd, 1) := by decide +kernel
theorem dX12_years_50 : decode cX12_years 50 = .ok (.istore_n 2, 1) := by decide +kernel
theorem dX12_years_51 : decode cX12_years 51 = .ok (.iinc 4 1, 3) := by decide +kernel
theorem dX12_years_54 : decode cX12_years 54 = .ok (.goto (-25), 3) := by decide +kernel
theorem dX12_years_57 : decode cX12_years 57 = .ok (.iinc 3 1, 3) := by decide +kernel
theorem dX12_years_60 : decode cX12_years 60 = .ok (.goto (-39), 3) := by decide +kernel
theorem dX12_years_63 : decode cX12_years 63 = .ok (.iload_n 2, 1) := by decide +kernel
theorem dX12_years_64 : decode cX12_years 64 = .ok (.ireturn, 1) := by decide +kernel
def k_X12_years_0 (F : FT) (Q : QT) : KT := o_iload 1 (o_ic (nI 1) (o_ic (nI 20) (o_cS m_X12_within 3 (o_ifne (F 17) (o_aload 0 (o_ic (-1000000001) (o_cV 12 m_X12_finding 2 (o_iret Q))))))))
def k_X12_years_17 (F : FT) (Q : QT) : KT := o_ic (nI 0) (o_istore 2 (o_ic (nI 0) (o_istore 3 (F 21))))
def k_X12_years_21 (F : FT) (Q : QT) : KT := o_iload 3 (o_iload 1 (o_icge (F 63) (o_ic (nI 0) (o_istore 4 (F 29)))))
def k_X12_years_29 (F : FT) (Q : QT) : KT := o_iload 4 (o_aload 0 (o_getR 12 0 (o_ic (nI 142) (o_iald (o_icge (F 57) (o_iload 2 (o_aload 0 (o_iload 4 (o_cV 12 m_X12_yearOf 2 (o_iadd (o_istore 2 (o_iinc 4 (nI 1) (F 29)))))))))))))
def k_X12_years_57 (F : FT) (Q : QT) : KT := o_iinc 3 (nI 1) (F 21)
def k_X12_years_63 (F : FT) (Q : QT) : KT := o_iload 2 (o_iret Q)
set_option maxRecDepth 20000 in
theorem r_X12_years {a0 : Nat} {a1 : Int32} {n : Nat} {R : RR} {I : II} {J : JJ} {Q : QT} (hn : n + 0 ≤ 90) (h : ∀ F : FT, al_Wk F → al_Ok F (k_X12_years_0 F Q) 0 → al_Ok F (k_X12_years_17 F Q) 17 → al_Ok F (k_X12_years_21 F Q) 21 → al_Ok F (k_X12_years_29 F Q) 29 → al_Ok F (k_X12_years_57 F Q) 57 → al_Ok F (k_X12_years_63 F Q) 63 → F 0 [some (.ref a0), some (.int a1), none, none, none] [] n R I J) : CT m_X12_years 0 [.ref a0, .int a1] n R I J Q :=
  CT.of (by decide) hn (fun _ => rfl) (fun _ => Nat.le_of_ble_eq_true rfl) (fun F p l e s m args below meth c Rm t Q0 C hQ hr hm => h F (fun _ _ _ _ _ _ _ _ => S_wk C)
    (S_iload_n C dX12_years_0 rfl (S_iconst C dX12_years_1 (by decide +kernel) (S_bipush C dX12_years_2 (by decide +kernel) (S_cS C ok_X12_within (al_at 1005 (by decide +kernel) rfl) (Nat.le_of_ble_eq_true rfl) (Nat.le_of_ble_eq_true rfl) dX12_years_4 (S_ifne (tgt := 17) C dX12_years_7 (by decide) (S_aload_n C dX12_years_10 rfl (S_ldc C dX12_years_11 (al_at 1020 (by decide +kernel) rfl) (S_cV (ci := 12) C ok_X12_finding rfl (al_at 1021 (by decide +kernel) rfl) (Nat.le_of_ble_eq_true rfl) (Nat.le_of_ble_eq_true rfl) dX12_years_13 (S_iret C hQ hr dX12_years_16)))))))))
    (S_iconst C dX12_years_17 (by decide +kernel) (S_istore_n C dX12_years_18 rfl (Nat.le_of_ble_eq_true rfl) (S_iconst C dX12_years_19 (by decide +kernel) (S_istore_n C dX12_years_20 rfl (Nat.le_of_ble_eq_true rfl) (fun _ _ _ _ _ _ h9 => h9)))))
    (S_iload_n C dX12_years_21 rfl (S_iload_n C dX12_years_22 rfl (S_icmpge (tgt := 63) C dX12_years_23 (by decide) (S_iconst C dX12_years_26 (by decide +kernel) (S_istore C dX12_years_27 (Nat.le_of_ble_eq_true rfl) (fun _ _ _ _ _ _ h9 => h9))))))
    (S_iload C dX12_years_29 (S_aload_n C dX12_years_31 rfl (S_getR (ci := 12) (j := 0) C inG12 rfl (Nat.le_of_ble_eq_true rfl) rfl (al_at 918 (by decide +kernel) rfl) dX12_years_32 (S_sipush C dX12_years_35 (by decide +kernel) (S_iald C dX12_years_38 (S_icmpge (tgt := 57) C dX12_years_39 (by decide) (S_iload_n C dX12_years_42 rfl (S_aload_n C dX12_years_43 rfl (S_iload C dX12_years_44 (S_cV (ci := 12) C ok_X12_yearOf rfl (al_at 1223 (by decide +kernel) rfl) (Nat.le_of_ble_eq_true rfl) (Nat.le_of_ble_eq_true rfl) dX12_years_46 (S_iadd C dX12_years_49 (S_istore_n C dX12_years_50 rfl (Nat.le_of_ble_eq_true rfl) (S_iinc C dX12_years_51 (by decide +kernel) (Nat.le_of_ble_eq_true rfl) (S_goto (tgt := 29) C dX12_years_54 (by decide)))))))))))))))
    (S_iinc C dX12_years_57 (by decide +kernel) (Nat.le_of_ble_eq_true rfl) (S_goto (tgt := 21) C dX12_years_60 (by decide)))
    (S_iload_n C dX12_years_63 rfl (S_iret C hQ hr dX12_years_64)))
theorem dX12_yields_0 : decode cX12_yields 0 = .ok (.iconst 0, 1) := by decide +kernel
theorem dX12_yields_1 : decode cX12_yields 1 = .ok (.istore_n 1, 1) := by decide +kernel
theorem dX12_yields_2 : decode cX12_yields 2 = .ok (.iconst 0, 1) := by decide +kernel
theorem dX12_yields_3 : decode cX12_yields 3 = .ok (.istore_n 2, 1) := by decide +kernel
theorem dX12_yields_4 : decode cX12_yields 4 = .ok (.iload_n 2, 1) := by decide +kernel
theorem dX12_yields_5 : decode cX12_yields 5 = .ok (.aload_n 0, 1) := by decide +kernel
theorem dX12_yields_6 : decode cX12_yields 6 = .ok (.getfield 9, 3) := by decide +kernel
theorem dX12_yields_9 : decode cX12_yields 9 = .ok (.sipush 142, 3) := by decide +kernel
theorem dX12_yields_12 : decode cX12_yields 12 = .ok (.iaload, 1) := by decide +kernel
theorem dX12_yields_13 : decode cX12_yields 13 = .ok (.if_icmp .ge 17, 3) := by decide +kernel
theorem dX12_yields_16 : decode cX12_yields 16 = .ok (.iload_n 1, 1) := by decide +kernel
theorem dX12_yields_17 : decode cX12_yields 17 = .ok (.aload_n 0, 1) := by decide +kernel
theorem dX12_yields_18 : decode cX12_yields 18 = .ok (.iload_n 2, 1) := by decide +kernel
theorem dX12_yields_19 : decode cX12_yields 19 = .ok (.invokevirtual 154, 3) := by decide +kernel
theorem dX12_yields_22 : decode cX12_yields 22 = .ok (.iadd, 1) := by decide +kernel
theorem dX12_yields_23 : decode cX12_yields 23 = .ok (.istore_n 1, 1) := by decide +kernel
theorem dX12_yields_24 : decode cX12_yields 24 = .ok (.iinc 2 1, 3) := by decide +kernel
theorem dX12_yields_27 : decode cX12_yields 27 = .ok (.goto (-23), 3) := by decide +kernel
theorem dX12_yields_30 : decode cX12_yields 30 = .ok (.iload_n 1, 1) := by decide +kernel
theorem dX12_yields_31 : decode cX12_yields 31 = .ok (.ireturn, 1) := by decide +kernel
def k_X12_yields_0 (F : FT) (Q : QT) : KT := o_ic (nI 0) (o_istore 1 (o_ic (nI 0) (o_istore 2 (F 4))))
def k_X12_yields_4 (F : FT) (Q : QT) : KT := o_iload 2 (o_aload 0 (o_getR 12 0 (o_ic (nI 142) (o_iald (o_icge (F 30) (o_iload 1 (o_aload 0 (o_iload 2 (o_cV 12 m_X12_taxOf 2 (o_iadd (o_istore 1 (o_iinc 2 (nI 1) (F 4)))))))))))))
def k_X12_yields_30 (F : FT) (Q : QT) : KT := o_iload 1 (o_iret Q)
set_option maxRecDepth 20000 in
theorem r_X12_yields {a0 : Nat} {n : Nat} {R : RR} {I : II} {J : JJ} {Q : QT} (hn : n + 0 ≤ 90) (h : ∀ F : FT, al_Wk F → al_Ok F (k_X12_yields_0 F Q) 0 → al_Ok F (k_X12_yields_4 F Q) 4 → al_Ok F (k_X12_yields_30 F Q) 30 → F 0 [some (.ref a0), none, none] [] n R I J) : CT m_X12_yields 0 [.ref a0] n R I J Q :=
  CT.of (by decide) hn (fun _ => rfl) (fun _ => Nat.le_of_ble_eq_true rfl) (fun F p l e s m args below meth c Rm t Q0 C hQ hr hm => h F (fun _ _ _ _ _ _ _ _ => S_wk C)
    (S_iconst C dX12_yields_0 (by decide +kernel) (S_istore_n C dX12_yields_1 rfl (Nat.le_of_ble_eq_true rfl) (S_iconst C dX12_yields_2 (by decide +kernel) (S_istore_n C dX12_yields_3 rfl (Nat.le_of_ble_eq_true rfl) (fun _ _ _ _ _ _ h9 => h9)))))
    (S_iload_n C dX12_yields_4 rfl (S_aload_n C dX12_yields_5 rfl (S_getR (ci := 12) (j := 0) C inG12 rfl (Nat.le_of_ble_eq_true rfl) rfl (al_at 918 (by decide +kernel) rfl) dX12_yields_6 (S_sipush C dX12_yields_9 (by decide +kernel) (S_iald C dX12_yields_12 (S_icmpge (tgt := 30) C dX12_yields_13 (by decide) (S_iload_n C dX12_yields_16 rfl (S_aload_n C dX12_yields_17 rfl (S_iload_n C dX12_yields_18 rfl (S_cV (ci := 12) C ok_X12_taxOf rfl (al_at 1066 (by decide +kernel) rfl) (Nat.le_of_ble_eq_true rfl) (Nat.le_of_ble_eq_true rfl) dX12_yields_19 (S_iadd C dX12_yields_22 (S_istore_n C dX12_yields_23 rfl (Nat.le_of_ble_eq_true rfl) (S_iinc C dX12_yields_24 (by decide +kernel) (Nat.le_of_ble_eq_true rfl) (S_goto (tgt := 4) C dX12_yields_27 (by decide)))))))))))))))
    (S_iload_n C dX12_yields_30 rfl (S_iret C hQ hr dX12_yields_31)))
