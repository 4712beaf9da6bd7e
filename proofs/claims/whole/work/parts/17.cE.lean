theorem dX12_above_0 : decode cX12_above 0 = .ok (.iload_n 0, 1) := by decide +kernel
theorem dX12_above_1 : decode cX12_above 1 = .ok (.ifCond .ne 7, 3) := by decide +kernel
theorem dX12_above_4 : decode cX12_above 4 = .ok (.iconst (-1), 1) := by decide +kernel
theorem dX12_above_5 : decode cX12_above 5 = .ok (.goto 31, 3) := by decide +kernel
theorem dX12_above_8 : decode cX12_above 8 = .ok (.iload_n 0, 1) := by decide +kernel
theorem dX12_above_9 : decode cX12_above 9 = .ok (.iconst 3, 1) := by decide +kernel
theorem dX12_above_10 : decode cX12_above 10 = .ok (.if_icmp .ne 7, 3) := by decide +kernel
theorem dX12_above_13 : decode cX12_above 13 = .ok (.iconst 1, 1) := by decide +kernel
theorem dX12_above_14 : decode cX12_above 14 = .ok (.goto 22, 3) := by decide +kernel
theorem dX12_above_17 : decode cX12_above 17 = .ok (.iload_n 0, 1) := by decide +kernel
theorem dX12_above_18 : decode cX12_above 18 = .ok (.iconst 4, 1) := by decide +kernel
theorem dX12_above_19 : decode cX12_above 19 = .ok (.if_icmp .ne 7, 3) := by decide +kernel
theorem dX12_above_22 : decode cX12_above 22 = .ok (.iconst 2, 1) := by decide +kernel
theorem dX12_above_23 : decode cX12_above 23 = .ok (.goto 13, 3) := by decide +kernel
theorem dX12_above_26 : decode cX12_above 26 = .ok (.iload_n 0, 1) := by decide +kernel
theorem dX12_above_27 : decode cX12_above 27 = .ok (.iconst 5, 1) := by decide +kernel
theorem dX12_above_28 : decode cX12_above 28 = .ok (.if_icmp .ne 7, 3) := by decide +kernel
theorem dX12_above_31 : decode cX12_above 31 = .ok (.iconst 3, 1) := by decide +kernel
theorem dX12_above_32 : decode cX12_above 32 = .ok (.goto 4, 3) := by decide +kernel
theorem dX12_above_35 : decode cX12_above 35 = .ok (.iconst 0, 1) := by decide +kernel
theorem dX12_above_36 : decode cX12_above 36 = .ok (.ireturn, 1) := by decide +kernel
def k_X12_above_0 (F : FT) (Q : QT) : KT := o_iload 0 (o_ifne (F 8) (o_ic (-1) (F 36)))
def k_X12_above_8 (F : FT) (Q : QT) : KT := o_iload 0 (o_ic (nI 3) (o_icne (F 17) (o_ic (nI 1) (F 36))))
def k_X12_above_17 (F : FT) (Q : QT) : KT := o_iload 0 (o_ic (nI 4) (o_icne (F 26) (o_ic (nI 2) (F 36))))
def k_X12_above_26 (F : FT) (Q : QT) : KT := o_iload 0 (o_ic (nI 5) (o_icne (F 35) (o_ic (nI 3) (F 36))))
def k_X12_above_35 (F : FT) (Q : QT) : KT := o_ic (nI 0) (F 36)
def k_X12_above_36 (F : FT) (Q : QT) : KT := o_iret Q
set_option maxRecDepth 20000 in
theorem r_X12_above {a0 : Int32} {n : Nat} {R : RR} {I : II} {J : JJ} {Q : QT} (hn : n + 0 ≤ 90) (h : ∀ F : FT, al_Wk F → al_Ok F (k_X12_above_0 F Q) 0 → al_Ok F (k_X12_above_8 F Q) 8 → al_Ok F (k_X12_above_17 F Q) 17 → al_Ok F (k_X12_above_26 F Q) 26 → al_Ok F (k_X12_above_35 F Q) 35 → al_Ok F (k_X12_above_36 F Q) 36 → F 0 [some (.int a0)] [] n R I J) : CT m_X12_above 0 [.int a0] n R I J Q :=
  CT.of (by decide) hn (fun _ => rfl) (fun _ => Nat.le_of_ble_eq_true rfl) (fun F p l e s m args below meth c Rm t Q0 C hQ hr hm => h F (fun _ _ _ _ _ _ _ _ => S_wk C)
    (S_iload_n C dX12_above_0 rfl (S_ifne (tgt := 8) C dX12_above_1 (by decide) (S_iconst C dX12_above_4 (by decide +kernel) (S_goto (tgt := 36) C dX12_above_5 (by decide)))))
    (S_iload_n C dX12_above_8 rfl (S_iconst C dX12_above_9 (by decide +kernel) (S_icmpne (tgt := 17) C dX12_above_10 (by decide) (S_iconst C dX12_above_13 (by decide +kernel) (S_goto (tgt := 36) C dX12_above_14 (by decide))))))
    (S_iload_n C dX12_above_17 rfl (S_iconst C dX12_above_18 (by decide +kernel) (S_icmpne (tgt := 26) C dX12_above_19 (by decide) (S_iconst C dX12_above_22 (by decide +kernel) (S_goto (tgt := 36) C dX12_above_23 (by decide))))))
    (S_iload_n C dX12_above_26 rfl (S_iconst C dX12_above_27 (by decide +kernel) (S_icmpne (tgt := 35) C dX12_above_28 (by decide) (S_iconst C dX12_above_31 (by decide +kernel) (S_goto (tgt := 36) C dX12_above_32 (by decide))))))
    (S_iconst C dX12_above_35 (by decide +kernel) (fun _ _ _ _ _ _ h9 => h9))
    (S_iret C hQ hr dX12_above_36))
theorem dX12_allCounts_0 : decode cX12_allCounts 0 = .ok (.iconst 0, 1) := by decide +kernel
theorem dX12_allCounts_1 : decode cX12_allCounts 1 = .ok (.istore_n 2, 1) := by decide +kernel
theorem dX12_allCounts_2 : decode cX12_allCounts 2 = .ok (.iconst 0, 1) := by decide +kernel
theorem dX12_allCounts_3 : decode cX12_allCounts 3 = .ok (.istore_n 3, 1) := by decide +kernel
theorem dX12_allCounts_4 : decode cX12_allCounts 4 = .ok (.iload_n 3, 1) := by decide +kernel
theorem dX12_allCounts_5 : decode cX12_allCounts 5 = .ok (.bipush 81, 2) := by decide +kernel
theorem dX12_allCounts_7 : decode cX12_allCounts 7 = .ok (.if_icmp .ge 18, 3) := by decide +kernel
theorem dX12_allCounts_10 : decode cX12_allCounts 10 = .ok (.iload_n 2, 1) := by decide +kernel
theorem dX12_allCounts_11 : decode cX12_allCounts 11 = .ok (.aload_n 0, 1) := by decide +kernel
theorem dX12_allCounts_12 : decode cX12_allCounts 12 = .ok (.iload_n 1, 1) := by decide +kernel
theorem dX12_allCounts_13 : decode cX12_allCounts 13 = .ok (.iload_n 3, 1) := by decide +kernel
theorem dX12_allCounts_14 : decode cX12_allCounts 14 = .ok (.invokevirtual 186, 3) := by decide +kernel
theorem dX12_allCounts_17 : decode cX12_allCounts 17 = .ok (.iadd, 1) := by decide +kernel
theorem dX12_allCounts_18 : decode cX12_allCounts 18 = .ok (.istore_n 2, 1) := by decide +kernel
theorem dX12_allCounts_19 : decode cX12_allCounts 19 = .ok (.iinc 3 1, 3) := by decide +kernel
theorem dX12_allCounts_22 : decode cX12_allCounts 22 = .ok (.goto (-18), 3) := by decide +kernel
theorem dX12_allCounts_25 : decode cX12_allCounts 25 = .ok (.iload_n 2, 1) := by decide +kernel
theorem dX12_allCounts_26 : decode cX12_allCounts 26 = .ok (.ireturn, 1) := by decide +kernel
def k_X12_allCounts_0 (F : FT) (Q : QT) : KT := o_ic (nI 0) (o_istore 2 (o_ic (nI 0) (o_istore 3 (F 4))))
def k_X12_allCounts_4 (F : FT) (Q : QT) : KT := o_iload 3 (o_ic (nI 81) (o_icge (F 25) (o_iload 2 (o_aload 0 (o_iload 1 (o_iload 3 (o_cV 12 m_X12_countOf 3 (o_iadd (o_istore 2 (o_iinc 3 (nI 1) (F 4)))))))))))
def k_X12_allCounts_25 (F : FT) (Q : QT) : KT := o_iload 2 (o_iret Q)
set_option maxRecDepth 20000 in
theorem r_X12_allCounts {a0 : Nat} {a1 : Int32} {n : Nat} {R : RR} {I : II} {J : JJ} {Q : QT} (hn : n + 0 ≤ 90) (h : ∀ F : FT, al_Wk F → al_Ok F (k_X12_allCounts_0 F Q) 0 → al_Ok F (k_X12_allCounts_4 F Q) 4 → al_Ok F (k_X12_allCounts_25 F Q) 25 → F 0 [some (.ref a0), some (.int a1), none, none] [] n R I J) : CT m_X12_allCounts 0 [.ref a0, .int a1] n R I J Q :=
  CT.of (by decide) hn (fun _ => rfl) (fun _ => Nat.le_of_ble_eq_true rfl) (fun F p l e s m args below meth c Rm t Q0 C hQ hr hm => h F (fun _ _ _ _ _ _ _ _ => S_wk C)
    (S_iconst C dX12_allCounts_0 (by decide +kernel) (S_istore_n C dX12_allCounts_1 rfl (Nat.le_of_ble_eq_true rfl) (S_iconst C dX12_allCounts_2 (by decide +kernel) (S_istore_n C dX12_allCounts_3 rfl (Nat.le_of_ble_eq_true rfl) (fun _ _ _ _ _ _ h9 => h9)))))
    (S_iload_n C dX12_allCounts_4 rfl (S_bipush C dX12_allCounts_5 (by decide +kernel) (S_icmpge (tgt := 25) C dX12_allCounts_7 (by decide) (S_iload_n C dX12_allCounts_10 rfl (S_aload_n C dX12_allCounts_11 rfl (S_iload_n C dX12_allCounts_12 rfl (S_iload_n C dX12_allCounts_13 rfl (S_cV (ci := 12) C ok_X12_countOf rfl (al_at 1074 (by decide +kernel) rfl) (Nat.le_of_ble_eq_true rfl) (Nat.le_of_ble_eq_true rfl) dX12_allCounts_14 (S_iadd C dX12_allCounts_17 (S_istore_n C dX12_allCounts_18 rfl (Nat.le_of_ble_eq_true rfl) (S_iinc C dX12_allCounts_19 (by decide +kernel) (Nat.le_of_ble_eq_true rfl) (S_goto (tgt := 4) C dX12_allCounts_22 (by decide)))))))))))))
    (S_iload_n C dX12_allCounts_25 rfl (S_iret C hQ hr dX12_allCounts_26)))
theorem dX12_as_0 : decode cX12_as 0 = .ok (.aload_n 0, 1) := by decide +kernel
theorem dX12_as_1 : decode cX12_as 1 = .ok (.iload_n 1, 1) := by decide +kernel
theorem dX12_as_2 : decode cX12_as 2 = .ok (.invokevirtual 142, 3) := by decide +kernel
theorem dX12_as_5 : decode cX12_as 5 = .ok (.ifCond .eq 12, 3) := by decide +kernel
theorem dX12_as_8 : decode cX12_as 8 = .ok (.iload_n 2, 1) := by decide +kernel
theorem dX12_as_9 : decode cX12_as 9 = .ok (.iconst 0, 1) := by decide +kernel
theorem dX12_as_10 : decode cX12_as 10 = .ok (.iconst 5, 1) := by decide +kernel
theorem dX12_as_11 : decode cX12_as 11 = .ok (.invokestatic 81, 3) := by decide +kernel
theorem dX12_as_14 : decode cX12_as 14 = .ok (.ifCond .ne 10, 3) := by decide +kernel
theorem dX12_as_17 : decode cX12_as 17 = .ok (.aload_n 0, 1) := by decide +kernel
theorem dX12_as_18 : decode cX12_as 18 = .ok (.ldc 80, 2) := by decide +kernel
theorem dX12_as_20 : decode cX12_as 20 = .ok (.invokevirtual 103, 3) := by decide +kernel
theorem dX12_as_23 : decode cX12_as 23 = .ok (.ireturn, 1) := by decide +kernel
theorem dX12_as_24 : decode cX12_as 24 = .ok (.aload_n 0, 1) := by decide +kernel
theorem dX12_as_25 : decode cX12_as 25 = .ok (.iload_n 1, 1) := by decide +kernel
theorem dX12_as_26 : decode cX12_as 26 = .ok (.iconst 0, 1) := by decide +kernel
theorem dX12_as_27 : decode cX12_as 27 = .ok (.invokevirtual 145, 3) := by decide +kernel
theorem dX12_as_30 : decode cX12_as 30 = .ok (.istore_n 3, 1) := by decide +kernel
theorem dX12_as_31 : decode cX12_as 31 = .ok (.iload_n 3, 1) := by decide +kernel
theorem dX12_as_32 : decode cX12_as 32 = .ok (.ifCond .lt 16, 3) := by decide +kernel
theorem dX12_as_35 : decode cX12_as 35 = .ok (.iload_n 3, 1) := by decide +kernel
theorem dX12_as_36 : decode cX12_as 36 = .ok (.iload_n 2, 1) := by decide +kernel
theorem dX12_as_37 : decode cX12_as 37 = .ok (.if_icmp .eq 11, 3) := by decide +kernel
theorem dX12_as_40 : decode cX12_as 40 = .ok (.iload_n 3, 1) := by decide +kernel
theorem dX12_as_41 : decode cX12_as 41 = .ok (.invokestatic 157, 3) := by decide +kernel
theorem dX12_as_44 : decode cX12_as 44 = .ok (.istore_n 3, 1) := by decide +kernel
theorem dX12_as_45 : decode cX12_as 45 = .ok (.goto (-14), 3) := by decide +kernel
theorem dX12_as_48 : decode cX12_as 48 = .ok (.iload_n 3, 1) := by decide +kernel
theorem dX12_as_49 : decode cX12_as 49 = .ok (.ifCond .ge 12, 3) := by decide +kernel
theorem dX12_as_52 : decode cX12_as 52 = .ok (.aload_n 0, 1) := by decide +kernel
theorem dX12_as_53 : decode cX12_as 53 = .ok (.ldc 160, 2) := by decide +kernel
theorem dX12_as_55 : decode cX12_as 55 = .ok (.invokevirtual 103, 3) := by decide +kernel
theorem dX12_as_58 : decode cX12_as 58 = .ok (.goto 9, 3) := by decide +kernel
theorem dX12_as_61 : decode cX12_as 61 = .ok (.aload_n 0, 1) := by decide +kernel
theorem dX12_as_62 : decode cX12_as 62 = .ok (.iload_n 1, 1) := by decide +kernel
theorem dX12_as_63 : decode cX12_as 63 = .ok (.iconst 1, 1) := by decide +kernel
theorem dX12_as_64 : decode cX12_as 64 = .ok (.invokevirtual 145, 3) := by decide +kernel
theorem dX12_as_67 : decode cX12_as 67 = .ok (.ireturn, 1) := by decide +kernel
def k_X12_as_0 (F : FT) (Q : QT) : KT := o_aload 0 (o_iload 1 (o_cV 12 m_X12_isHouse 2 (o_ifeq (F 17) (o_iload 2 (o_ic (nI 0) (o_ic (nI 5) (o_cS m_X12_within 3 (o_ifne (F 24) (F 17)))))))))
def k_X12_as_17 (F : FT) (Q : QT) : KT := o_aload 0 (o_ic (-1000000001) (o_cV 12 m_X12_finding 2 (o_iret Q)))
def k_X12_as_24 (F : FT) (Q : QT) : KT := o_aload 0 (o_iload 1 (o_ic (nI 0) (o_cV 12 m_X12_houseIs 3 (o_istore 3 (F 31)))))
def k_X12_as_31 (F : FT) (Q : QT) : KT := o_iload 3 (o_iflt (F 48) (o_iload 3 (o_iload 2 (o_iceq (F 48) (o_iload 3 (o_cS m_X12_above 1 (o_istore 3 (F 31))))))))
def k_X12_as_48 (F : FT) (Q : QT) : KT := o_iload 3 (o_ifge (F 61) (o_aload 0 (o_ic (-1000000003) (o_cV 12 m_X12_finding 2 (F 67)))))
def k_X12_as_61 (F : FT) (Q : QT) : KT := o_aload 0 (o_iload 1 (o_ic (nI 1) (o_cV 12 m_X12_houseIs 3 (F 67))))
def k_X12_as_67 (F : FT) (Q : QT) : KT := o_iret Q
set_option maxRecDepth 20000 in
theorem r_X12_as {a0 : Nat} {a1 : Int32} {a2 : Int32} {n : Nat} {R : RR} {I : II} {J : JJ} {Q : QT} (hn : n + 0 ≤ 90) (h : ∀ F : FT, al_Wk F → al_Ok F (k_X12_as_0 F Q) 0 → al_Ok F (k_X12_as_17 F Q) 17 → al_Ok F (k_X12_as_24 F Q) 24 → al_Ok F (k_X12_as_31 F Q) 31 → al_Ok F (k_X12_as_48 F Q) 48 → al_Ok F (k_X12_as_61 F Q) 61 → al_Ok F (k_X12_as_67 F Q) 67 → F 0 [some (.ref a0), some (.int a1), some (.int a2), none] [] n R I J) : CT m_X12_as 0 [.ref a0, .int a1, .int a2] n R I J Q :=
  CT.of (by decide) hn (fun _ => rfl) (fun _ => Nat.le_of_ble_eq_true rfl) (fun F p l e s m args below meth c Rm t Q0 C hQ hr hm => h F (fun _ _ _ _ _ _ _ _ => S_wk C)
    (S_aload_n C dX12_as_0 rfl (S_iload_n C dX12_as_1 rfl (S_cV (ci := 12) C ok_X12_isHouse rfl (al_at 1042 (by decide +kernel) rfl) (Nat.le_of_ble_eq_true rfl) (Nat.le_of_ble_eq_true rfl) dX12_as_2 (S_ifeq (tgt := 17) C dX12_as_5 (by decide) (S_iload_n C dX12_as_8 rfl (S_iconst C dX12_as_9 (by decide +kernel) (S_iconst C dX12_as_10 (by decide +kernel) (S_cS C ok_X12_within (al_at 1005 (by decide +kernel) rfl) (Nat.le_of_ble_eq_true rfl) (Nat.le_of_ble_eq_true rfl) dX12_as_11 (S_ifne (tgt := 24) C dX12_as_14 (by decide) (fun _ _ _ _ _ _ h9 => h9))))))))))
    (S_aload_n C dX12_as_17 rfl (S_ldc C dX12_as_18 (al_at 1020 (by decide +kernel) rfl) (S_cV (ci := 12) C ok_X12_finding rfl (al_at 1021 (by decide +kernel) rfl) (Nat.le_of_ble_eq_true rfl) (Nat.le_of_ble_eq_true rfl) dX12_as_20 (S_iret C hQ hr dX12_as_23))))
    (S_aload_n C dX12_as_24 rfl (S_iload_n C dX12_as_25 rfl (S_iconst C dX12_as_26 (by decide +kernel) (S_cV (ci := 12) C ok_X12_houseIs rfl (al_at 1046 (by decide +kernel) rfl) (Nat.le_of_ble_eq_true rfl) (Nat.le_of_ble_eq_true rfl) dX12_as_27 (S_istore_n C dX12_as_30 rfl (Nat.le_of_ble_eq_true rfl) (fun _ _ _ _ _ _ h9 => h9))))))
    (S_iload_n C dX12_as_31 rfl (S_iflt (tgt := 48) C dX12_as_32 (by decide) (S_iload_n C dX12_as_35 rfl (S_iload_n C dX12_as_36 rfl (S_icmpeq (tgt := 48) C dX12_as_37 (by decide) (S_iload_n C dX12_as_40 rfl (S_cS C ok_X12_above (al_at 1126 (by decide +kernel) rfl) (Nat.le_of_ble_eq_true rfl) (Nat.le_of_ble_eq_true rfl) dX12_as_41 (S_istore_n C dX12_as_44 rfl (Nat.le_of_ble_eq_true rfl) (S_goto (tgt := 31) C dX12_as_45 (by decide))))))))))
    (S_iload_n C dX12_as_48 rfl (S_ifge (tgt := 61) C dX12_as_49 (by decide) (S_aload_n C dX12_as_52 rfl (S_ldc C dX12_as_53 (al_at 1129 (by decide +kernel) rfl) (S_cV (ci := 12) C ok_X12_finding rfl (al_at 1021 (by decide +kernel) rfl) (Nat.le_of_ble_eq_true rfl) (Nat.le_of_ble_eq_true rfl) dX12_as_55 (S_goto (tgt := 67) C dX12_as_58 (by decide)))))))
    (S_aload_n C dX12_as_61 rfl (S_iload_n C dX12_as_62 rfl (S_iconst C dX12_as_63 (by decide +kernel) (S_cV (ci := 12) C ok_X12_houseIs rfl (al_at 1046 (by decide +kernel) rfl) (Nat.le_of_ble_eq_true rfl) (Nat.le_of_ble_eq_true rfl) dX12_as_64 (fun _ _ _ _ _ _ h9 => h9)))))
    (S_iret C hQ hr dX12_as_67))
theorem dX12_at_0 : decode cX12_at 0 = .ok (.iload_n 1, 1) := by decide +kernel
theorem dX12_at_1 : decode cX12_at 1 = .ok (.invokestatic 93, 3) := by decide +kernel
theorem dX12_at_4 : decode cX12_at 4 = .ok (.ifCond .eq 12, 3) := by decide +kernel
theorem dX12_at_7 : decode cX12_at 7 = .ok (.aload_n 0, 1) := by decide +kernel
theorem dX12_at_8 : decode cX12_at 8 = .ok (.getfield 9, 3) := by decide +kernel
theorem dX12_at_11 : decode cX12_at 11 = .ok (.iload_n 1, 1) := by decide +kernel
theorem dX12_at_12 : decode cX12_at 12 = .ok (.iaload, 1) := by decide +kernel
theorem dX12_at_13 : decode cX12_at 13 = .ok (.goto 9, 3) := by decide +kernel
theorem dX12_at_16 : decode cX12_at 16 = .ok (.aload_n 0, 1) := by decide +kernel
theorem dX12_at_17 : decode cX12_at 17 = .ok (.ldc 80, 2) := by decide +kernel
theorem dX12_at_19 : decode cX12_at 19 = .ok (.invokevirtual 103, 3) := by decide +kernel
theorem dX12_at_22 : decode cX12_at 22 = .ok (.ireturn, 1) := by decide +kernel
def k_X12_at_0 (F : FT) (Q : QT) : KT := o_iload 1 (o_cS m_X12_isSquare 1 (o_ifeq (F 16) (o_aload 0 (o_getR 12 0 (o_iload 1 (o_iald (F 22)))))))
def k_X12_at_16 (F : FT) (Q : QT) : KT := o_aload 0 (o_ic (-1000000001) (o_cV 12 m_X12_finding 2 (F 22)))
def k_X12_at_22 (F : FT) (Q : QT) : KT := o_iret Q
set_option maxRecDepth 20000 in
theorem r_X12_at {a0 : Nat} {a1 : Int32} {n : Nat} {R : RR} {I : II} {J : JJ} {Q : QT} (hn : n + 0 ≤ 90) (h : ∀ F : FT, al_Wk F → al_Ok F (k_X12_at_0 F Q) 0 → al_Ok F (k_X12_at_16 F Q) 16 → al_Ok F (k_X12_at_22 F Q) 22 → F 0 [some (.ref a0), some (.int a1)] [] n R I J) : CT m_X12_at 0 [.ref a0, .int a1] n R I J Q :=
  CT.of (by decide) hn (fun _ => rfl) (fun _ => Nat.le_of_ble_eq_true rfl) (fun F p l e s m args below meth c Rm t Q0 C hQ hr hm => h F (fun _ _ _ _ _ _ _ _ => S_wk C)
    (S_iload_n C dX12_at_0 rfl (S_cS C ok_X12_isSquare (al_at 1002 (by decide +kernel) rfl) (Nat.le_of_ble_eq_true rfl) (Nat.le_of_ble_eq_true rfl) dX12_at_1 (S_ifeq (tgt := 16) C dX12_at_4 (by decide) (S_aload_n C dX12_at_7 rfl (S_getR (ci := 12) (j := 0) C inG12 rfl (Nat.le_of_ble_eq_true rfl) rfl (al_at 918 (by decide +kernel) rfl) dX12_at_8 (S_iload_n C dX12_at_11 rfl (S_iald C dX12_at_12 (S_goto (tgt := 22) C dX12_at_13 (by decide)))))))))
    (S_aload_n C dX12_at_16 rfl (S_ldc C dX12_at_17 (al_at 1020 (by decide +kernel) rfl) (S_cV (ci := 12) C ok_X12_finding rfl (al_at 1021 (by decide +kernel) rfl) (Nat.le_of_ble_eq_true rfl) (Nat.le_of_ble_eq_true rfl) dX12_at_19 (fun _ _ _ _ _ _ h9 => h9))))
    (S_iret C hQ hr dX12_at_22))
theorem dX12_become_0 : decode cX12_become 0 = .ok (.aload_n 0, 1) := by decide +kernel
theorem dX12_become_1 : decode cX12_become 1 = .ok (.getfield 9, 3) := by decide +kernel
theorem dX12_become_4 : decode cX12_become 4 = .ok (.iload_n 1, 1) := by decide +kernel
theorem dX12_become_5 : decode cX12_become 5 = .ok (.iaload, 1) := by decide +kernel
theorem dX12_become_6 : decode cX12_become 6 = .ok (.istore_n 3, 1) := by decide +kernel
theorem dX12_become_7 : decode cX12_become 7 = .ok (.aload_n 0, 1) := by decide +kernel
theorem dX12_become_8 : decode cX12_become 8 = .ok (.getfield 9, 3) := by decide +kernel
theorem dX12_become_11 : decode cX12_become 11 = .ok (.iload_n 1, 1) := by decide +kernel
theorem dX12_become_12 : decode cX12_become 12 = .ok (.iload_n 2, 1) := by decide +kernel
theorem dX12_become_13 : decode cX12_become 13 = .ok (.iastore, 1) := by decide +kernel
theorem dX12_become_14 : decode cX12_become 14 = .ok (.iload_n 3, 1) := by decide +kernel
theorem dX12_become_15 : decode cX12_become 15 = .ok (.ireturn, 1) := by decide +kernel
def k_X12_become_0 (F : FT) (Q : QT) : KT := o_aload 0 (o_getR 12 0 (o_iload 1 (o_iald (o_istore 3 (o_aload 0 (o_getR 12 0 (o_iload 1 (o_iload 2 (o_iast (o_iload 3 (o_iret Q)))))))))))
set_option maxRecDepth 20000 in
theorem r_X12_become {a0 : Nat} {a1 : Int32} {a2 : Int32} {n : Nat} {R : RR} {I : II} {J : JJ} {Q : QT} (hn : n + 0 ≤ 90) (h : ∀ F : FT, al_Wk F → al_Ok F (k_X12_become_0 F Q) 0 → F 0 [some (.ref a0), some (.int a1), some (.int a2), none] [] n R I J) : CT m_X12_become 0 [.ref a0, .int a1, .int a2] n R I J Q :=
  CT.of (by decide) hn (fun _ => rfl) (fun _ => Nat.le_of_ble_eq_true rfl) (fun F p l e s m args below meth c Rm t Q0 C hQ hr hm => h F (fun _ _ _ _ _ _ _ _ => S_wk C)
    (S_aload_n C dX12_become_0 rfl (S_getR (ci := 12) (j := 0) C inG12 rfl (Nat.le_of_ble_eq_true rfl) rfl (al_at 918 (by decide +kernel) rfl) dX12_become_1 (S_iload_n C dX12_become_4 rfl (S_iald C dX12_become_5 (S_istore_n C dX12_become_6 rfl (Nat.le_of_ble_eq_true rfl) (S_aload_n C dX12_become_7 rfl (S_getR (ci := 12) (j := 0) C inG12 rfl (Nat.le_of_ble_eq_true rfl) rfl (al_at 918 (by decide +kernel) rfl) dX12_become_8 (S_iload_n C dX12_become_11 rfl (S_iload_n C dX12_become_12 rfl (S_iast C dX12_become_13 (S_iload_n C dX12_become_14 rfl (S_iret C hQ hr dX12_become_15)))))))))))))
theorem dX12_bestToRound_0 : decode cX12_bestToRound 0 = .ok (.iconst (-1), 1) := by decide +kernel
theorem dX12_bestToRound_1 : decode cX12_bestToRound 1 = .ok (.istore_n 2, 1) := by decide +kernel
theorem dX12_bestToRound_2 : decode cX12_bestToRound 2 = .ok (.iconst 0, 1) := by decide +kernel
theorem dX12_bestToRound_3 : decode cX12_bestToRound 3 = .ok (.istore_n 3, 1) := by decide +kernel
theorem dX12_bestToRound_4 : decode cX12_bestToRound 4 = .ok (.iconst 0, 1) := by decide +kernel
theorem dX12_bestToRound_5 : decode cX12_bestToRound 5 = .ok (.istore 4, 2) := by decide +kernel
theorem dX12_bestToRound_7 : decode cX12_bestToRound 7 = .ok (.iload 4, 2) := by decide +kernel
theorem dX12_bestToRound_9 : decode cX12_bestToRound 9 = .ok (.bipush 81, 2) := by decide +kernel
theorem dX12_bestToRound_11 : decode cX12_bestToRound 11 = .ok (.if_icmp .ge 30, 3) := by decide +kernel
theorem dX12_bestToRound_14 : decode cX12_bestToRound 14 = .ok (.aload_n 0, 1) := by decide +kernel
theorem dX12_bestToRound_15 : decode cX12_bestToRound 15 = .ok (.iload_n 1, 1) := by decide +kernel
theorem dX12_bestToRound_16 : decode cX12_bestToRound 16 = .ok (.iload 4, 2) := by decide +kernel
theorem dX12_bestToRound_18 : decode cX12_bestToRound 18 = .ok (.invokevirtual 186, 3) := by decide +kernel
theorem dX12_bestToRound_21 : decode cX12_bestToRound 21 = .ok (.istore 5, 2) := by decide +kernel
theorem dX12_bestToRound_23 : decode cX12_bestToRound 23 = .ok (.iload 5, 2) := by decide +kernel
theorem dX12_bestToRound_25 : decode cX12_bestToRound 25 = .ok (.iload_n 3, 1) := by decide +kernel
theorem dX12_bestToRound_26 : decode cX12_bestToRound 26 = .ok (.if_icmp .le 9, 3) := by decide +kernel
theorem dX12_bestToRound_29 : decode cX12_bestToRound 29 = .ok (.iload 5, 2) := by decide +kernel
theorem dX12_bestToRound_31 : decode cX12_bestToRound 31 = .ok (.istore_n 3, 1) := by decide +kernel
theorem dX12_bestToRound_32 : decode cX12_bestToRound 32 = .ok (.iload 4, 2) := by decide +kernel
theorem dX12_bestToRound_34 : decode cX12_bestToRound 34 = .ok (.istore_n 2, 1) := by decide +kernel
theorem dX12_bestToRound_35 : decode cX12_bestToRound 35 = .ok (.iinc 4 1, 3) := by decide +kernel
theorem dX12_bestToRound_38 : decode cX12_bestToRound 38 = .ok (.goto (-31), 3) := by decide +kernel
theorem dX12_bestToRound_41 : decode cX12_bestToRound 41 = .ok (.iload_n 2, 1) := by decide +kernel
theorem dX12_bestToRound_42 : decode cX12_bestToRound 42 = .ok (.ireturn, 1) := by decide +kernel
def k_X12_bestToRound_0 (F : FT) (Q : QT) : KT := o_ic (-1) (o_istore 2 (o_ic (nI 0) (o_istore 3 (o_ic (nI 0) (o_istore 4 (F 7))))))
def k_X12_bestToRound_7 (F : FT) (Q : QT) : KT := o_iload 4 (o_ic (nI 81) (o_icge (F 41) (o_aload 0 (o_iload 1 (o_iload 4 (o_cV 12 m_X12_countOf 3 (o_istore 5 (o_iload 5 (o_iload 3 (o_icle (F 35) (o_iload 5 (o_istore 3 (o_iload 4 (o_istore 2 (F 35)))))))))))))))
def k_X12_bestToRound_35 (F : FT) (Q : QT) : KT := o_iinc 4 (nI 1) (F 7)
def k_X12_bestToRound_41 (F : FT) (Q : QT) : KT := o_iload 2 (o_iret Q)
set_option maxRecDepth 20000 in
theorem r_X12_bestToRound {a0 : Nat} {a1 : Int32} {n : Nat} {R : RR} {I : II} {J : JJ} {Q : QT} (hn : n + 0 ≤ 90) (h : ∀ F : FT, al_Wk F → al_Ok F (k_X12_bestToRound_0 F Q) 0 → al_Ok F (k_X12_bestToRound_7 F Q) 7 → al_Ok F (k_X12_bestToRound_35 F Q) 35 → al_Ok F (k_X12_bestToRound_41 F Q) 41 → F 0 [some (.ref a0), some (.int a1), none, none, none, none] [] n R I J) : CT m_X12_bestToRound 0 [.ref a0, .int a1] n R I J Q :=
  CT.of (by decide) hn (fun _ => rfl) (fun _ => Nat.le_of_ble_eq_true rfl) (fun F p l e s m args below meth c Rm t Q0 C hQ hr hm => h F (fun _ _ _ _ _ _ _ _ => S_wk C)
    (S_iconst C dX12_bestToRound_0 (by decide +kernel) (S_istore_n C dX12_bestToRound_1 rfl (Nat.le_of_ble_eq_true rfl) (S_iconst C dX12_bestToRound_2 (by decide +kernel) (S_istore_n C dX12_bestToRound_3 rfl (Nat.le_of_ble_eq_true rfl) (S_iconst C dX12_bestToRound_4 (by decide +kernel) (S_istore C dX12_bestToRound_5 (Nat.le_of_ble_eq_true rfl) (fun _ _ _ _ _ _ h9 => h9)))))))
    (S_iload C dX12_bestToRound_7 (S_bipush C dX12_bestToRound_9 (by decide +kernel) (S_icmpge (tgt := 41) C dX12_bestToRound_11 (by decide) (S_aload_n C dX12_bestToRound_14 rfl (S_iload_n C dX12_bestToRound_15 rfl (S_iload C dX12_bestToRound_16 (S_cV (ci := 12) C ok_X12_countOf rfl (al_at 1074 (by decide +kernel) rfl) (Nat.le_of_ble_eq_true rfl) (Nat.le_of_ble_eq_true rfl) dX12_bestToRound_18 (S_istore C dX12_bestToRound_21 (Nat.le_of_ble_eq_true rfl) (S_iload C dX12_bestToRound_23 (S_iload_n C dX12_bestToRound_25 rfl (S_icmple (tgt := 35) C dX12_bestToRound_26 (by decide) (S_iload C dX12_bestToRound_29 (S_istore_n C dX12_bestToRound_31 rfl (Nat.le_of_ble_eq_true rfl) (S_iload C dX12_bestToRound_32 (S_istore_n C dX12_bestToRound_34 rfl (Nat.le_of_ble_eq_true rfl) (fun _ _ _ _ _ _ h9 => h9))))))))))))))))
    (S_iinc C dX12_bestToRound_35 (by decide +kernel) (Nat.le_of_ble_eq_true rfl) (S_goto (tgt := 7) C dX12_bestToRound_38 (by decide)))
    (S_iload_n C dX12_bestToRound_41 rfl (S_iret C hQ hr dX12_bestToRound_42)))
theorem dX12_bits_0 : decode cX12_bits 0 = .ok (.iconst 0, 1) := by decide +kernel
theorem dX12_bits_1 : decode cX12_bits 1 = .ok (.istore_n 2, 1) := by decide +kernel
theorem dX12_bits_2 : decode cX12_bits 2 = .ok (.lload_n 0, 1) := by decide +kernel
theorem dX12_bits_3 : decode cX12_bits 3 = .ok (.lstore_n 3, 1) := by decide +kernel
theorem dX12_bits_4 : decode cX12_bits 4 = .ok (.lload_n 3, 1) := by decide +kernel
theorem dX12_bits_5 : decode cX12_bits 5 = .ok (.lconst 0, 1) := by decide +kernel
theorem dX12_bits_6 : decode cX12_bits 6 = .ok (.lcmp, 1) := by decide +kernel
theorem dX12_bits_7 : decode cX12_bits 7 = .ok (.ifCond .eq 15, 3) := by decide +kernel
theorem dX12_bits_10 : decode cX12_bits 10 = .ok (.iinc 2 1, 3) := by decide +kernel
theorem dX12_bits_13 : decode cX12_bits 13 = .ok (.lload_n 3, 1) := by decide +kernel
theorem dX12_bits_14 : decode cX12_bits 14 = .ok (.lload_n 3, 1) := by decide +kernel
theorem dX12_bits_15 : decode cX12_bits 15 = .ok (.lconst 1, 1) := by decide +kernel
theorem dX12_bits_16 : decode cX12_bits 16 = .ok (.lsub, 1) := by decide +kernel
theorem dX12_bits_17 : decode cX12_bits 17 = .ok (.land, 1) := by decide +kernel
theorem dX12_bits_18 : decode cX12_bits 18 = .ok (.lstore_n 3, 1) := by decide +kernel
theorem dX12_bits_19 : decode cX12_bits 19 = .ok (.goto (-15), 3) := by decide +kernel
theorem dX12_bits_22 : decode cX12_bits 22 = .ok (.iload_n 2, 1) := by decide +kernel
theorem dX12_bits_23 : decode cX12_bits 23 = .ok (.ireturn, 1) := by decide +kernel
def k_X12_bits_0 (F : FT) (Q : QT) : KT := o_ic (nI 0) (o_istore 2 (o_lload 0 (o_lstore 3 (F 4))))
def k_X12_bits_4 (F : FT) (Q : QT) : KT := o_lload 3 (o_lc (lN 0) (o_lcmp (o_ifeq (F 22) (o_iinc 2 (nI 1) (o_lload 3 (o_lload 3 (o_lc (lN 1) (o_lsub (o_land (o_lstore 3 (F 4)))))))))))
def k_X12_bits_22 (F : FT) (Q : QT) : KT := o_iload 2 (o_iret Q)
set_option maxRecDepth 20000 in
theorem r_X12_bits {a0 : Int64} {n : Nat} {R : RR} {I : II} {J : JJ} {Q : QT} (hn : n + 0 ≤ 90) (h : ∀ F : FT, al_Wk F → al_Ok F (k_X12_bits_0 F Q) 0 → al_Ok F (k_X12_bits_4 F Q) 4 → al_Ok F (k_X12_bits_22 F Q) 22 → F 0 [some (.long a0), none, none, none, none] [] n R I J) : CT m_X12_bits 0 [.long a0] n R I J Q :=
  CT.of (by decide) hn (fun _ => rfl) (fun _ => Nat.le_of_ble_eq_true rfl) (fun F p l e s m args below meth c Rm t Q0 C hQ hr hm => h F (fun _ _ _ _ _ _ _ _ => S_wk C)
    (S_iconst C dX12_bits_0 (by decide +kernel) (S_istore_n C dX12_bits_1 rfl (Nat.le_of_ble_eq_true rfl) (S_lload_n C dX12_bits_2 rfl (S_lstore_n C dX12_bits_3 rfl (Nat.le_of_ble_eq_true rfl) (fun _ _ _ _ _ _ h9 => h9)))))
    (S_lload_n C dX12_bits_4 rfl (S_lconst C dX12_bits_5 (by decide +kernel) (S_lcmp C dX12_bits_6 (S_ifeq (tgt := 22) C dX12_bits_7 (by decide) (S_iinc C dX12_bits_10 (by decide +kernel) (Nat.le_of_ble_eq_true rfl) (S_lload_n C dX12_bits_13 rfl (S_lload_n C dX12_bits_14 rfl (S_lconst C dX12_bits_15 (by decide +kernel) (S_lsub C dX12_bits_16 (S_land C dX12_bits_17 (S_lstore_n C dX12_bits_18 rfl (Nat.le_of_ble_eq_true rfl) (S_goto (tgt := 4) C dX12_bits_19 (by decide)))))))))))))
    (S_iload_n C dX12_bits_22 rfl (S_iret C hQ hr dX12_bits_23)))
theorem dX12_copy_0 : decode cX12_copy 0 = .ok (.iload_n 1, 1) := by decide +kernel
theorem dX12_copy_1 : decode cX12_copy 1 = .ok (.invokestatic 298, 3) := by decide +kernel
theorem dX12_copy_4 : decode cX12_copy 4 = .ok (.ifCond .eq 10, 3) := by decide +kernel
theorem dX12_copy_7 : decode cX12_copy 7 = .ok (.iload_n 3, 1) := by decide +kernel
theorem dX12_copy_8 : decode cX12_copy 8 = .ok (.invokestatic 298, 3) := by decide +kernel
theorem dX12_copy_11 : decode cX12_copy 11 = .ok (.ifCond .ne 10, 3) := by decide +kernel
theorem dX12_copy_14 : decode cX12_copy 14 = .ok (.aload_n 0, 1) := by decide +kernel
theorem dX12_copy_15 : decode cX12_copy 15 = .ok (.ldc 80, 2) := by decide +kernel
theorem dX12_copy_17 : decode cX12_copy 17 = .ok (.invokevirtual 103, 3) := by decide +kernel
theorem dX12_copy_20 : decode cX12_copy 20 = .ok (.ireturn, 1) := by decide +kernel
theorem dX12_copy_21 : decode cX12_copy 21 = .ok (.aload_n 0, 1) := by decide +kernel
theorem dX12_copy_22 : decode cX12_copy 22 = .ok (.getfield 68, 3) := by decide +kernel
theorem dX12_copy_25 : decode cX12_copy 25 = .ok (.iload_n 1, 1) := by decide +kernel
theorem dX12_copy_26 : decode cX12_copy 26 = .ok (.iaload, 1) := by decide +kernel
theorem dX12_copy_27 : decode cX12_copy 27 = .ok (.ifCond .eq 12, 3) := by decide +kernel
theorem dX12_copy_30 : decode cX12_copy 30 = .ok (.aload_n 0, 1) := by decide +kernel
theorem dX12_copy_31 : decode cX12_copy 31 = .ok (.getfield 68, 3) := by decide +kernel
theorem dX12_copy_34 : decode cX12_copy 34 = .ok (.iload_n 3, 1) := by decide +kernel
theorem dX12_copy_35 : decode cX12_copy 35 = .ok (.iaload, 1) := by decide +kernel
theorem dX12_copy_36 : decode cX12_copy 36 = .ok (.ifCond .ne 11, 3) := by decide +kernel
theorem dX12_copy_39 : decode cX12_copy 39 = .ok (.aload_n 0, 1) := by decide +kernel
theorem dX12_copy_40 : decode cX12_copy 40 = .ok (.ldc_w 302, 3) := by decide +kernel
theorem dX12_copy_43 : decode cX12_copy 43 = .ok (.invokevirtual 103, 3) := by decide +kernel
theorem dX12_copy_46 : decode cX12_copy 46 = .ok (.ireturn, 1) := by decide +kernel
theorem dX12_copy_47 : decode cX12_copy 47 = .ok (.aload_n 0, 1) := by decide +kernel
theorem dX12_copy_48 : decode cX12_copy 48 = .ok (.getfield 68, 3) := by decide +kernel
theorem dX12_copy_51 : decode cX12_copy 51 = .ok (.iload_n 1, 1) := by decide +kernel
theorem dX12_copy_52 : decode cX12_copy 52 = .ok (.iaload, 1) := by decide +kernel
theorem dX12_copy_53 : decode cX12_copy 53 = .ok (.aload_n 0, 1) := by decide +kernel
theorem dX12_copy_54 : decode cX12_copy 54 = .ok (.getfield 68, 3) := by decide +kernel
theorem dX12_copy_57 : decode cX12_copy 57 = .ok (.iload_n 3, 1) := by decide +kernel
theorem dX12_copy_58 : decode cX12_copy 58 = .ok (.iaload, 1) := by decide +kernel
theorem dX12_copy_59 : decode cX12_copy 59 = .ok (.if_icmp .eq 10, 3) := by decide +kernel
theorem dX12_copy_62 : decode cX12_copy 62 = .ok (.aload_n 0, 1) := by decide +kernel
theorem dX12_copy_63 : decode cX12_copy 63 = .ok (.ldc 160, 2) := by decide +kernel
theorem dX12_copy_65 : decode cX12_copy 65 = .ok (.invokevirtual 103, 3) := by decide +kernel
theorem dX12_copy_68 : decode cX12_copy 68 = .ok (.ireturn, 1) := by decide +kernel
theorem dX12_copy_69 : decode cX12_copy 69 = .ok (.iload_n 2, 1) := by decide +kernel
theorem dX12_copy_70 : decode cX12_copy 70 = .ok (.ifCond .lt 48, 3) := by decide +kernel
theorem dX12_copy_73 : decode cX12_copy 73 = .ok (.iload 4, 2) := by decide +kernel
theorem dX12_copy_75 : decode cX12_copy 75 = .ok (.ifCond .lt 43, 3) := by decide +kernel
theorem dX12_copy_78 : decode cX12_copy 78 = .ok (.iload 5, 2) := by decide +kernel
theorem dX12_copy_80 : decode cX12_copy 80 = .ok (.ifCond .lt 38, 3) := by decide +kernel
theorem dX12_copy_83 : decode cX12_copy 83 = .ok (.iload_n 2, 1) := by decide +kernel
theorem dX12_copy_84 : decode cX12_copy 84 = .ok (.i2l, 1) := by decide +kernel
theorem dX12_copy_85 : decode cX12_copy 85 = .ok (.iload 5, 2) := by decide +kernel
theorem dX12_copy_87 : decode cX12_copy 87 = .ok (.i2l, 1) := by decide +kernel
theorem dX12_copy_88 : decode cX12_copy 88 = .ok (.ladd, 1) := by decide +kernel
theorem dX12_copy_89 : decode cX12_copy 89 = .ok (.aload_n 0, 1) := by decide +kernel
theorem dX12_copy_90 : decode cX12_copy 90 = .ok (.getfield 71, 3) := by decide +kernel
theorem dX12_copy_93 : decode cX12_copy 93 = .ok (.iload_n 1, 1) := by decide +kernel
theorem dX12_copy_94 : decode cX12_copy 94 = .ok (.iaload, 1) := by decide +kernel
theorem dX12_copy_95 : decode cX12_copy 95 = .ok (.i2l, 1) := by decide +kernel
theorem dX12_copy_96 : decode cX12_copy 96 = .ok (.lcmp, 1) := by decide +kernel
theorem dX12_copy_97 : decode cX12_copy 97 = .ok (.ifCond .gt 21, 3) := by decide +kernel
theorem dX12_copy_100 : decode cX12_copy 100 = .ok (.iload 4, 2) := by decide +kernel
theorem dX12_copy_102 : decode cX12_copy 102 = .ok (.i2l, 1) := by decide +kernel
theorem dX12_copy_103 : decode cX12_copy 103 = .ok (.iload 5, 2) := by decide +kernel
theorem dX12_copy_105 : decode cX12_copy 105 = .ok (.i2l, 1) := by decide +kernel
theorem dX12_copy_106 : decode cX12_copy 106 = .ok (.ladd, 1) := by decide +kernel
theorem dX12_copy_107 : decode cX12_copy 107 = .ok (.aload_n 0, 1) := by decide +kernel
theorem dX12_copy_108 : decode cX12_copy 108 = .ok (.getfield 71, 3) := by decide +kernel
theorem dX12_copy_111 : decode cX12_copy 111 = .ok (.iload_n 3, 1) := by decide +kernel
theorem dX12_copy_112 : decode cX12_copy 112 = .ok (.iaload, 1) := by decide +kernel
theorem dX12_copy_113 : decode cX12_copy 113 = .ok (.i2l, 1) := by decide +kernel
theorem dX12_copy_114 : decode cX12_copy 114 = .ok (.lcmp, 1) := by decide +kernel
theorem dX12_copy_115 : decode cX12_copy 115 = .ok (.ifCond .le 10, 3) := by decide +kernel
theorem dX12_copy_118 : decode cX12_copy 118 = .ok (.aload_n 0, 1) := by decide +kernel
theorem dX12_copy_119 : decode cX12_copy 119 = .ok (.ldc 80, 2) := by decide +kernel
theorem dX12_copy_121 : decode cX12_copy 121 = .ok (.invokevirtual 103, 3) := by decide +kernel
theorem dX12_copy_124 : decode cX12_copy 124 = .ok (.ireturn, 1) := by decide +kernel
theorem dX12_copy_125 : decode cX12_copy 125 = .ok (.iconst 0, 1) := by decide +kernel
theorem dX12_copy_126 : decode cX12_copy 126 = .ok (.istore 6, 2) := by decide +kernel
theorem dX12_copy_128 : decode cX12_copy 128 = .ok (.iload 6, 2) := by decide +kernel
theorem dX12_copy_130 : decode cX12_copy 130 = .ok (.iload 5, 2) := by decide +kernel
theorem dX12_copy_132 : decode cX12_copy 132 = .ok (.if_icmp .ge 30, 3) := by decide +kernel
theorem dX12_copy_135 : decode cX12_copy 135 = .ok (.aload_n 0, 1) := by decide +kernel
theorem dX12_copy_136 : decode cX12_copy 136 = .ok (.getfield 77, 3) := by decide +kernel
theorem dX12_copy_139 : decode cX12_copy 139 = .ok (.iload 6, 2) := by decide +kernel
theorem dX12_copy_141 : decode cX12_copy 141 = .ok (.aload_n 0, 1) := by decide +kernel
theorem dX12_copy_142 : decode cX12_copy 142 = .ok (.getfield 74, 3) := by decide +kernel
theorem dX12_copy_145 : decode cX12_copy 145 = .ok (.bipush 40, 2) := by decide +kernel
theorem dX12_copy_147 : decode cX12_copy 147 = .ok (.iload_n 1, 1) := by decide +kernel
theorem dX12_copy_148 : decode cX12_copy 148 = .ok (.imul, 1) := by decide +kernel
theorem dX12_copy_149 : decode cX12_copy 149 = .ok (.iload_n 2, 1) := by decide +kernel
theorem dX12_copy_150 : decode cX12_copy 150 = .ok (.iadd, 1) := by decide +kernel
theorem dX12_copy_151 : decode cX12_copy 151 = .ok (.iload 6, 2) := by decide +kernel
theorem dX12_copy_153 : decode cX12_copy 153 = .ok (.iadd, 1) := by decide +kernel
theorem dX12_copy_154 : decode cX12_copy 154 = .ok (.laload, 1) := by decide +kernel
theorem dX12_copy_155 : decode cX12_copy 155 = .ok (.lastore, 1) := by decide +kernel
theorem dX12_copy_156 : decode cX12_copy 156 = .ok (.iinc 6 1, 3) := by decide +kernel
theorem dX12_copy_159 : decode cX12_copy 159 = .ok (.goto (-31), 3) := by decide +kernel
theorem dX12_copy_162 : decode cX12_copy 162 = .ok (.iconst 0, 1) := by decide +kernel
theorem dX12_copy_163 : decode cX12_copy 163 = .ok (.istore 6, 2) := by decide +kernel
theorem dX12_copy_165 : decode cX12_copy 165 = .ok (.iload 6, 2) := by decide +kernel
theorem dX12_copy_167 : decode cX12_copy 167 = .ok (.iload 5, 2) := by decide +kernel
theorem dX12_copy_169 : decode cX12_copy 169 = .ok (.if_icmp .ge 31, 3) := by decide +kernel
theorem dX12_copy_172 : decode cX12_copy 172 = .ok (.aload_n 0, 1) := by decide +kernel
theorem dX12_copy_173 : decode cX12_copy 173 = .ok (.getfield 74, 3) := by decide +kernel
theorem dX12_copy_176 : decode cX12_copy 176 = .ok (.bipush 40, 2) := by decide +kernel
theorem dX12_copy_178 : decode cX12_copy 178 = .ok (.iload_n 3, 1) := by decide +kernel
theorem dX12_copy_179 : decode cX12_copy 179 = .ok (.imul, 1) := by decide +kernel
theorem dX12_copy_180 : decode cX12_copy 180 = .ok (.iload 4, 2) := by decide +kernel
theorem dX12_copy_182 : decode cX12_copy 182 = .ok (.iadd, 1) := by decide +kernel
theorem dX12_copy_183 : decode cX12_copy 183 = .ok (.iload 6, 2) := by decide +kernel
theorem dX12_copy_185 : decode cX12_copy 185 = .ok (.iadd, 1) := by decide +kernel
theorem dX12_copy_186 : decode cX12_copy 186 = .ok (.aload_n 0, 1) := by decide +kernel
theorem dX12_copy_187 : decode cX12_copy 187 = .ok (.getfield 77, 3) := by decide +kernel
theorem dX12_copy_190 : decode cX12_copy 190 = .ok (.iload 6, 2) := by decide +kernel
theorem dX12_copy_192 : decode cX12_copy 192 = .ok (.laload, 1) := by decide +kernel
theorem dX12_copy_193 : decode cX12_copy 193 = .ok (.lastore, 1) := by decide +kernel
theorem dX12_copy_194 : decode cX12_copy 194 = .ok (.iinc 6 1, 3) := by decide +kernel
theorem dX12_copy_197 : decode cX12_copy 197 = .ok (.goto (-32), 3) := by decide +kernel
theorem dX12_copy_200 : decode cX12_copy 200 = .ok (.iload 5, 2) := by decide +kernel
theorem dX12_copy_202 : decode cX12_copy 202 = .ok (.ireturn, 1) := by decide +kernel
def k_X12_copy_0 (F : FT) (Q : QT) : KT := o_iload 1 (o_cS m_X12_isSheet 1 (o_ifeq (F 14) (o_iload 3 (o_cS m_X12_isSheet 1 (o_ifne (F 21) (F 14))))))
def k_X12_copy_14 (F : FT) (Q : QT) : KT := o_aload 0 (o_ic (-1000000001) (o_cV 12 m_X12_finding 2 (o_iret Q)))
def k_X12_copy_21 (F : FT) (Q : QT) : KT := o_aload 0 (o_getR 12 22 (o_iload 1 (o_iald (o_ifeq (F 39) (o_aload 0 (o_getR 12 22 (o_iload 3 (o_iald (o_ifne (F 47) (F 39))))))))))
def k_X12_copy_39 (F : FT) (Q : QT) : KT := o_aload 0 (o_ic (-1000000006) (o_cV 12 m_X12_finding 2 (o_iret Q)))
def k_X12_copy_47 (F : FT) (Q : QT) : KT := o_aload 0 (o_getR 12 22 (o_iload 1 (o_iald (o_aload 0 (o_getR 12 22 (o_iload 3 (o_iald (o_iceq (F 69) (o_aload 0 (o_ic (-1000000003) (o_cV 12 m_X12_finding 2 (o_iret Q))))))))))))
def k_X12_copy_69 (F : FT) (Q : QT) : KT := o_iload 2 (o_iflt (F 118) (o_iload 4 (o_iflt (F 118) (o_iload 5 (o_iflt (F 118) (o_iload 2 (o_i2l (o_iload 5 (o_i2l (o_ladd (o_aload 0 (o_getR 12 23 (o_iload 1 (o_iald (o_i2l (o_lcmp (o_ifgt (F 118) (o_iload 4 (o_i2l (o_iload 5 (o_i2l (o_ladd (o_aload 0 (o_getR 12 23 (o_iload 3 (o_iald (o_i2l (o_lcmp (o_ifle (F 125) (F 118))))))))))))))))))))))))))))))
def k_X12_copy_118 (F : FT) (Q : QT) : KT := o_aload 0 (o_ic (-1000000001) (o_cV 12 m_X12_finding 2 (o_iret Q)))
def k_X12_copy_125 (F : FT) (Q : QT) : KT := o_ic (nI 0) (o_istore 6 (F 128))
def k_X12_copy_128 (F : FT) (Q : QT) : KT := o_iload 6 (o_iload 5 (o_icge (F 162) (o_aload 0 (o_getR 12 25 (o_iload 6 (o_aload 0 (o_getR 12 24 (o_ic (nI 40) (o_iload 1 (o_imul (o_iload 2 (o_iadd (o_iload 6 (o_iadd (o_lald (o_last (o_iinc 6 (nI 1) (F 128))))))))))))))))))
def k_X12_copy_162 (F : FT) (Q : QT) : KT := o_ic (nI 0) (o_istore 6 (F 165))
def k_X12_copy_165 (F : FT) (Q : QT) : KT := o_iload 6 (o_iload 5 (o_icge (F 200) (o_aload 0 (o_getR 12 24 (o_ic (nI 40) (o_iload 3 (o_imul (o_iload 4 (o_iadd (o_iload 6 (o_iadd (o_aload 0 (o_getR 12 25 (o_iload 6 (o_lald (o_last (o_iinc 6 (nI 1) (F 165))))))))))))))))))
def k_X12_copy_200 (F : FT) (Q : QT) : KT := o_iload 5 (o_iret Q)
set_option maxRecDepth 20000 in
theorem r_X12_copy {a0 : Nat} {a1 : Int32} {a2 : Int32} {a3 : Int32} {a4 : Int32} {a5 : Int32} {n : Nat} {R : RR} {I : II} {J : JJ} {Q : QT} (hn : n + 0 ≤ 90) (h : ∀ F : FT, al_Wk F → al_Ok F (k_X12_copy_0 F Q) 0 → al_Ok F (k_X12_copy_14 F Q) 14 → al_Ok F (k_X12_copy_21 F Q) 21 → al_Ok F (k_X12_copy_39 F Q) 39 → al_Ok F (k_X12_copy_47 F Q) 47 → al_Ok F (k_X12_copy_69 F Q) 69 → al_Ok F (k_X12_copy_118 F Q) 118 → al_Ok F (k_X12_copy_125 F Q) 125 → al_Ok F (k_X12_copy_128 F Q) 128 → al_Ok F (k_X12_copy_162 F Q) 162 → al_Ok F (k_X12_copy_165 F Q) 165 → al_Ok F (k_X12_copy_200 F Q) 200 → F 0 [some (.ref a0), some (.int a1), some (.int a2), some (.int a3), some (.int a4), some (.int a5), none] [] n R I J) : CT m_X12_copy 0 [.ref a0, .int a1, .int a2, .int a3, .int a4, .int a5] n R I J Q :=
  CT.of (by decide) hn (fun _ => rfl) (fun _ => Nat.le_of_ble_eq_true rfl) (fun F p l e s m args below meth c Rm t Q0 C hQ hr hm => h F (fun _ _ _ _ _ _ _ _ => S_wk C)
    (S_iload_n C dX12_copy_0 rfl (S_cS C ok_X12_isSheet (al_at 1292 (by decide +kernel) rfl) (Nat.le_of_ble_eq_true rfl) (Nat.le_of_ble_eq_true rfl) dX12_copy_1 (S_ifeq (tgt := 14) C dX12_copy_4 (by decide) (S_iload_n C dX12_copy_7 rfl (S_cS C ok_X12_isSheet (al_at 1292 (by decide +kernel) rfl) (Nat.le_of_ble_eq_true rfl) (Nat.le_of_ble_eq_true rfl) dX12_copy_8 (S_ifne (tgt := 21) C dX12_copy_11 (by decide) (fun _ _ _ _ _ _ h9 => h9)))))))
    (S_aload_n C dX12_copy_14 rfl (S_ldc C dX12_copy_15 (al_at 1020 (by decide +kernel) rfl) (S_cV (ci := 12) C ok_X12_finding rfl (al_at 1021 (by decide +kernel) rfl) (Nat.le_of_ble_eq_true rfl) (Nat.le_of_ble_eq_true rfl) dX12_copy_17 (S_iret C hQ hr dX12_copy_20))))
    (S_aload_n C dX12_copy_21 rfl (S_getR (ci := 12) (j := 22) C inG12 rfl (Nat.le_of_ble_eq_true rfl) rfl (al_at 940 (by decide +kernel) rfl) dX12_copy_22 (S_iload_n C dX12_copy_25 rfl (S_iald C dX12_copy_26 (S_ifeq (tgt := 39) C dX12_copy_27 (by decide) (S_aload_n C dX12_copy_30 rfl (S_getR (ci := 12) (j := 22) C inG12 rfl (Nat.le_of_ble_eq_true rfl) rfl (al_at 940 (by decide +kernel) rfl) dX12_copy_31 (S_iload_n C dX12_copy_34 rfl (S_iald C dX12_copy_35 (S_ifne (tgt := 47) C dX12_copy_36 (by decide) (fun _ _ _ _ _ _ h9 => h9)))))))))))
    (S_aload_n C dX12_copy_39 rfl (S_ldcw C dX12_copy_40 (al_at 1300 (by decide +kernel) rfl) (S_cV (ci := 12) C ok_X12_finding rfl (al_at 1021 (by decide +kernel) rfl) (Nat.le_of_ble_eq_true rfl) (Nat.le_of_ble_eq_true rfl) dX12_copy_43 (S_iret C hQ hr dX12_copy_46))))
    (S_aload_n C dX12_copy_47 rfl (S_getR (ci := 12) (j := 22) C inG12 rfl (Nat.le_of_ble_eq_true rfl) rfl (al_at 940 (by decide +kernel) rfl) dX12_copy_48 (S_iload_n C dX12_copy_51 rfl (S_iald C dX12_copy_52 (S_aload_n C dX12_copy_53 rfl (S_getR (ci := 12) (j := 22) C inG12 rfl (Nat.le_of_ble_eq_true rfl) rfl (al_at 940 (by decide +kernel) rfl) dX12_copy_54 (S_iload_n C dX12_copy_57 rfl (S_iald C dX12_copy_58 (S_icmpeq (tgt := 69) C dX12_copy_59 (by decide) (S_aload_n C dX12_copy_62 rfl (S_ldc C dX12_copy_63 (al_at 1129 (by decide +kernel) rfl) (S_cV (ci := 12) C ok_X12_finding rfl (al_at 1021 (by decide +kernel) rfl) (Nat.le_of_ble_eq_true rfl) (Nat.le_of_ble_eq_true rfl) dX12_copy_65 (S_iret C hQ hr dX12_copy_68)))))))))))))
    (S_iload_n C dX12_copy_69 rfl (S_iflt (tgt := 118) C dX12_copy_70 (by decide) (S_iload C dX12_copy_73 (S_iflt (tgt := 118) C dX12_copy_75 (by decide) (S_iload C dX12_copy_78 (S_iflt (tgt := 118) C dX12_copy_80 (by decide) (S_iload_n C dX12_copy_83 rfl (S_i2l C dX12_copy_84 (S_iload C dX12_copy_85 (S_i2l C dX12_copy_87 (S_ladd C dX12_copy_88 (S_aload_n C dX12_copy_89 rfl (S_getR (ci := 12) (j := 23) C inG12 rfl (Nat.le_of_ble_eq_true rfl) rfl (al_at 941 (by decide +kernel) rfl) dX12_copy_90 (S_iload_n C dX12_copy_93 rfl (S_iald C dX12_copy_94 (S_i2l C dX12_copy_95 (S_lcmp C dX12_copy_96 (S_ifgt (tgt := 118) C dX12_copy_97 (by decide) (S_iload C dX12_copy_100 (S_i2l C dX12_copy_102 (S_iload C dX12_copy_103 (S_i2l C dX12_copy_105 (S_ladd C dX12_copy_106 (S_aload_n C dX12_copy_107 rfl (S_getR (ci := 12) (j := 23) C inG12 rfl (Nat.le_of_ble_eq_true rfl) rfl (al_at 941 (by decide +kernel) rfl) dX12_copy_108 (S_iload_n C dX12_copy_111 rfl (S_iald C dX12_copy_112 (S_i2l C dX12_copy_113 (S_lcmp C dX12_copy_114 (S_ifle (tgt := 125) C dX12_copy_115 (by decide) (fun _ _ _ _ _ _ h9 => h9)))))))))))))))))))))))))))))))
    (S_aload_n C dX12_copy_118 rfl (S_ldc C dX12_copy_119 (al_at 1020 (by decide +kernel) rfl) (S_cV (ci := 12) C ok_X12_finding rfl (al_at 1021 (by decide +kernel) rfl) (Nat.le_of_ble_eq_true rfl) (Nat.le_of_ble_eq_true rfl) dX12_copy_121 (S_iret C hQ hr dX12_copy_124))))
    (S_iconst C dX12_copy_125 (by decide +kernel) (S_istore C dX12_copy_126 (Nat.le_of_ble_eq_true rfl) (fun _ _ _ _ _ _ h9 => h9)))
    (S_iload C dX12_copy_128 (S_iload C dX12_copy_130 (S_icmpge (tgt := 162) C dX12_copy_132 (by decide) (S_aload_n C dX12_copy_135 rfl (S_getR (ci := 12) (j := 25) C inG12 rfl (Nat.le_of_ble_eq_true rfl) rfl (al_at 943 (by decide +kernel) rfl) dX12_copy_136 (S_iload C dX12_copy_139 (S_aload_n C dX12_copy_141 rfl (S_getR (ci := 12) (j := 24) C inG12 rfl (Nat.le_of_ble_eq_true rfl) rfl (al_at 942 (by decide +kernel) rfl) dX12_copy_142 (S_bipush C dX12_copy_145 (by decide +kernel) (S_iload_n C dX12_copy_147 rfl (S_imul C dX12_copy_148 (S_iload_n C dX12_copy_149 rfl (S_iadd C dX12_copy_150 (S_iload C dX12_copy_151 (S_iadd C dX12_copy_153 (S_lald C dX12_copy_154 (S_last C dX12_copy_155 (S_iinc C dX12_copy_156 (by decide +kernel) (Nat.le_of_ble_eq_true rfl) (S_goto (tgt := 128) C dX12_copy_159 (by decide))))))))))))))))))))
    (S_iconst C dX12_copy_162 (by decide +kernel) (S_istore C dX12_copy_163 (Nat.le_of_ble_eq_true rfl) (fun _ _ _ _ _ _ h9 => h9)))
    (S_iload C dX12_copy_165 (S_iload C dX12_copy_167 (S_icmpge (tgt := 200) C dX12_copy_169 (by decide) (S_aload_n C dX12_copy_172 rfl (S_getR (ci := 12) (j := 24) C inG12 rfl (Nat.le_of_ble_eq_true rfl) rfl (al_at 942 (by decide +kernel) rfl) dX12_copy_173 (S_bipush C dX12_copy_176 (by decide +kernel) (S_iload_n C dX12_copy_178 rfl (S_imul C dX12_copy_179 (S_iload C dX12_copy_180 (S_iadd C dX12_copy_182 (S_iload C dX12_copy_183 (S_iadd C dX12_copy_185 (S_aload_n C dX12_copy_186 rfl (S_getR (ci := 12) (j := 25) C inG12 rfl (Nat.le_of_ble_eq_true rfl) rfl (al_at 943 (by decide +kernel) rfl) dX12_copy_187 (S_iload C dX12_copy_190 (S_lald C dX12_copy_192 (S_last C dX12_copy_193 (S_iinc C dX12_copy_194 (by decide +kernel) (Nat.le_of_ble_eq_true rfl) (S_goto (tgt := 165) C dX12_copy_197 (by decide))))))))))))))))))))
    (S_iload C dX12_copy_200 (S_iret C hQ hr dX12_copy_202)))
theorem dX12_copyRow_0 : decode cX12_copyRow 0 = .ok (.iconst 0, 1) := by decide +kernel
theorem dX12_copyRow_1 : decode cX12_copyRow 1 = .ok (.istore_n 2, 1) := by decide +kernel
theorem dX12_copyRow_2 : decode cX12_copyRow 2 = .ok (.iload_n 2, 1) := by decide +kernel
theorem dX12_copyRow_3 : decode cX12_copyRow 3 = .ok (.sipush 143, 3) := by decide +kernel
theorem dX12_copyRow_6 : decode cX12_copyRow 6 = .ok (.if_icmp .ge 15, 3) := by decide +kernel
theorem dX12_copyRow_9 : decode cX12_copyRow 9 = .ok (.aload_n 1, 1) := by decide +kernel
theorem dX12_copyRow_10 : decode cX12_copyRow 10 = .ok (.iload_n 2, 1) := by decide +kernel
theorem dX12_copyRow_11 : decode cX12_copyRow 11 = .ok (.aload_n 0, 1) := by decide +kernel
theorem dX12_copyRow_12 : decode cX12_copyRow 12 = .ok (.iload_n 2, 1) := by decide +kernel
theorem dX12_copyRow_13 : decode cX12_copyRow 13 = .ok (.iaload, 1) := by decide +kernel
theorem dX12_copyRow_14 : decode cX12_copyRow 14 = .ok (.iastore, 1) := by decide +kernel
theorem dX12_copyRow_15 : decode cX12_copyRow 15 = .ok (.iinc 2 1, 3) := by decide +kernel
theorem dX12_copyRow_18 : decode cX12_copyRow 18 = .ok (.goto (-16), 3) := by decide +kernel
theorem dX12_copyRow_21 : decode cX12_copyRow 21 = .ok (.return_, 1) := by decide +kernel
def k_X12_copyRow_0 (F : FT) (Q : QT) : KT := o_ic (nI 0) (o_istore 2 (F 2))
def k_X12_copyRow_2 (F : FT) (Q : QT) : KT := o_iload 2 (o_ic (nI 143) (o_icge (F 21) (o_aload 1 (o_iload 2 (o_aload 0 (o_iload 2 (o_iald (o_iast (o_iinc 2 (nI 1) (F 2))))))))))
def k_X12_copyRow_21 (F : FT) (Q : QT) : KT := o_vret Q
set_option maxRecDepth 20000 in
theorem r_X12_copyRow {a0 : Nat} {a1 : Nat} {n : Nat} {R : RR} {I : II} {J : JJ} {Q : QT} (hn : n + 0 ≤ 90) (h : ∀ F : FT, al_Wk F → al_Ok F (k_X12_copyRow_0 F Q) 0 → al_Ok F (k_X12_copyRow_2 F Q) 2 → al_Ok F (k_X12_copyRow_21 F Q) 21 → F 0 [some (.ref a0), some (.ref a1), none] [] n R I J) : CT m_X12_copyRow 0 [.ref a0, .ref a1] n R I J Q :=
  CT.of (by decide) hn (fun _ => rfl) (fun _ => Nat.le_of_ble_eq_true rfl) (fun F p l e s m args below meth c Rm t Q0 C hQ hr hm => h F (fun _ _ _ _ _ _ _ _ => S_wk C)
    (S_iconst C dX12_copyRow_0 (by decide +kernel) (S_istore_n C dX12_copyRow_1 rfl (Nat.le_of_ble_eq_true rfl) (fun _ _ _ _ _ _ h9 => h9)))
    (S_iload_n C dX12_copyRow_2 rfl (S_sipush C dX12_copyRow_3 (by decide +kernel) (S_icmpge (tgt := 21) C dX12_copyRow_6 (by decide) (S_aload_n C dX12_copyRow_9 rfl (S_iload_n C dX12_copyRow_10 rfl (S_aload_n C dX12_copyRow_11 rfl (S_iload_n C dX12_copyRow_12 rfl (S_iald C dX12_copyRow_13 (S_iast C dX12_copyRow_14 (S_iinc C dX12_copyRow_15 (by decide +kernel) (Nat.le_of_ble_eq_true rfl) (S_goto (tgt := 2) C dX12_copyRow_18 (by decide))))))))))))
    (S_vret C hQ hr dX12_copyRow_21))
theorem dX12_corner_0 : decode cX12_corner 0 = .ok (.aload_n 0, 1) := by decide +kernel
theorem dX12_corner_1 : decode cX12_corner 1 = .ok (.iload_n 1, 1) := by decide +kernel
theorem dX12_corner_2 : decode cX12_corner 2 = .ok (.invokevirtual 142, 3) := by decide +kernel
theorem dX12_corner_5 : decode cX12_corner 5 = .ok (.ifCond .eq 19, 3) := by decide +kernel
theorem dX12_corner_8 : decode cX12_corner 8 = .ok (.iload_n 2, 1) := by decide +kernel
theorem dX12_corner_9 : decode cX12_corner 9 = .ok (.invokestatic 164, 3) := by decide +kernel
theorem dX12_corner_12 : decode cX12_corner 12 = .ok (.ifCond .eq 12, 3) := by decide +kernel
theorem dX12_corner_15 : decode cX12_corner 15 = .ok (.aload_n 0, 1) := by decide +kernel
theorem dX12_corner_16 : decode cX12_corner 16 = .ok (.iload_n 1, 1) := by decide +kernel
theorem dX12_corner_17 : decode cX12_corner 17 = .ok (.iload_n 2, 1) := by decide +kernel
theorem dX12_corner_18 : decode cX12_corner 18 = .ok (.invokevirtual 161, 3) := by decide +kernel
theorem dX12_corner_21 : decode cX12_corner 21 = .ok (.goto 9, 3) := by decide +kernel
theorem dX12_corner_24 : decode cX12_corner 24 = .ok (.aload_n 0, 1) := by decide +kernel
theorem dX12_corner_25 : decode cX12_corner 25 = .ok (.ldc 80, 2) := by decide +kernel
theorem dX12_corner_27 : decode cX12_corner 27 = .ok (.invokevirtual 103, 3) := by decide +kernel
theorem dX12_corner_30 : decode cX12_corner 30 = .ok (.ireturn, 1) := by decide +kernel
def k_X12_corner_0 (F : FT) (Q : QT) : KT := o_aload 0 (o_iload 1 (o_cV 12 m_X12_isHouse 2 (o_ifeq (F 24) (o_iload 2 (o_cS m_X12_isPoint 1 (o_ifeq (F 24) (o_aload 0 (o_iload 1 (o_iload 2 (o_cV 12 m_X12_cornerOf 3 (F 30)))))))))))
def k_X12_corner_24 (F : FT) (Q : QT) : KT := o_aload 0 (o_ic (-1000000001) (o_cV 12 m_X12_finding 2 (F 30)))
def k_X12_corner_30 (F : FT) (Q : QT) : KT := o_iret Q
set_option maxRecDepth 20000 in
theorem r_X12_corner {a0 : Nat} {a1 : Int32} {a2 : Int32} {n : Nat} {R : RR} {I : II} {J : JJ} {Q : QT} (hn : n + 0 ≤ 90) (h : ∀ F : FT, al_Wk F → al_Ok F (k_X12_corner_0 F Q) 0 → al_Ok F (k_X12_corner_24 F Q) 24 → al_Ok F (k_X12_corner_30 F Q) 30 → F 0 [some (.ref a0), some (.int a1), some (.int a2)] [] n R I J) : CT m_X12_corner 0 [.ref a0, .int a1, .int a2] n R I J Q :=
  CT.of (by decide) hn (fun _ => rfl) (fun _ => Nat.le_of_ble_eq_true rfl) (fun F p l e s m args below meth c Rm t Q0 C hQ hr hm => h F (fun _ _ _ _ _ _ _ _ => S_wk C)
    (S_aload_n C dX12_corner_0 rfl (S_iload_n C dX12_corner_1 rfl (S_cV (ci := 12) C ok_X12_isHouse rfl (al_at 1042 (by decide +kernel) rfl) (Nat.le_of_ble_eq_true rfl) (Nat.le_of_ble_eq_true rfl) dX12_corner_2 (S_ifeq (tgt := 24) C dX12_corner_5 (by decide) (S_iload_n C dX12_corner_8 rfl (S_cS C ok_X12_isPoint (al_at 1134 (by decide +kernel) rfl) (Nat.le_of_ble_eq_true rfl) (Nat.le_of_ble_eq_true rfl) dX12_corner_9 (S_ifeq (tgt := 24) C dX12_corner_12 (by decide) (S_aload_n C dX12_corner_15 rfl (S_iload_n C dX12_corner_16 rfl (S_iload_n C dX12_corner_17 rfl (S_cV (ci := 12) C ok_X12_cornerOf rfl (al_at 1058 (by decide +kernel) rfl) (Nat.le_of_ble_eq_true rfl) (Nat.le_of_ble_eq_true rfl) dX12_corner_18 (S_goto (tgt := 30) C dX12_corner_21 (by decide)))))))))))))
    (S_aload_n C dX12_corner_24 rfl (S_ldc C dX12_corner_25 (al_at 1020 (by decide +kernel) rfl) (S_cV (ci := 12) C ok_X12_finding rfl (al_at 1021 (by decide +kernel) rfl) (Nat.le_of_ble_eq_true rfl) (Nat.le_of_ble_eq_true rfl) dX12_corner_27 (fun _ _ _ _ _ _ h9 => h9))))
    (S_iret C hQ hr dX12_corner_30))
theorem dX12_cornerOf_0 : decode cX12_cornerOf 0 = .ok (.iload_n 2, 1) := by decide +kernel
theorem dX12_cornerOf_1 : decode cX12_cornerOf 1 = .ok (.bipush 9, 2) := by decide +kernel
theorem dX12_cornerOf_3 : decode cX12_cornerOf 3 = .ok (.idiv, 1) := by decide +kernel
theorem dX12_cornerOf_4 : decode cX12_cornerOf 4 = .ok (.istore_n 3, 1) := by decide +kernel
theorem dX12_cornerOf_5 : decode cX12_cornerOf 5 = .ok (.iload_n 2, 1) := by decide +kernel
theorem dX12_cornerOf_6 : decode cX12_cornerOf 6 = .ok (.bipush 9, 2) := by decide +kernel
theorem dX12_cornerOf_8 : decode cX12_cornerOf 8 = .ok (.irem, 1) := by decide +kernel
theorem dX12_cornerOf_9 : decode cX12_cornerOf 9 = .ok (.istore 4, 2) := by decide +kernel
theorem dX12_cornerOf_11 : decode cX12_cornerOf 11 = .ok (.bipush 10, 2) := by decide +kernel
theorem dX12_cornerOf_13 : decode cX12_cornerOf 13 = .ok (.iload_n 1, 1) := by decide +kernel
theorem dX12_cornerOf_14 : decode cX12_cornerOf 14 = .ok (.iadd, 1) := by decide +kernel
theorem dX12_cornerOf_15 : decode cX12_cornerOf 15 = .ok (.istore 5, 2) := by decide +kernel
theorem dX12_cornerOf_17 : decode cX12_cornerOf 17 = .ok (.aload_n 0, 1) := by decide +kernel
theorem dX12_cornerOf_18 : decode cX12_cornerOf 18 = .ok (.iload_n 3, 1) := by decide +kernel
theorem dX12_cornerOf_19 : decode cX12_cornerOf 19 = .ok (.iconst 1, 1) := by decide +kernel
theorem dX12_cornerOf_20 : decode cX12_cornerOf 20 = .ok (.isub, 1) := by decide +kernel
theorem dX12_cornerOf_21 : decode cX12_cornerOf 21 = .ok (.iload 4, 2) := by decide +kernel
theorem dX12_cornerOf_23 : decode cX12_cornerOf 23 = .ok (.iconst 1, 1) := by decide +kernel
theorem dX12_cornerOf_24 : decode cX12_cornerOf 24 = .ok (.isub, 1) := by decide +kernel
theorem dX12_cornerOf_25 : decode cX12_cornerOf 25 = .ok (.invokevirtual 114, 3) := by decide +kernel
theorem dX12_cornerOf_28 : decode cX12_cornerOf 28 = .ok (.iload 5, 2) := by decide +kernel
theorem dX12_cornerOf_30 : decode cX12_cornerOf 30 = .ok (.if_icmp .ne 7, 3) := by decide +kernel
theorem dX12_cornerOf_33 : decode cX12_cornerOf 33 = .ok (.iconst 1, 1) := by decide +kernel
theorem dX12_cornerOf_34 : decode cX12_cornerOf 34 = .ok (.goto 4, 3) := by decide +kernel
theorem dX12_cornerOf_37 : decode cX12_cornerOf 37 = .ok (.iconst 0, 1) := by decide +kernel
theorem dX12_cornerOf_38 : decode cX12_cornerOf 38 = .ok (.istore 6, 2) := by decide +kernel
theorem dX12_cornerOf_40 : decode cX12_cornerOf 40 = .ok (.aload_n 0, 1) := by decide +kernel
theorem dX12_cornerOf_41 : decode cX12_cornerOf 41 = .ok (.iload_n 3, 1) := by decide +kernel
theorem dX12_cornerOf_42 : decode cX12_cornerOf 42 = .ok (.iconst 1, 1) := by decide +kernel
theorem dX12_cornerOf_43 : decode cX12_cornerOf 43 = .ok (.isub, 1) := by decide +kernel
theorem dX12_cornerOf_44 : decode cX12_cornerOf 44 = .ok (.iload 4, 2) := by decide +kernel
theorem dX12_cornerOf_46 : decode cX12_cornerOf 46 = .ok (.invokevirtual 114, 3) := by decide +kernel
theorem dX12_cornerOf_49 : decode cX12_cornerOf 49 = .ok (.iload 5, 2) := by decide +kernel
theorem dX12_cornerOf_51 : decode cX12_cornerOf 51 = .ok (.if_icmp .ne 7, 3) := by decide +kernel
theorem dX12_cornerOf_54 : decode cX12_cornerOf 54 = .ok (.iconst 1, 1) := by decide +kernel
theorem dX12_cornerOf_55 : decode cX12_cornerOf 55 = .ok (.goto 4, 3) := by decide +kernel
theorem dX12_cornerOf_58 : decode cX12_cornerOf 58 = .ok (.iconst 0, 1) := by decide +kernel
theorem dX12_cornerOf_59 : decode cX12_cornerOf 59 = .ok (.istore 7, 2) := by decide +kernel
theorem dX12_cornerOf_61 : decode cX12_cornerOf 61 = .ok (.aload_n 0, 1) := by decide +kernel
theorem dX12_cornerOf_62 : decode cX12_cornerOf 62 = .ok (.iload_n 3, 1) := by decide +kernel
theorem dX12_cornerOf_63 : decode cX12_cornerOf 63 = .ok (.iload 4, 2) := by decide +kernel
theorem dX12_cornerOf_65 : decode cX12_cornerOf 65 = .ok (.iconst 1, 1) := by decide +kernel
theorem dX12_cornerOf_66 : decode cX12_cornerOf 66 = .ok (.isub, 1) := by decide +kernel
theorem dX12_cornerOf_67 : decode cX12_cornerOf 67 = .ok (.invokevirtual 114, 3) := by decide +kernel
theorem dX12_cornerOf_70 : decode cX12_cornerOf 70 = .ok (.iload 5, 2) := by decide +kernel
theorem dX12_cornerOf_72 : decode cX12_cornerOf 72 = .ok (.if_icmp .ne 7, 3) := by decide +kernel
theorem dX12_cornerOf_75 : decode cX12_cornerOf 75 = .ok (.iconst 1, 1) := by decide +kernel
theorem dX12_cornerOf_76 : decode cX12_cornerOf 76 = .ok (.goto 4, 3) := by decide +kernel
theorem dX12_cornerOf_79 : decode cX12_cornerOf 79 = .ok (.iconst 0, 1) := by decide +kernel
theorem dX12_cornerOf_80 : decode cX12_cornerOf 80 = .ok (.istore 8, 2) := by decide +kernel
theorem dX12_cornerOf_82 : decode cX12_cornerOf 82 = .ok (.aload_n 0, 1) := by decide +kernel
theorem dX12_cornerOf_83 : decode cX12_cornerOf 83 = .ok (.iload_n 3, 1) := by decide +kernel
theorem dX12_cornerOf_84 : decode cX12_cornerOf 84 = .ok (.iload 4, 2) := by decide +kernel
theorem dX12_cornerOf_86 : decode cX12_cornerOf 86 = .ok (.invokevirtual 114, 3) := by decide +kernel
theorem dX12_cornerOf_89 : decode cX12_cornerOf 89 = .ok (.iload 5, 2) := by decide +kernel
theorem dX12_cornerOf_91 : decode cX12_cornerOf 91 = .ok (.if_icmp .ne 7, 3) := by decide +kernel
theorem dX12_cornerOf_94 : decode cX12_cornerOf 94 = .ok (.iconst 1, 1) := by decide +kernel
theorem dX12_cornerOf_95 : decode cX12_cornerOf 95 = .ok (.goto 4, 3) := by decide +kernel
theorem dX12_cornerOf_98 : decode cX12_cornerOf 98 = .ok (.iconst 0, 1) := by decide +kernel
theorem dX12_cornerOf_99 : decode cX12_cornerOf 99 = .ok (.istore 9, 2) := by decide +kernel
theorem dX12_cornerOf_101 : decode cX12_cornerOf 101 = .ok (.iload 6, 2) := by decide +kernel
theorem dX12_cornerOf_103 : decode cX12_cornerOf 103 = .ok (.ifCond .eq 7, 3) := by decide +kernel
theorem dX12_cornerOf_106 : decode cX12_cornerOf 106 = .ok (.iconst 1, 1) := by decide +kernel
theorem dX12_cornerOf_107 : decode cX12_cornerOf 107 = .ok (.goto 4, 3) := by decide +kernel
theorem dX12_cornerOf_110 : decode cX12_cornerOf 110 = .ok (.iconst 0, 1) := by decide +kernel
theorem dX12_cornerOf_111 : decode cX12_cornerOf 111 = .ok (.iload 7, 2) := by decide +kernel
theorem dX12_cornerOf_113 : decode cX12_cornerOf 113 = .ok (.ifCond .eq 7, 3) := by decide +kernel
theorem dX12_cornerOf_116 : decode cX12_cornerOf 116 = .ok (.iconst 1, 1) := by decide +kernel
theorem dX12_cornerOf_117 : decode cX12_cornerOf 117 = .ok (.goto 4, 3) := by decide +kernel
theorem dX12_cornerOf_120 : decode cX12_cornerOf 120 = .ok (.iconst 0, 1) := by decide +kernel
theorem dX12_cornerOf_121 : decode cX12_cornerOf 121 = .ok (.iadd, 1) := by decide +kernel
theorem dX12_cornerOf_122 : decode cX12_cornerOf 122 = .ok (.iload 8, 2) := by decide +kernel
theorem dX12_cornerOf_124 : decode cX12_cornerOf 124 = .ok (.ifCond .eq 7, 3) := by decide +kernel
theorem dX12_cornerOf_127 : decode cX12_cornerOf 127 = .ok (.iconst 1, 1) := by decide +kernel
theorem dX12_cornerOf_128 : decode cX12_cornerOf 128 = .ok (.goto 4, 3) := by decide +kernel
theorem dX12_cornerOf_131 : decode cX12_cornerOf 131 = .ok (.iconst 0, 1) := by decide +kernel
theorem dX12_cornerOf_132 : decode cX12_cornerOf 132 = .ok (.iadd, 1) := by decide +kernel
theorem dX12_cornerOf_133 : decode cX12_cornerOf 133 = .ok (.iload 9, 2) := by decide +kernel
theorem dX12_cornerOf_135 : decode cX12_cornerOf 135 = .ok (.ifCond .eq 7, 3) := by decide +kernel
theorem dX12_cornerOf_138 : decode cX12_cornerOf 138 = .ok (.iconst 1, 1) := by decide +kernel
theorem dX12_cornerOf_139 : decode cX12_cornerOf 139 = .ok (.goto 4, 3) := by decide +kernel
theorem dX12_cornerOf_142 : decode cX12_cornerOf 142 = .ok (.iconst 0, 1) := by decide +kernel
theorem dX12_cornerOf_143 : decode cX12_cornerOf 143 = .ok (.iadd, 1) := by decide +kernel
theorem dX12_cornerOf_144 : decode cX12_cornerOf 144 = .ok (.istore 10, 2) := by decide +kernel
theorem dX12_cornerOf_146 : decode cX12_cornerOf 146 = .ok (.iload 10, 2) := by decide +kernel
theorem dX12_cornerOf_148 : decode cX12_cornerOf 148 = .ok (.iconst 1, 1) := by decide +kernel
theorem dX12_cornerOf_149 : decode cX12_cornerOf 149 = .ok (.if_icmp .ne 7, 3) := by decide +kernel
theorem dX12_cornerOf_152 : decode cX12_cornerOf 152 = .ok (.iconst 1, 1) := by decide +kernel
theorem dX12_cornerOf_153 : decode cX12_cornerOf 153 = .ok (.goto 31, 3) := by decide +kernel
theorem dX12_cornerOf_156 : decode cX12_cornerOf 156 = .ok (.iload 10, 2) := by decide +kernel
theorem dX12_cornerOf_158 : decode cX12_cornerOf 158 = .ok (.iconst 3, 1) := by decide +kernel
theorem dX12_cornerOf_159 : decode cX12_cornerOf 159 = .ok (.if_icmp .ne 7, 3) := by decide +kernel
theorem dX12_cornerOf_162 : decode cX12_cornerOf 162 = .ok (.iconst 3, 1) := by decide +kernel
theorem dX12_cornerOf_163 : decode cX12_cornerOf 163 = .ok (.goto 21, 3) := by decide +kernel
theorem dX12_cornerOf_166 : decode cX12_cornerOf 166 = .ok (.iload 10, 2) := by decide +kernel
theorem dX12_cornerOf_168 : decode cX12_cornerOf 168 = .ok (.iconst 2, 1) := by decide +kernel
theorem dX12_cornerOf_169 : decode cX12_cornerOf 169 = .ok (.if_icmp .ne 14, 3) := by decide +kernel
theorem dX12_cornerOf_172 : decode cX12_cornerOf 172 = .ok (.iload 6, 2) := by decide +kernel
theorem dX12_cornerOf_174 : decode cX12_cornerOf 174 = .ok (.iload 9, 2) := by decide +kernel
theorem dX12_cornerOf_176 : decode cX12_cornerOf 176 = .ok (.if_icmp .ne 7, 3) := by decide +kernel
theorem dX12_cornerOf_179 : decode cX12_cornerOf 179 = .ok (.iconst 2, 1) := by decide +kernel
theorem dX12_cornerOf_180 : decode cX12_cornerOf 180 = .ok (.goto 4, 3) := by decide +kernel
theorem dX12_cornerOf_183 : decode cX12_cornerOf 183 = .ok (.iconst 0, 1) := by decide +kernel
theorem dX12_cornerOf_184 : decode cX12_cornerOf 184 = .ok (.ireturn, 1) := by decide +kernel
def k_X12_cornerOf_0 (F : FT) (Q : QT) : KT := o_iload 2 (o_ic (nI 9) (o_idiv (o_istore 3 (o_iload 2 (o_ic (nI 9) (o_irem (o_istore 4 (o_ic (nI 10) (o_iload 1 (o_iadd (o_istore 5 (o_aload 0 (o_iload 3 (o_ic (nI 1) (o_isub (o_iload 4 (o_ic (nI 1) (o_isub (o_cV 12 m_X12_standsAt 3 (o_iload 5 (o_icne (F 37) (o_ic (nI 1) (F 38)))))))))))))))))))))))
def k_X12_cornerOf_37 (F : FT) (Q : QT) : KT := o_ic (nI 0) (F 38)
def k_X12_cornerOf_38 (F : FT) (Q : QT) : KT := o_istore 6 (o_aload 0 (o_iload 3 (o_ic (nI 1) (o_isub (o_iload 4 (o_cV 12 m_X12_standsAt 3 (o_iload 5 (o_icne (F 58) (o_ic (nI 1) (F 59))))))))))
def k_X12_cornerOf_58 (F : FT) (Q : QT) : KT := o_ic (nI 0) (F 59)
def k_X12_cornerOf_59 (F : FT) (Q : QT) : KT := o_istore 7 (o_aload 0 (o_iload 3 (o_iload 4 (o_ic (nI 1) (o_isub (o_cV 12 m_X12_standsAt 3 (o_iload 5 (o_icne (F 79) (o_ic (nI 1) (F 80))))))))))
def k_X12_cornerOf_79 (F : FT) (Q : QT) : KT := o_ic (nI 0) (F 80)
def k_X12_cornerOf_80 (F : FT) (Q : QT) : KT := o_istore 8 (o_aload 0 (o_iload 3 (o_iload 4 (o_cV 12 m_X12_standsAt 3 (o_iload 5 (o_icne (F 98) (o_ic (nI 1) (F 99))))))))
def k_X12_cornerOf_98 (F : FT) (Q : QT) : KT := o_ic (nI 0) (F 99)
def k_X12_cornerOf_99 (F : FT) (Q : QT) : KT := o_istore 9 (o_iload 6 (o_ifeq (F 110) (o_ic (nI 1) (F 111))))
def k_X12_cornerOf_110 (F : FT) (Q : QT) : KT := o_ic (nI 0) (F 111)
def k_X12_cornerOf_111 (F : FT) (Q : QT) : KT := o_iload 7 (o_ifeq (F 120) (o_ic (nI 1) (F 121)))
def k_X12_cornerOf_120 (F : FT) (Q : QT) : KT := o_ic (nI 0) (F 121)
def k_X12_cornerOf_121 (F : FT) (Q : QT) : KT := o_iadd (o_iload 8 (o_ifeq (F 131) (o_ic (nI 1) (F 132))))
def k_X12_cornerOf_131 (F : FT) (Q : QT) : KT := o_ic (nI 0) (F 132)
def k_X12_cornerOf_132 (F : FT) (Q : QT) : KT := o_iadd (o_iload 9 (o_ifeq (F 142) (o_ic (nI 1) (F 143))))
def k_X12_cornerOf_142 (F : FT) (Q : QT) : KT := o_ic (nI 0) (F 143)
def k_X12_cornerOf_143 (F : FT) (Q : QT) : KT := o_iadd (o_istore 10 (o_iload 10 (o_ic (nI 1) (o_icne (F 156) (o_ic (nI 1) (F 184))))))
def k_X12_cornerOf_156 (F : FT) (Q : QT) : KT := o_iload 10 (o_ic (nI 3) (o_icne (F 166) (o_ic (nI 3) (F 184))))
def k_X12_cornerOf_166 (F : FT) (Q : QT) : KT := o_iload 10 (o_ic (nI 2) (o_icne (F 183) (o_iload 6 (o_iload 9 (o_icne (F 183) (o_ic (nI 2) (F 184)))))))
def k_X12_cornerOf_183 (F : FT) (Q : QT) : KT := o_ic (nI 0) (F 184)
def k_X12_cornerOf_184 (F : FT) (Q : QT) : KT := o_iret Q
set_option maxRecDepth 20000 in
theorem r_X12_cornerOf {a0 : Nat} {a1 : Int32} {a2 : Int32} {n : Nat} {R : RR} {I : II} {J : JJ} {Q : QT} (hn : n + 0 ≤ 90) (h : ∀ F : FT, al_Wk F → al_Ok F (k_X12_cornerOf_0 F Q) 0 → al_Ok F (k_X12_cornerOf_37 F Q) 37 → al_Ok F (k_X12_cornerOf_38 F Q) 38 → al_Ok F (k_X12_cornerOf_58 F Q) 58 → al_Ok F (k_X12_cornerOf_59 F Q) 59 → al_Ok F (k_X12_cornerOf_79 F Q) 79 → al_Ok F (k_X12_cornerOf_80 F Q) 80 → al_Ok F (k_X12_cornerOf_98 F Q) 98 → al_Ok F (k_X12_cornerOf_99 F Q) 99 → al_Ok F (k_X12_cornerOf_110 F Q) 110 → al_Ok F (k_X12_cornerOf_111 F Q) 111 → al_Ok F (k_X12_cornerOf_120 F Q) 120 → al_Ok F (k_X12_cornerOf_121 F Q) 121 → al_Ok F (k_X12_cornerOf_131 F Q) 131 → al_Ok F (k_X12_cornerOf_132 F Q) 132 → al_Ok F (k_X12_cornerOf_142 F Q) 142 → al_Ok F (k_X12_cornerOf_143 F Q) 143 → al_Ok F (k_X12_cornerOf_156 F Q) 156 → al_Ok F (k_X12_cornerOf_166 F Q) 166 → al_Ok F (k_X12_cornerOf_183 F Q) 183 → al_Ok F (k_X12_cornerOf_184 F Q) 184 → F 0 [some (.ref a0), some (.int a1), some (.int a2), none, none, none, none, none, none, none, none] [] n R I J) : CT m_X12_cornerOf 0 [.ref a0, .int a1, .int a2] n R I J Q :=
  CT.of (by decide) hn (fun _ => rfl) (fun _ => Nat.le_of_ble_eq_true rfl) (fun F p l e s m args below meth c Rm t Q0 C hQ hr hm => h F (fun _ _ _ _ _ _ _ _ => S_wk C)
    (S_iload_n C dX12_cornerOf_0 rfl (S_bipush C dX12_cornerOf_1 (by decide +kernel) (S_idiv C dX12_cornerOf_3 (S_istore_n C dX12_cornerOf_4 rfl (Nat.le_of_ble_eq_true rfl) (S_iload_n C dX12_cornerOf_5 rfl (S_bipush C dX12_cornerOf_6 (by decide +kernel) (S_irem C dX12_cornerOf_8 (S_istore C dX12_cornerOf_9 (Nat.le_of_ble_eq_true rfl) (S_bipush C dX12_cornerOf_11 (by decide +kernel) (S_iload_n C dX12_cornerOf_13 rfl (S_iadd C dX12_cornerOf_14 (S_istore C dX12_cornerOf_15 (Nat.le_of_ble_eq_true rfl) (S_aload_n C dX12_cornerOf_17 rfl (S_iload_n C dX12_cornerOf_18 rfl (S_iconst C dX12_cornerOf_19 (by decide +kernel) (S_isub C dX12_cornerOf_20 (S_iload C dX12_cornerOf_21 (S_iconst C dX12_cornerOf_23 (by decide +kernel) (S_isub C dX12_cornerOf_24 (S_cV (ci := 12) C ok_X12_standsAt rfl (al_at 1062 (by decide +kernel) rfl) (Nat.le_of_ble_eq_true rfl) (Nat.le_of_ble_eq_true rfl) dX12_cornerOf_25 (S_iload C dX12_cornerOf_28 (S_icmpne (tgt := 37) C dX12_cornerOf_30 (by decide) (S_iconst C dX12_cornerOf_33 (by decide +kernel) (S_goto (tgt := 38) C dX12_cornerOf_34 (by decide)))))))))))))))))))))))))
    (S_iconst C dX12_cornerOf_37 (by decide +kernel) (fun _ _ _ _ _ _ h9 => h9))
    (S_istore C dX12_cornerOf_38 (Nat.le_of_ble_eq_true rfl) (S_aload_n C dX12_cornerOf_40 rfl (S_iload_n C dX12_cornerOf_41 rfl (S_iconst C dX12_cornerOf_42 (by decide +kernel) (S_isub C dX12_cornerOf_43 (S_iload C dX12_cornerOf_44 (S_cV (ci := 12) C ok_X12_standsAt rfl (al_at 1062 (by decide +kernel) rfl) (Nat.le_of_ble_eq_true rfl) (Nat.le_of_ble_eq_true rfl) dX12_cornerOf_46 (S_iload C dX12_cornerOf_49 (S_icmpne (tgt := 58) C dX12_cornerOf_51 (by decide) (S_iconst C dX12_cornerOf_54 (by decide +kernel) (S_goto (tgt := 59) C dX12_cornerOf_55 (by decide))))))))))))
    (S_iconst C dX12_cornerOf_58 (by decide +kernel) (fun _ _ _ _ _ _ h9 => h9))
    (S_istore C dX12_cornerOf_59 (Nat.le_of_ble_eq_true rfl) (S_aload_n C dX12_cornerOf_61 rfl (S_iload_n C dX12_cornerOf_62 rfl (S_iload C dX12_cornerOf_63 (S_iconst C dX12_cornerOf_65 (by decide +kernel) (S_isub C dX12_cornerOf_66 (S_cV (ci := 12) C ok_X12_standsAt rfl (al_at 1062 (by decide +kernel) rfl) (Nat.le_of_ble_eq_true rfl) (Nat.le_of_ble_eq_true rfl) dX12_cornerOf_67 (S_iload C dX12_cornerOf_70 (S_icmpne (tgt := 79) C dX12_cornerOf_72 (by decide) (S_iconst C dX12_cornerOf_75 (by decide +kernel) (S_goto (tgt := 80) C dX12_cornerOf_76 (by decide))))))))))))
    (S_iconst C dX12_cornerOf_79 (by decide +kernel) (fun _ _ _ _ _ _ h9 => h9))
    (S_istore C dX12_cornerOf_80 (Nat.le_of_ble_eq_true rfl) (S_aload_n C dX12_cornerOf_82 rfl (S_iload_n C dX12_cornerOf_83 rfl (S_iload C dX12_cornerOf_84 (S_cV (ci := 12) C ok_X12_standsAt rfl (al_at 1062 (by decide +kernel) rfl) (Nat.le_of_ble_eq_true rfl) (Nat.le_of_ble_eq_true rfl) dX12_cornerOf_86 (S_iload C dX12_cornerOf_89 (S_icmpne (tgt := 98) C dX12_cornerOf_91 (by decide) (S_iconst C dX12_cornerOf_94 (by decide +kernel) (S_goto (tgt := 99) C dX12_cornerOf_95 (by decide))))))))))
    (S_iconst C dX12_cornerOf_98 (by decide +kernel) (fun _ _ _ _ _ _ h9 => h9))
    (S_istore C dX12_cornerOf_99 (Nat.le_of_ble_eq_true rfl) (S_iload C dX12_cornerOf_101 (S_ifeq (tgt := 110) C dX12_cornerOf_103 (by decide) (S_iconst C dX12_cornerOf_106 (by decide +kernel) (S_goto (tgt := 111) C dX12_cornerOf_107 (by decide))))))
    (S_iconst C dX12_cornerOf_110 (by decide +kernel) (fun _ _ _ _ _ _ h9 => h9))
    (S_iload C dX12_cornerOf_111 (S_ifeq (tgt := 120) C dX12_cornerOf_113 (by decide) (S_iconst C dX12_cornerOf_116 (by decide +kernel) (S_goto (tgt := 121) C dX12_cornerOf_117 (by decide)))))
    (S_iconst C dX12_cornerOf_120 (by decide +kernel) (fun _ _ _ _ _ _ h9 => h9))
    (S_iadd C dX12_cornerOf_121 (S_iload C dX12_cornerOf_122 (S_ifeq (tgt := 131) C dX12_cornerOf_124 (by decide) (S_iconst C dX12_cornerOf_127 (by decide +kernel) (S_goto (tgt := 132) C dX12_cornerOf_128 (by decide))))))
    (S_iconst C dX12_cornerOf_131 (by decide +kernel) (fun _ _ _ _ _ _ h9 => h9))
    (S_iadd C dX12_cornerOf_132 (S_iload C dX12_cornerOf_133 (S_ifeq (tgt := 142) C dX12_cornerOf_135 (by decide) (S_iconst C dX12_cornerOf_138 (by decide +kernel) (S_goto (tgt := 143) C dX12_cornerOf_139 (by decide))))))
    (S_iconst C dX12_cornerOf_142 (by decide +kernel) (fun _ _ _ _ _ _ h9 => h9))
    (S_iadd C dX12_cornerOf_143 (S_istore C dX12_cornerOf_144 (Nat.le_of_ble_eq_true rfl) (S_iload C dX12_cornerOf_146 (S_iconst C dX12_cornerOf_148 (by decide +kernel) (S_icmpne (tgt := 156) C dX12_cornerOf_149 (by decide) (S_iconst C dX12_cornerOf_152 (by decide +kernel) (S_goto (tgt := 184) C dX12_cornerOf_153 (by decide))))))))
    (S_iload C dX12_cornerOf_156 (S_iconst C dX12_cornerOf_158 (by decide +kernel) (S_icmpne (tgt := 166) C dX12_cornerOf_159 (by decide) (S_iconst C dX12_cornerOf_162 (by decide +kernel) (S_goto (tgt := 184) C dX12_cornerOf_163 (by decide))))))
    (S_iload C dX12_cornerOf_166 (S_iconst C dX12_cornerOf_168 (by decide +kernel) (S_icmpne (tgt := 183) C dX12_cornerOf_169 (by decide) (S_iload C dX12_cornerOf_172 (S_iload C dX12_cornerOf_174 (S_icmpne (tgt := 183) C dX12_cornerOf_176 (by decide) (S_iconst C dX12_cornerOf_179 (by decide +kernel) (S_goto (tgt := 184) C dX12_cornerOf_180 (by decide)))))))))
    (S_iconst C dX12_cornerOf_183 (by decide +kernel) (fun _ _ _ _ _ _ h9 => h9))
    (S_iret C hQ hr dX12_cornerOf_184))
theorem dX12_cornersOf_0 : decode cX12_cornersOf 0 = .ok (.iconst 0, 1) := by decide +kernel
theorem dX12_cornersOf_1 : decode cX12_cornersOf 1 = .ok (.istore_n 2, 1) := by decide +kernel
theorem dX12_cornersOf_2 : decode cX12_cornersOf 2 = .ok (.iconst 0, 1) := by decide +kernel
theorem dX12_cornersOf_3 : decode cX12_cornersOf 3 = .ok (.istore_n 3, 1) := by decide +kernel
theorem dX12_cornersOf_4 : decode cX12_cornersOf 4 = .ok (.iload_n 3, 1) := by decide +kernel
theorem dX12_cornersOf_5 : decode cX12_cornersOf 5 = .ok (.bipush 81, 2) := by decide +kernel
theorem dX12_cornersOf_7 : decode cX12_cornersOf 7 = .ok (.if_icmp .ge 26, 3) := by decide +kernel
theorem dX12_cornersOf_10 : decode cX12_cornersOf 10 = .ok (.iload_n 2, 1) := by decide +kernel
theorem dX12_cornersOf_11 : decode cX12_cornersOf 11 = .ok (.aload_n 0, 1) := by decide +kernel
theorem dX12_cornersOf_12 : decode cX12_cornersOf 12 = .ok (.iload_n 1, 1) := by decide +kernel
theorem dX12_cornersOf_13 : decode cX12_cornersOf 13 = .ok (.iload_n 3, 1) := by decide +kernel
theorem dX12_cornersOf_14 : decode cX12_cornersOf 14 = .ok (.invokevirtual 161, 3) := by decide +kernel
theorem dX12_cornersOf_17 : decode cX12_cornersOf 17 = .ok (.ifCond .le 7, 3) := by decide +kernel
theorem dX12_cornersOf_20 : decode cX12_cornersOf 20 = .ok (.iconst 1, 1) := by decide +kernel
theorem dX12_cornersOf_21 : decode cX12_cornersOf 21 = .ok (.goto 4, 3) := by decide +kernel
theorem dX12_cornersOf_24 : decode cX12_cornersOf 24 = .ok (.iconst 0, 1) := by decide +kernel
theorem dX12_cornersOf_25 : decode cX12_cornersOf 25 = .ok (.iadd, 1) := by decide +kernel
theorem dX12_cornersOf_26 : decode cX12_cornersOf 26 = .ok (.istore_n 2, 1) := by decide +kernel
theorem dX12_cornersOf_27 : decode cX12_cornersOf 27 = .ok (.iinc 3 1, 3) := by decide +kernel
theorem dX12_cornersOf_30 : decode cX12_cornersOf 30 = .ok (.goto (-26), 3) := by decide +kernel
theorem dX12_cornersOf_33 : decode cX12_cornersOf 33 = .ok (.iload_n 2, 1) := by decide +kernel
theorem dX12_cornersOf_34 : decode cX12_cornersOf 34 = .ok (.ireturn, 1) := by decide +kernel
def k_X12_cornersOf_0 (F : FT) (Q : QT) : KT := o_ic (nI 0) (o_istore 2 (o_ic (nI 0) (o_istore 3 (F 4))))
def k_X12_cornersOf_4 (F : FT) (Q : QT) : KT := o_iload 3 (o_ic (nI 81) (o_icge (F 33) (o_iload 2 (o_aload 0 (o_iload 1 (o_iload 3 (o_cV 12 m_X12_cornerOf 3 (o_ifle (F 24) (o_ic (nI 1) (F 25))))))))))
def k_X12_cornersOf_24 (F : FT) (Q : QT) : KT := o_ic (nI 0) (F 25)
def k_X12_cornersOf_25 (F : FT) (Q : QT) : KT := o_iadd (o_istore 2 (o_iinc 3 (nI 1) (F 4)))
def k_X12_cornersOf_33 (F : FT) (Q : QT) : KT := o_iload 2 (o_iret Q)
set_option maxRecDepth 20000 in
theorem r_X12_cornersOf {a0 : Nat} {a1 : Int32} {n : Nat} {R : RR} {I : II} {J : JJ} {Q : QT} (hn : n + 0 ≤ 90) (h : ∀ F : FT, al_Wk F → al_Ok F (k_X12_cornersOf_0 F Q) 0 → al_Ok F (k_X12_cornersOf_4 F Q) 4 → al_Ok F (k_X12_cornersOf_24 F Q) 24 → al_Ok F (k_X12_cornersOf_25 F Q) 25 → al_Ok F (k_X12_cornersOf_33 F Q) 33 → F 0 [some (.ref a0), some (.int a1), none, none] [] n R I J) : CT m_X12_cornersOf 0 [.ref a0, .int a1] n R I J Q :=
  CT.of (by decide) hn (fun _ => rfl) (fun _ => Nat.le_of_ble_eq_true rfl) (fun F p l e s m args below meth c Rm t Q0 C hQ hr hm => h F (fun _ _ _ _ _ _ _ _ => S_wk C)
    (S_iconst C dX12_cornersOf_0 (by decide +kernel) (S_istore_n C dX12_cornersOf_1 rfl (Nat.le_of_ble_eq_true rfl) (S_iconst C dX12_cornersOf_2 (by decide +kernel) (S_istore_n C dX12_cornersOf_3 rfl (Nat.le_of_ble_eq_true rfl) (fun _ _ _ _ _ _ h9 => h9)))))
    (S_iload_n C dX12_cornersOf_4 rfl (S_bipush C dX12_cornersOf_5 (by decide +kernel) (S_icmpge (tgt := 33) C dX12_cornersOf_7 (by decide) (S_iload_n C dX12_cornersOf_10 rfl (S_aload_n C dX12_cornersOf_11 rfl (S_iload_n C dX12_cornersOf_12 rfl (S_iload_n C dX12_cornersOf_13 rfl (S_cV (ci := 12) C ok_X12_cornerOf rfl (al_at 1058 (by decide +kernel) rfl) (Nat.le_of_ble_eq_true rfl) (Nat.le_of_ble_eq_true rfl) dX12_cornersOf_14 (S_ifle (tgt := 24) C dX12_cornersOf_17 (by decide) (S_iconst C dX12_cornersOf_20 (by decide +kernel) (S_goto (tgt := 25) C dX12_cornersOf_21 (by decide))))))))))))
    (S_iconst C dX12_cornersOf_24 (by decide +kernel) (fun _ _ _ _ _ _ h9 => h9))
    (S_iadd C dX12_cornersOf_25 (S_istore_n C dX12_cornersOf_26 rfl (Nat.le_of_ble_eq_true rfl) (S_iinc C dX12_cornersOf_27 (by decide +kernel) (Nat.le_of_ble_eq_true rfl) (S_goto (tgt := 4) C dX12_cornersOf_30 (by decide)))))
    (S_iload_n C dX12_cornersOf_33 rfl (S_iret C hQ hr dX12_cornersOf_34)))
theorem dX12_count_0 : decode cX12_count 0 = .ok (.iconst 0, 1) := by decide +kernel
theorem dX12_count_1 : decode cX12_count 1 = .ok (.istore_n 2, 1) := by decide +kernel
theorem dX12_count_2 : decode cX12_count 2 = .ok (.iload_n 1, 1) := by decide +kernel
theorem dX12_count_3 : decode cX12_count 3 = .ok (.tableswitch 92 0 5 #[37, 46, 46, 46, 52, 57], 37) := by decide +kernel
theorem dX12_count_40 : decode cX12_count 40 = .ok (.aload_n 0, 1) := by decide +kernel
theorem dX12_count_41 : decode cX12_count 41 = .ok (.getfield 9, 3) := by decide +kernel
theorem dX12_count_44 : decode cX12_count 44 = .ok (.sipush 142, 3) := by decide +kernel
theorem dX12_count_47 : decode cX12_count 47 = .ok (.iaload, 1) := by decide +kernel
theorem dX12_count_48 : decode cX12_count 48 = .ok (.ireturn, 1) := by decide +kernel
theorem dX12_count_49 : decode cX12_count 49 = .ok (.aload_n 0, 1) := by decide +kernel
theorem dX12_count_50 : decode cX12_count 50 = .ok (.iload_n 1, 1) := by decide +kernel
theorem dX12_count_51 : decode cX12_count 51 = .ok (.invokevirtual 148, 3) := by decide +kernel
theorem dX12_count_54 : decode cX12_count 54 = .ok (.ireturn, 1) := by decide +kernel
theorem dX12_count_55 : decode cX12_count 55 = .ok (.aload_n 0, 1) := by decide +kernel
theorem dX12_count_56 : decode cX12_count 56 = .ok (.getfield 225, 3) := by decide +kernel
theorem dX12_count_59 : decode cX12_count 59 = .ok (.ireturn, 1) := by decide +kernel
theorem dX12_count_60 : decode cX12_count 60 = .ok (.iconst 0, 1) := by decide +kernel
theorem dX12_count_61 : decode cX12_count 61 = .ok (.istore_n 3, 1) := by decide +kernel
theorem dX12_count_62 : decode cX12_count 62 = .ok (.iload_n 3, 1) := by decide +kernel
theorem dX12_count_63 : decode cX12_count 63 = .ok (.bipush 64, 2) := by decide +kernel
theorem dX12_count_65 : decode cX12_count 65 = .ok (.if_icmp .ge 28, 3) := by decide +kernel
theorem dX12_count_68 : decode cX12_count 68 = .ok (.iload_n 2, 1) := by decide +kernel
theorem dX12_count_69 : decode cX12_count 69 = .ok (.aload_n 0, 1) := by decide +kernel
theorem dX12_count_70 : decode cX12_count 70 = .ok (.getfield 9, 3) := by decide +kernel
theorem dX12_count_73 : decode cX12_count 73 = .ok (.iload_n 3, 1) := by decide +kernel
theorem dX12_count_74 : decode cX12_count 74 = .ok (.iaload, 1) := by decide +kernel
theorem dX12_count_75 : decode cX12_count 75 = .ok (.bipush 10, 2) := by decide +kernel
theorem dX12_count_77 : decode cX12_count 77 = .ok (.if_icmp .lt 7, 3) := by decide +kernel
theorem dX12_count_80 : decode cX12_count 80 = .ok (.iconst 1, 1) := by decide +kernel
theorem dX12_count_81 : decode cX12_count 81 = .ok (.goto 4, 3) := by decide +kernel
theorem dX12_count_84 : decode cX12_count 84 = .ok (.iconst 0, 1) := by decide +kernel
theorem dX12_count_85 : decode cX12_count 85 = .ok (.iadd, 1) := by decide +kernel
theorem dX12_count_86 : decode cX12_count 86 = .ok (.istore_n 2, 1) := by decide +kernel
theorem dX12_count_87 : decode cX12_count 87 = .ok (.iinc 3 1, 3) := by decide +kernel
theorem dX12_count_90 : decode cX12_count 90 = .ok (.goto (-28), 3) := by decide +kernel
theorem dX12_count_93 : decode cX12_count 93 = .ok (.iload_n 2, 1) := by decide +kernel
theorem dX12_count_94 : decode cX12_count 94 = .ok (.ireturn, 1) := by decide +kernel
theorem dX12_count_95 : decode cX12_count 95 = .ok (.aload_n 0, 1) := by decide +kernel
theorem dX12_count_96 : decode cX12_count 96 = .ok (.ldc 80, 2) := by decide +kernel
theorem dX12_count_98 : decode cX12_count 98 = .ok (.invokevirtual 103, 3) := by decide +kernel
theorem dX12_count_101 : decode cX12_count 101 = .ok (.ireturn, 1) := by decide +kernel
def k_X12_count_0 (F : FT) (Q : QT) : KT := o_ic (nI 0) (o_istore 2 (o_iload 1 (o_tsw (nI 0) [F 40, F 49, F 49, F 49, F 55, F 60] (F 95))))
def k_X12_count_40 (F : FT) (Q : QT) : KT := o_aload 0 (o_getR 12 0 (o_ic (nI 142) (o_iald (o_iret Q))))
def k_X12_count_49 (F : FT) (Q : QT) : KT := o_aload 0 (o_iload 1 (o_cV 12 m_X12_manyOf 2 (o_iret Q)))
def k_X12_count_55 (F : FT) (Q : QT) : KT := o_aload 0 (o_getI 12 10 (o_iret Q))
def k_X12_count_60 (F : FT) (Q : QT) : KT := o_ic (nI 0) (o_istore 3 (F 62))
def k_X12_count_62 (F : FT) (Q : QT) : KT := o_iload 3 (o_ic (nI 64) (o_icge (F 93) (o_iload 2 (o_aload 0 (o_getR 12 0 (o_iload 3 (o_iald (o_ic (nI 10) (o_iclt (F 84) (o_ic (nI 1) (F 85)))))))))))
def k_X12_count_84 (F : FT) (Q : QT) : KT := o_ic (nI 0) (F 85)
def k_X12_count_85 (F : FT) (Q : QT) : KT := o_iadd (o_istore 2 (o_iinc 3 (nI 1) (F 62)))
def k_X12_count_93 (F : FT) (Q : QT) : KT := o_iload 2 (o_iret Q)
def k_X12_count_95 (F : FT) (Q : QT) : KT := o_aload 0 (o_ic (-1000000001) (o_cV 12 m_X12_finding 2 (o_iret Q)))
set_option maxRecDepth 20000 in
theorem r_X12_count {a0 : Nat} {a1 : Int32} {n : Nat} {R : RR} {I : II} {J : JJ} {Q : QT} (hn : n + 0 ≤ 90) (h : ∀ F : FT, al_Wk F → al_Ok F (k_X12_count_0 F Q) 0 → al_Ok F (k_X12_count_40 F Q) 40 → al_Ok F (k_X12_count_49 F Q) 49 → al_Ok F (k_X12_count_55 F Q) 55 → al_Ok F (k_X12_count_60 F Q) 60 → al_Ok F (k_X12_count_62 F Q) 62 → al_Ok F (k_X12_count_84 F Q) 84 → al_Ok F (k_X12_count_85 F Q) 85 → al_Ok F (k_X12_count_93 F Q) 93 → al_Ok F (k_X12_count_95 F Q) 95 → F 0 [some (.ref a0), some (.int a1), none, none] [] n R I J) : CT m_X12_count 0 [.ref a0, .int a1] n R I J Q :=
  CT.of (by decide) hn (fun _ => rfl) (fun _ => Nat.le_of_ble_eq_true rfl) (fun F p l e s m args below meth c Rm t Q0 C hQ hr hm => h F (fun _ _ _ _ _ _ _ _ => S_wk C)
    (S_iconst C dX12_count_0 (by decide +kernel) (S_istore_n C dX12_count_1 rfl (Nat.le_of_ble_eq_true rfl) (S_iload_n C dX12_count_2 rfl (S_tsw (lo0 := 0) (tg := [40, 49, 49, 49, 55, 60]) (d := 95) C dX12_count_3 rfl (by decide) (by decide +kernel) (by decide) (by decide)))))
    (S_aload_n C dX12_count_40 rfl (S_getR (ci := 12) (j := 0) C inG12 rfl (Nat.le_of_ble_eq_true rfl) rfl (al_at 918 (by decide +kernel) rfl) dX12_count_41 (S_sipush C dX12_count_44 (by decide +kernel) (S_iald C dX12_count_47 (S_iret C hQ hr dX12_count_48)))))
    (S_aload_n C dX12_count_49 rfl (S_iload_n C dX12_count_50 rfl (S_cV (ci := 12) C ok_X12_manyOf rfl (al_at 1050 (by decide +kernel) rfl) (Nat.le_of_ble_eq_true rfl) (Nat.le_of_ble_eq_true rfl) dX12_count_51 (S_iret C hQ hr dX12_count_54))))
    (S_aload_n C dX12_count_55 rfl (S_getI (ci := 12) (j := 10) C inG12 rfl (Nat.le_of_ble_eq_true rfl) rfl (al_at 928 (by decide +kernel) rfl) dX12_count_56 (S_iret C hQ hr dX12_count_59)))
    (S_iconst C dX12_count_60 (by decide +kernel) (S_istore_n C dX12_count_61 rfl (Nat.le_of_ble_eq_true rfl) (fun _ _ _ _ _ _ h9 => h9)))
    (S_iload_n C dX12_count_62 rfl (S_bipush C dX12_count_63 (by decide +kernel) (S_icmpge (tgt := 93) C dX12_count_65 (by decide) (S_iload_n C dX12_count_68 rfl (S_aload_n C dX12_count_69 rfl (S_getR (ci := 12) (j := 0) C inG12 rfl (Nat.le_of_ble_eq_true rfl) rfl (al_at 918 (by decide +kernel) rfl) dX12_count_70 (S_iload_n C dX12_count_73 rfl (S_iald C dX12_count_74 (S_bipush C dX12_count_75 (by decide +kernel) (S_icmplt (tgt := 84) C dX12_count_77 (by decide) (S_iconst C dX12_count_80 (by decide +kernel) (S_goto (tgt := 85) C dX12_count_81 (by decide)))))))))))))
    (S_iconst C dX12_count_84 (by decide +kernel) (fun _ _ _ _ _ _ h9 => h9))
    (S_iadd C dX12_count_85 (S_istore_n C dX12_count_86 rfl (Nat.le_of_ble_eq_true rfl) (S_iinc C dX12_count_87 (by decide +kernel) (Nat.le_of_ble_eq_true rfl) (S_goto (tgt := 62) C dX12_count_90 (by decide)))))
    (S_iload_n C dX12_count_93 rfl (S_iret C hQ hr dX12_count_94))
    (S_aload_n C dX12_count_95 rfl (S_ldc C dX12_count_96 (al_at 1020 (by decide +kernel) rfl) (S_cV (ci := 12) C ok_X12_finding rfl (al_at 1021 (by decide +kernel) rfl) (Nat.le_of_ble_eq_true rfl) (Nat.le_of_ble_eq_true rfl) dX12_count_98 (S_iret C hQ hr dX12_count_101)))))
theorem dX12_countOf_0 : decode cX12_countOf 0 = .ok (.aload_n 0, 1) := by decide +kernel
theorem dX12_countOf_1 : decode cX12_countOf 1 = .ok (.iload_n 1, 1) := by decide +kernel
theorem dX12_countOf_2 : decode cX12_countOf 2 = .ok (.iload_n 2, 1) := by decide +kernel
theorem dX12_countOf_3 : decode cX12_countOf 3 = .ok (.invokevirtual 161, 3) := by decide +kernel
theorem dX12_countOf_6 : decode cX12_countOf 6 = .ok (.istore_n 3, 1) := by decide +kernel
theorem dX12_countOf_7 : decode cX12_countOf 7 = .ok (.iload_n 3, 1) := by decide +kernel
theorem dX12_countOf_8 : decode cX12_countOf 8 = .ok (.ifCond .eq 12, 3) := by decide +kernel
theorem dX12_countOf_11 : decode cX12_countOf 11 = .ok (.aload_n 0, 1) := by decide +kernel
theorem dX12_countOf_12 : decode cX12_countOf 12 = .ok (.iload_n 1, 1) := by decide +kernel
theorem dX12_countOf_13 : decode cX12_countOf 13 = .ok (.iload_n 2, 1) := by decide +kernel
theorem dX12_countOf_14 : decode cX12_countOf 14 = .ok (.invokevirtual 180, 3) := by decide +kernel
theorem dX12_countOf_17 : decode cX12_countOf 17 = .ok (.ifCond .eq 7, 3) := by decide +kernel
theorem dX12_countOf_20 : decode cX12_countOf 20 = .ok (.iconst 0, 1) := by decide +kernel
theorem dX12_countOf_21 : decode cX12_countOf 21 = .ok (.goto 11, 3) := by decide +kernel
theorem dX12_countOf_24 : decode cX12_countOf 24 = .ok (.aload_n 0, 1) := by decide +kernel
theorem dX12_countOf_25 : decode cX12_countOf 25 = .ok (.iload_n 2, 1) := by decide +kernel
theorem dX12_countOf_26 : decode cX12_countOf 26 = .ok (.invokevirtual 172, 3) := by decide +kernel
theorem dX12_countOf_29 : decode cX12_countOf 29 = .ok (.invokestatic 176, 3) := by decide +kernel
theorem dX12_countOf_32 : decode cX12_countOf 32 = .ok (.istore 4, 2) := by decide +kernel
theorem dX12_countOf_34 : decode cX12_countOf 34 = .ok (.iload 4, 2) := by decide +kernel
theorem dX12_countOf_36 : decode cX12_countOf 36 = .ok (.ifCond .ne 5, 3) := by decide +kernel
theorem dX12_countOf_39 : decode cX12_countOf 39 = .ok (.iconst 0, 1) := by decide +kernel
theorem dX12_countOf_40 : decode cX12_countOf 40 = .ok (.ireturn, 1) := by decide +kernel
theorem dX12_countOf_41 : decode cX12_countOf 41 = .ok (.iload_n 3, 1) := by decide +kernel
theorem dX12_countOf_42 : decode cX12_countOf 42 = .ok (.iconst 1, 1) := by decide +kernel
theorem dX12_countOf_43 : decode cX12_countOf 43 = .ok (.if_icmp .ne 7, 3) := by decide +kernel
theorem dX12_countOf_46 : decode cX12_countOf 46 = .ok (.iconst 2, 1) := by decide +kernel
theorem dX12_countOf_47 : decode cX12_countOf 47 = .ok (.goto 4, 3) := by decide +kernel
theorem dX12_countOf_50 : decode cX12_countOf 50 = .ok (.iconst 1, 1) := by decide +kernel
theorem dX12_countOf_51 : decode cX12_countOf 51 = .ok (.istore 5, 2) := by decide +kernel
theorem dX12_countOf_53 : decode cX12_countOf 53 = .ok (.aload_n 0, 1) := by decide +kernel
theorem dX12_countOf_54 : decode cX12_countOf 54 = .ok (.iload_n 2, 1) := by decide +kernel
theorem dX12_countOf_55 : decode cX12_countOf 55 = .ok (.invokevirtual 183, 3) := by decide +kernel
theorem dX12_countOf_58 : decode cX12_countOf 58 = .ok (.iconst 1, 1) := by decide +kernel
theorem dX12_countOf_59 : decode cX12_countOf 59 = .ok (.iload_n 1, 1) := by decide +kernel
theorem dX12_countOf_60 : decode cX12_countOf 60 = .ok (.ishl, 1) := by decide +kernel
theorem dX12_countOf_61 : decode cX12_countOf 61 = .ok (.iconst 1, 1) := by decide +kernel
theorem dX12_countOf_62 : decode cX12_countOf 62 = .ok (.isub, 1) := by decide +kernel
theorem dX12_countOf_63 : decode cX12_countOf 63 = .ok (.iand, 1) := by decide +kernel
theorem dX12_countOf_64 : decode cX12_countOf 64 = .ok (.ifCond .eq 7, 3) := by decide +kernel
theorem dX12_countOf_67 : decode cX12_countOf 67 = .ok (.iconst 0, 1) := by decide +kernel
theorem dX12_countOf_68 : decode cX12_countOf 68 = .ok (.goto 4, 3) := by decide +kernel
theorem dX12_countOf_71 : decode cX12_countOf 71 = .ok (.iconst 1, 1) := by decide +kernel
theorem dX12_countOf_72 : decode cX12_countOf 72 = .ok (.istore 6, 2) := by decide +kernel
theorem dX12_countOf_74 : decode cX12_countOf 74 = .ok (.iload 4, 2) := by decide +kernel
theorem dX12_countOf_76 : decode cX12_countOf 76 = .ok (.iconst 5, 1) := by decide +kernel
theorem dX12_countOf_77 : decode cX12_countOf 77 = .ok (.if_icmp .lt 10, 3) := by decide +kernel
theorem dX12_countOf_80 : decode cX12_countOf 80 = .ok (.iload 5, 2) := by decide +kernel
theorem dX12_countOf_82 : decode cX12_countOf 82 = .ok (.iconst 1, 1) := by decide +kernel
theorem dX12_countOf_83 : decode cX12_countOf 83 = .ok (.iadd, 1) := by decide +kernel
theorem dX12_countOf_84 : decode cX12_countOf 84 = .ok (.goto 5, 3) := by decide +kernel
theorem dX12_countOf_87 : decode cX12_countOf 87 = .ok (.iload 5, 2) := by decide +kernel
theorem dX12_countOf_89 : decode cX12_countOf 89 = .ok (.istore 7, 2) := by decide +kernel
theorem dX12_countOf_91 : decode cX12_countOf 91 = .ok (.aload_n 0, 1) := by decide +kernel
theorem dX12_countOf_92 : decode cX12_countOf 92 = .ok (.iload_n 1, 1) := by decide +kernel
theorem dX12_countOf_93 : decode cX12_countOf 93 = .ok (.iconst 0, 1) := by decide +kernel
theorem dX12_countOf_94 : decode cX12_countOf 94 = .ok (.invokevirtual 145, 3) := by decide +kernel
theorem dX12_countOf_97 : decode cX12_countOf 97 = .ok (.tableswitch 58 1 5 #[35, 38, 41, 44, 49], 35) := by decide +kernel
theorem dX12_countOf_132 : decode cX12_countOf 132 = .ok (.iload 5, 2) := by decide +kernel
theorem dX12_countOf_134 : decode cX12_countOf 134 = .ok (.ireturn, 1) := by decide +kernel
theorem dX12_countOf_135 : decode cX12_countOf 135 = .ok (.iload 6, 2) := by decide +kernel
theorem dX12_countOf_137 : decode cX12_countOf 137 = .ok (.ireturn, 1) := by decide +kernel
theorem dX12_countOf_138 : decode cX12_countOf 138 = .ok (.iload 7, 2) := by decide +kernel
theorem dX12_countOf_140 : decode cX12_countOf 140 = .ok (.ireturn, 1) := by decide +kernel
theorem dX12_countOf_141 : decode cX12_countOf 141 = .ok (.iconst 2, 1) := by decide +kernel
theorem dX12_countOf_142 : decode cX12_countOf 142 = .ok (.iload 6, 2) := by decide +kernel
theorem dX12_countOf_144 : decode cX12_countOf 144 = .ok (.imul, 1) := by decide +kernel
theorem dX12_countOf_145 : decode cX12_countOf 145 = .ok (.ireturn, 1) := by decide +kernel
theorem dX12_countOf_146 : decode cX12_countOf 146 = .ok (.iconst 0, 1) := by decide +kernel
theorem dX12_countOf_147 : decode cX12_countOf 147 = .ok (.iload 7, 2) := by decide +kernel
theorem dX12_countOf_149 : decode cX12_countOf 149 = .ok (.iconst 2, 1) := by decide +kernel
theorem dX12_countOf_150 : decode cX12_countOf 150 = .ok (.isub, 1) := by decide +kernel
theorem dX12_countOf_151 : decode cX12_countOf 151 = .ok (.invokestatic 122, 3) := by decide +kernel
theorem dX12_countOf_154 : decode cX12_countOf 154 = .ok (.ireturn, 1) := by decide +kernel
theorem dX12_countOf_155 : decode cX12_countOf 155 = .ok (.iconst 1, 1) := by decide +kernel
theorem dX12_countOf_156 : decode cX12_countOf 156 = .ok (.ireturn, 1) := by decide +kernel
def k_X12_countOf_0 (F : FT) (Q : QT) : KT := o_aload 0 (o_iload 1 (o_iload 2 (o_cV 12 m_X12_cornerOf 3 (o_istore 3 (o_iload 3 (o_ifeq (F 20) (o_aload 0 (o_iload 1 (o_iload 2 (o_cV 12 m_X12_isRounded 3 (o_ifeq (F 24) (F 20))))))))))))
def k_X12_countOf_20 (F : FT) (Q : QT) : KT := o_ic (nI 0) (F 32)
def k_X12_countOf_24 (F : FT) (Q : QT) : KT := o_aload 0 (o_iload 2 (o_cV 12 m_X12_seenAt 2 (o_cS m_X12_bits 1 (F 32))))
def k_X12_countOf_32 (F : FT) (Q : QT) : KT := o_istore 4 (o_iload 4 (o_ifne (F 41) (o_ic (nI 0) (o_iret Q))))
def k_X12_countOf_41 (F : FT) (Q : QT) : KT := o_iload 3 (o_ic (nI 1) (o_icne (F 50) (o_ic (nI 2) (F 51))))
def k_X12_countOf_50 (F : FT) (Q : QT) : KT := o_ic (nI 1) (F 51)
def k_X12_countOf_51 (F : FT) (Q : QT) : KT := o_istore 5 (o_aload 0 (o_iload 2 (o_cV 12 m_X12_whoseIs 2 (o_ic (nI 1) (o_iload 1 (o_ishl (o_ic (nI 1) (o_isub (o_iand (o_ifeq (F 71) (o_ic (nI 0) (F 72))))))))))))
def k_X12_countOf_71 (F : FT) (Q : QT) : KT := o_ic (nI 1) (F 72)
def k_X12_countOf_72 (F : FT) (Q : QT) : KT := o_istore 6 (o_iload 4 (o_ic (nI 5) (o_iclt (F 87) (o_iload 5 (o_ic (nI 1) (o_iadd (F 89)))))))
def k_X12_countOf_87 (F : FT) (Q : QT) : KT := o_iload 5 (F 89)
def k_X12_countOf_89 (F : FT) (Q : QT) : KT := o_istore 7 (o_aload 0 (o_iload 1 (o_ic (nI 0) (o_cV 12 m_X12_houseIs 3 (o_tsw (nI 1) [F 132, F 135, F 138, F 141, F 146] (F 155))))))
def k_X12_countOf_132 (F : FT) (Q : QT) : KT := o_iload 5 (o_iret Q)
def k_X12_countOf_135 (F : FT) (Q : QT) : KT := o_iload 6 (o_iret Q)
def k_X12_countOf_138 (F : FT) (Q : QT) : KT := o_iload 7 (o_iret Q)
def k_X12_countOf_141 (F : FT) (Q : QT) : KT := o_ic (nI 2) (o_iload 6 (o_imul (o_iret Q)))
def k_X12_countOf_146 (F : FT) (Q : QT) : KT := o_ic (nI 0) (o_iload 7 (o_ic (nI 2) (o_isub (o_mmax (o_iret Q)))))
def k_X12_countOf_155 (F : FT) (Q : QT) : KT := o_ic (nI 1) (o_iret Q)
set_option maxRecDepth 20000 in
theorem r_X12_countOf {a0 : Nat} {a1 : Int32} {a2 : Int32} {n : Nat} {R : RR} {I : II} {J : JJ} {Q : QT} (hn : n + 0 ≤ 90) (h : ∀ F : FT, al_Wk F → al_Ok F (k_X12_countOf_0 F Q) 0 → al_Ok F (k_X12_countOf_20 F Q) 20 → al_Ok F (k_X12_countOf_24 F Q) 24 → al_Ok F (k_X12_countOf_32 F Q) 32 → al_Ok F (k_X12_countOf_41 F Q) 41 → al_Ok F (k_X12_countOf_50 F Q) 50 → al_Ok F (k_X12_countOf_51 F Q) 51 → al_Ok F (k_X12_countOf_71 F Q) 71 → al_Ok F (k_X12_countOf_72 F Q) 72 → al_Ok F (k_X12_countOf_87 F Q) 87 → al_Ok F (k_X12_countOf_89 F Q) 89 → al_Ok F (k_X12_countOf_132 F Q) 132 → al_Ok F (k_X12_countOf_135 F Q) 135 → al_Ok F (k_X12_countOf_138 F Q) 138 → al_Ok F (k_X12_countOf_141 F Q) 141 → al_Ok F (k_X12_countOf_146 F Q) 146 → al_Ok F (k_X12_countOf_155 F Q) 155 → F 0 [some (.ref a0), some (.int a1), some (.int a2), none, none, none, none, none] [] n R I J) : CT m_X12_countOf 0 [.ref a0, .int a1, .int a2] n R I J Q :=
  CT.of (by decide) hn (fun _ => rfl) (fun _ => Nat.le_of_ble_eq_true rfl) (fun F p l e s m args below meth c Rm t Q0 C hQ hr hm => h F (fun _ _ _ _ _ _ _ _ => S_wk C)
    (S_aload_n C dX12_countOf_0 rfl (S_iload_n C dX12_countOf_1 rfl (S_iload_n C dX12_countOf_2 rfl (S_cV (ci := 12) C ok_X12_cornerOf rfl (al_at 1058 (by decide +kernel) rfl) (Nat.le_of_ble_eq_true rfl) (Nat.le_of_ble_eq_true rfl) dX12_countOf_3 (S_istore_n C dX12_countOf_6 rfl (Nat.le_of_ble_eq_true rfl) (S_iload_n C dX12_countOf_7 rfl (S_ifeq (tgt := 20) C dX12_countOf_8 (by decide) (S_aload_n C dX12_countOf_11 rfl (S_iload_n C dX12_countOf_12 rfl (S_iload_n C dX12_countOf_13 rfl (S_cV (ci := 12) C ok_X12_isRounded rfl (al_at 1078 (by decide +kernel) rfl) (Nat.le_of_ble_eq_true rfl) (Nat.le_of_ble_eq_true rfl) dX12_countOf_14 (S_ifeq (tgt := 24) C dX12_countOf_17 (by decide) (fun _ _ _ _ _ _ h9 => h9)))))))))))))
    (S_iconst C dX12_countOf_20 (by decide +kernel) (S_goto (tgt := 32) C dX12_countOf_21 (by decide)))
    (S_aload_n C dX12_countOf_24 rfl (S_iload_n C dX12_countOf_25 rfl (S_cV (ci := 12) C ok_X12_seenAt rfl (al_at 1082 (by decide +kernel) rfl) (Nat.le_of_ble_eq_true rfl) (Nat.le_of_ble_eq_true rfl) dX12_countOf_26 (S_cS C ok_X12_bits (al_at 1107 (by decide +kernel) rfl) (Nat.le_of_ble_eq_true rfl) (Nat.le_of_ble_eq_true rfl) dX12_countOf_29 (fun _ _ _ _ _ _ h9 => h9)))))
    (S_istore C dX12_countOf_32 (Nat.le_of_ble_eq_true rfl) (S_iload C dX12_countOf_34 (S_ifne (tgt := 41) C dX12_countOf_36 (by decide) (S_iconst C dX12_countOf_39 (by decide +kernel) (S_iret C hQ hr dX12_countOf_40)))))
    (S_iload_n C dX12_countOf_41 rfl (S_iconst C dX12_countOf_42 (by decide +kernel) (S_icmpne (tgt := 50) C dX12_countOf_43 (by decide) (S_iconst C dX12_countOf_46 (by decide +kernel) (S_goto (tgt := 51) C dX12_countOf_47 (by decide))))))
    (S_iconst C dX12_countOf_50 (by decide +kernel) (fun _ _ _ _ _ _ h9 => h9))
    (S_istore C dX12_countOf_51 (Nat.le_of_ble_eq_true rfl) (S_aload_n C dX12_countOf_53 rfl (S_iload_n C dX12_countOf_54 rfl (S_cV (ci := 12) C ok_X12_whoseIs rfl (al_at 1110 (by decide +kernel) rfl) (Nat.le_of_ble_eq_true rfl) (Nat.le_of_ble_eq_true rfl) dX12_countOf_55 (S_iconst C dX12_countOf_58 (by decide +kernel) (S_iload_n C dX12_countOf_59 rfl (S_ishl C dX12_countOf_60 (S_iconst C dX12_countOf_61 (by decide +kernel) (S_isub C dX12_countOf_62 (S_iand C dX12_countOf_63 (S_ifeq (tgt := 71) C dX12_countOf_64 (by decide) (S_iconst C dX12_countOf_67 (by decide +kernel) (S_goto (tgt := 72) C dX12_countOf_68 (by decide))))))))))))))
    (S_iconst C dX12_countOf_71 (by decide +kernel) (fun _ _ _ _ _ _ h9 => h9))
    (S_istore C dX12_countOf_72 (Nat.le_of_ble_eq_true rfl) (S_iload C dX12_countOf_74 (S_iconst C dX12_countOf_76 (by decide +kernel) (S_icmplt (tgt := 87) C dX12_countOf_77 (by decide) (S_iload C dX12_countOf_80 (S_iconst C dX12_countOf_82 (by decide +kernel) (S_iadd C dX12_countOf_83 (S_goto (tgt := 89) C dX12_countOf_84 (by decide)))))))))
    (S_iload C dX12_countOf_87 (fun _ _ _ _ _ _ h9 => h9))
    (S_istore C dX12_countOf_89 (Nat.le_of_ble_eq_true rfl) (S_aload_n C dX12_countOf_91 rfl (S_iload_n C dX12_countOf_92 rfl (S_iconst C dX12_countOf_93 (by decide +kernel) (S_cV (ci := 12) C ok_X12_houseIs rfl (al_at 1046 (by decide +kernel) rfl) (Nat.le_of_ble_eq_true rfl) (Nat.le_of_ble_eq_true rfl) dX12_countOf_94 (S_tsw (lo0 := 1) (tg := [132, 135, 138, 141, 146]) (d := 155) C dX12_countOf_97 rfl (by decide) (by decide +kernel) (by decide) (by decide)))))))
    (S_iload C dX12_countOf_132 (S_iret C hQ hr dX12_countOf_134))
    (S_iload C dX12_countOf_135 (S_iret C hQ hr dX12_countOf_137))
    (S_iload C dX12_countOf_138 (S_iret C hQ hr dX12_countOf_140))
    (S_iconst C dX12_countOf_141 (by decide +kernel) (S_iload C dX12_countOf_142 (S_imul C dX12_countOf_144 (S_iret C hQ hr dX12_countOf_145))))
    (S_iconst C dX12_countOf_146 (by decide +kernel) (S_iload C dX12_countOf_147 (S_iconst C dX12_countOf_149 (by decide +kernel) (S_isub C dX12_countOf_150 (S_mmax C (al_at 1099 (by decide +kernel) rfl) (al_at 447 (by decide +kernel) rfl) (al_at 73 (by decide +kernel) rfl) (al_at 448 (by decide +kernel) rfl) (Nat.le_of_ble_eq_true rfl) (Nat.le_of_ble_eq_true rfl) dX12_countOf_151 (S_iret C hQ hr dX12_countOf_154))))))
    (S_iconst C dX12_countOf_155 (by decide +kernel) (S_iret C hQ hr dX12_countOf_156)))
theorem dX12_counts_0 : decode cX12_counts 0 = .ok (.aload_n 0, 1) := by decide +kernel
theorem dX12_counts_1 : decode cX12_counts 1 = .ok (.iload_n 1, 1) := by decide +kernel
theorem dX12_counts_2 : decode cX12_counts 2 = .ok (.invokevirtual 142, 3) := by decide +kernel
theorem dX12_counts_5 : decode cX12_counts 5 = .ok (.ifCond .eq 19, 3) := by decide +kernel
theorem dX12_counts_8 : decode cX12_counts 8 = .ok (.iload_n 2, 1) := by decide +kernel
theorem dX12_counts_9 : decode cX12_counts 9 = .ok (.invokestatic 164, 3) := by decide +kernel
theorem dX12_counts_12 : decode cX12_counts 12 = .ok (.ifCond .eq 12, 3) := by decide +kernel
theorem dX12_counts_15 : decode cX12_counts 15 = .ok (.aload_n 0, 1) := by decide +kernel
theorem dX12_counts_16 : decode cX12_counts 16 = .ok (.iload_n 1, 1) := by decide +kernel
theorem dX12_counts_17 : decode cX12_counts 17 = .ok (.iload_n 2, 1) := by decide +kernel
theorem dX12_counts_18 : decode cX12_counts 18 = .ok (.invokevirtual 186, 3) := by decide +kernel
theorem dX12_counts_21 : decode cX12_counts 21 = .ok (.goto 9, 3) := by decide +kernel
theorem dX12_counts_24 : decode cX12_counts 24 = .ok (.aload_n 0, 1) := by decide +kernel
theorem dX12_counts_25 : decode cX12_counts 25 = .ok (.ldc 80, 2) := by decide +kernel
theorem dX12_counts_27 : decode cX12_counts 27 = .ok (.invokevirtual 103, 3) := by decide +kernel
theorem dX12_counts_30 : decode cX12_counts 30 = .ok (.ireturn, 1) := by decide +kernel
def k_X12_counts_0 (F : FT) (Q : QT) : KT := o_aload 0 (o_iload 1 (o_cV 12 m_X12_isHouse 2 (o_ifeq (F 24) (o_iload 2 (o_cS m_X12_isPoint 1 (o_ifeq (F 24) (o_aload 0 (o_iload 1 (o_iload 2 (o_cV 12 m_X12_countOf 3 (F 30)))))))))))
def k_X12_counts_24 (F : FT) (Q : QT) : KT := o_aload 0 (o_ic (-1000000001) (o_cV 12 m_X12_finding 2 (F 30)))
def k_X12_counts_30 (F : FT) (Q : QT) : KT := o_iret Q
set_option maxRecDepth 20000 in
theorem r_X12_counts {a0 : Nat} {a1 : Int32} {a2 : Int32} {n : Nat} {R : RR} {I : II} {J : JJ} {Q : QT} (hn : n + 0 ≤ 90) (h : ∀ F : FT, al_Wk F → al_Ok F (k_X12_counts_0 F Q) 0 → al_Ok F (k_X12_counts_24 F Q) 24 → al_Ok F (k_X12_counts_30 F Q) 30 → F 0 [some (.ref a0), some (.int a1), some (.int a2)] [] n R I J) : CT m_X12_counts 0 [.ref a0, .int a1, .int a2] n R I J Q :=
  CT.of (by decide) hn (fun _ => rfl) (fun _ => Nat.le_of_ble_eq_true rfl) (fun F p l e s m args below meth c Rm t Q0 C hQ hr hm => h F (fun _ _ _ _ _ _ _ _ => S_wk C)
    (S_aload_n C dX12_counts_0 rfl (S_iload_n C dX12_counts_1 rfl (S_cV (ci := 12) C ok_X12_isHouse rfl (al_at 1042 (by decide +kernel) rfl) (Nat.le_of_ble_eq_true rfl) (Nat.le_of_ble_eq_true rfl) dX12_counts_2 (S_ifeq (tgt := 24) C dX12_counts_5 (by decide) (S_iload_n C dX12_counts_8 rfl (S_cS C ok_X12_isPoint (al_at 1134 (by decide +kernel) rfl) (Nat.le_of_ble_eq_true rfl) (Nat.le_of_ble_eq_true rfl) dX12_counts_9 (S_ifeq (tgt := 24) C dX12_counts_12 (by decide) (S_aload_n C dX12_counts_15 rfl (S_iload_n C dX12_counts_16 rfl (S_iload_n C dX12_counts_17 rfl (S_cV (ci := 12) C ok_X12_countOf rfl (al_at 1074 (by decide +kernel) rfl) (Nat.le_of_ble_eq_true rfl) (Nat.le_of_ble_eq_true rfl) dX12_counts_18 (S_goto (tgt := 30) C dX12_counts_21 (by decide)))))))))))))
    (S_aload_n C dX12_counts_24 rfl (S_ldc C dX12_counts_25 (al_at 1020 (by decide +kernel) rfl) (S_cV (ci := 12) C ok_X12_finding rfl (al_at 1021 (by decide +kernel) rfl) (Nat.le_of_ble_eq_true rfl) (Nat.le_of_ble_eq_true rfl) dX12_counts_27 (fun _ _ _ _ _ _ h9 => h9))))
    (S_iret C hQ hr dX12_counts_30))
theorem dX12_cutTo_0 : decode cX12_cutTo 0 = .ok (.iload_n 2, 1) := by decide +kernel
theorem dX12_cutTo_1 : decode cX12_cutTo 1 = .ok (.bipush 8, 2) := by decide +kernel
theorem dX12_cutTo_3 : decode cX12_cutTo 3 = .ok (.if_icmp .ne 10, 3) := by decide +kernel
theorem dX12_cutTo_6 : decode cX12_cutTo 6 = .ok (.lload_n 0, 1) := by decide +kernel
theorem dX12_cutTo_7 : decode cX12_cutTo 7 = .ok (.l2i, 1) := by decide +kernel
theorem dX12_cutTo_8 : decode cX12_cutTo 8 = .ok (.i2b, 1) := by decide +kernel
theorem dX12_cutTo_9 : decode cX12_cutTo 9 = .ok (.i2l, 1) := by decide +kernel
theorem dX12_cutTo_10 : decode cX12_cutTo 10 = .ok (.goto 17, 3) := by decide +kernel
theorem dX12_cutTo_13 : decode cX12_cutTo 13 = .ok (.iload_n 2, 1) := by decide +kernel
theorem dX12_cutTo_14 : decode cX12_cutTo 14 = .ok (.bipush 16, 2) := by decide +kernel
theorem dX12_cutTo_16 : decode cX12_cutTo 16 = .ok (.if_icmp .ne 10, 3) := by decide +kernel
theorem dX12_cutTo_19 : decode cX12_cutTo 19 = .ok (.lload_n 0, 1) := by decide +kernel
theorem dX12_cutTo_20 : decode cX12_cutTo 20 = .ok (.l2i, 1) := by decide +kernel
theorem dX12_cutTo_21 : decode cX12_cutTo 21 = .ok (.i2s, 1) := by decide +kernel
theorem dX12_cutTo_22 : decode cX12_cutTo 22 = .ok (.i2l, 1) := by decide +kernel
theorem dX12_cutTo_23 : decode cX12_cutTo 23 = .ok (.goto 4, 3) := by decide +kernel
theorem dX12_cutTo_26 : decode cX12_cutTo 26 = .ok (.lload_n 0, 1) := by decide +kernel
theorem dX12_cutTo_27 : decode cX12_cutTo 27 = .ok (.lreturn, 1) := by decide +kernel
def k_X12_cutTo_0 (F : FT) (Q : QT) : KT := o_iload 2 (o_ic (nI 8) (o_icne (F 13) (o_lload 0 (o_l2i (o_i2b (o_i2l (F 27)))))))
def k_X12_cutTo_13 (F : FT) (Q : QT) : KT := o_iload 2 (o_ic (nI 16) (o_icne (F 26) (o_lload 0 (o_l2i (o_i2s (o_i2l (F 27)))))))
def k_X12_cutTo_26 (F : FT) (Q : QT) : KT := o_lload 0 (F 27)
def k_X12_cutTo_27 (F : FT) (Q : QT) : KT := o_lret Q
set_option maxRecDepth 20000 in
theorem r_X12_cutTo {a0 : Int64} {a1 : Int32} {n : Nat} {R : RR} {I : II} {J : JJ} {Q : QT} (hn : n + 0 ≤ 90) (h : ∀ F : FT, al_Wk F → al_Ok F (k_X12_cutTo_0 F Q) 0 → al_Ok F (k_X12_cutTo_13 F Q) 13 → al_Ok F (k_X12_cutTo_26 F Q) 26 → al_Ok F (k_X12_cutTo_27 F Q) 27 → F 0 [some (.long a0), none, some (.int a1)] [] n R I J) : CT m_X12_cutTo 0 [.long a0, .int a1] n R I J Q :=
  CT.of (by decide) hn (fun _ => rfl) (fun _ => Nat.le_of_ble_eq_true rfl) (fun F p l e s m args below meth c Rm t Q0 C hQ hr hm => h F (fun _ _ _ _ _ _ _ _ => S_wk C)
    (S_iload_n C dX12_cutTo_0 rfl (S_bipush C dX12_cutTo_1 (by decide +kernel) (S_icmpne (tgt := 13) C dX12_cutTo_3 (by decide) (S_lload_n C dX12_cutTo_6 rfl (S_l2i C dX12_cutTo_7 (S_i2b C dX12_cutTo_8 (S_i2l C dX12_cutTo_9 (S_goto (tgt := 27) C dX12_cutTo_10 (by decide)))))))))
    (S_iload_n C dX12_cutTo_13 rfl (S_bipush C dX12_cutTo_14 (by decide +kernel) (S_icmpne (tgt := 26) C dX12_cutTo_16 (by decide) (S_lload_n C dX12_cutTo_19 rfl (S_l2i C dX12_cutTo_20 (S_i2s C dX12_cutTo_21 (S_i2l C dX12_cutTo_22 (S_goto (tgt := 27) C dX12_cutTo_23 (by decide)))))))))
    (S_lload_n C dX12_cutTo_26 rfl (fun _ _ _ _ _ _ h9 => h9))
    (S_lret C hQ hr dX12_cutTo_27))
theorem dX12_feed_0 : decode cX12_feed 0 = .ok (.iload_n 2, 1) := by decide +kernel
theorem dX12_feed_1 : decode cX12_feed 1 = .ok (.iconst 1, 1) := by decide +kernel
theorem dX12_feed_2 : decode cX12_feed 2 = .ok (.iconst 4, 1) := by decide +kernel
theorem dX12_feed_3 : decode cX12_feed 3 = .ok (.invokestatic 81, 3) := by decide +kernel
theorem dX12_feed_6 : decode cX12_feed 6 = .ok (.ifCond .ne 10, 3) := by decide +kernel
theorem dX12_feed_9 : decode cX12_feed 9 = .ok (.aload_n 0, 1) := by decide +kernel
theorem dX12_feed_10 : decode cX12_feed 10 = .ok (.ldc 80, 2) := by decide +kernel
theorem dX12_feed_12 : decode cX12_feed 12 = .ok (.invokevirtual 103, 3) := by decide +kernel
theorem dX12_feed_15 : decode cX12_feed 15 = .ok (.ireturn, 1) := by decide +kernel
theorem dX12_feed_16 : decode cX12_feed 16 = .ok (.aload_n 0, 1) := by decide +kernel
theorem dX12_feed_17 : decode cX12_feed 17 = .ok (.getfield 225, 3) := by decide +kernel
theorem dX12_feed_20 : decode cX12_feed 20 = .ok (.iload_n 2, 1) := by decide +kernel
theorem dX12_feed_21 : decode cX12_feed 21 = .ok (.iadd, 1) := by decide +kernel
theorem dX12_feed_22 : decode cX12_feed 22 = .ok (.bipush 120, 2) := by decide +kernel
theorem dX12_feed_24 : decode cX12_feed 24 = .ok (.if_icmp .le 10, 3) := by decide +kernel
theorem dX12_feed_27 : decode cX12_feed 27 = .ok (.aload_n 0, 1) := by decide +kernel
theorem dX12_feed_28 : decode cX12_feed 28 = .ok (.ldc 138, 2) := by decide +kernel
theorem dX12_feed_30 : decode cX12_feed 30 = .ok (.invokevirtual 103, 3) := by decide +kernel
theorem dX12_feed_33 : decode cX12_feed 33 = .ok (.ireturn, 1) := by decide +kernel
theorem dX12_feed_34 : decode cX12_feed 34 = .ok (.iload_n 2, 1) := by decide +kernel
theorem dX12_feed_35 : decode cX12_feed 35 = .ok (.iconst 1, 1) := by decide +kernel
theorem dX12_feed_36 : decode cX12_feed 36 = .ok (.isub, 1) := by decide +kernel
theorem dX12_feed_37 : decode cX12_feed 37 = .ok (.istore_n 3, 1) := by decide +kernel
theorem dX12_feed_38 : decode cX12_feed 38 = .ok (.iload_n 3, 1) := by decide +kernel
theorem dX12_feed_39 : decode cX12_feed 39 = .ok (.ifCond .lt 38, 3) := by decide +kernel
theorem dX12_feed_42 : decode cX12_feed 42 = .ok (.aload_n 0, 1) := by decide +kernel
theorem dX12_feed_43 : decode cX12_feed 43 = .ok (.getfield 30, 3) := by decide +kernel
theorem dX12_feed_46 : decode cX12_feed 46 = .ok (.aload_n 0, 1) := by decide +kernel
theorem dX12_feed_47 : decode cX12_feed 47 = .ok (.getfield 225, 3) := by decide +kernel
theorem dX12_feed_50 : decode cX12_feed 50 = .ok (.iload_n 1, 1) := by decide +kernel
theorem dX12_feed_51 : decode cX12_feed 51 = .ok (.bipush 8, 2) := by decide +kernel
theorem dX12_feed_53 : decode cX12_feed 53 = .ok (.iload_n 3, 1) := by decide +kernel
theorem dX12_feed_54 : decode cX12_feed 54 = .ok (.imul, 1) := by decide +kernel
theorem dX12_feed_55 : decode cX12_feed 55 = .ok (.ishr, 1) := by decide +kernel
theorem dX12_feed_56 : decode cX12_feed 56 = .ok (.sipush 255, 3) := by decide +kernel
theorem dX12_feed_59 : decode cX12_feed 59 = .ok (.iand, 1) := by decide +kernel
theorem dX12_feed_60 : decode cX12_feed 60 = .ok (.iastore, 1) := by decide +kernel
theorem dX12_feed_61 : decode cX12_feed 61 = .ok (.aload_n 0, 1) := by decide +kernel
theorem dX12_feed_62 : decode cX12_feed 62 = .ok (.dup, 1) := by decide +kernel
theorem dX12_feed_63 : decode cX12_feed 63 = .ok (.getfield 225, 3) := by decide +kernel
theorem dX12_feed_66 : decode cX12_feed 66 = .ok (.iconst 1, 1) := by decide +kernel
theorem dX12_feed_67 : decode cX12_feed 67 = .ok (.iadd, 1) := by decide +kernel
theorem dX12_feed_68 : decode cX12_feed 68 = .ok (.putfield 225, 3) := by decide +kernel
theorem dX12_feed_71 : decode cX12_feed 71 = .ok (.iinc 3 (-1), 3) := by decide +kernel
theorem dX12_feed_74 : decode cX12_feed 74 = .ok (.goto (-36), 3) := by decide +kernel
theorem dX12_feed_77 : decode cX12_feed 77 = .ok (.aload_n 0, 1) := by decide +kernel
theorem dX12_feed_78 : decode cX12_feed 78 = .ok (.getfield 225, 3) := by decide +kernel
theorem dX12_feed_81 : decode cX12_feed 81 = .ok (.ireturn, 1) := by decide +kernel
def k_X12_feed_0 (F : FT) (Q : QT) : KT := o_iload 2 (o_ic (nI 1) (o_ic (nI 4) (o_cS m_X12_within 3 (o_ifne (F 16) (o_aload 0 (o_ic (-1000000001) (o_cV 12 m_X12_finding 2 (o_iret Q))))))))
def k_X12_feed_16 (F : FT) (Q : QT) : KT := o_aload 0 (o_getI 12 10 (o_iload 2 (o_iadd (o_ic (nI 120) (o_icle (F 34) (o_aload 0 (o_ic (-1000000002) (o_cV 12 m_X12_finding 2 (o_iret Q)))))))))
def k_X12_feed_34 (F : FT) (Q : QT) : KT := o_iload 2 (o_ic (nI 1) (o_isub (o_istore 3 (F 38))))
def k_X12_feed_38 (F : FT) (Q : QT) : KT := o_iload 3 (o_iflt (F 77) (o_aload 0 (o_getR 12 9 (o_aload 0 (o_getI 12 10 (o_iload 1 (o_ic (nI 8) (o_iload 3 (o_imul (o_ishr (o_ic (nI 255) (o_iand (o_iast (o_aload 0 (o_dup (o_getI 12 10 (o_ic (nI 1) (o_iadd (o_putI 12 10 (o_iinc 3 (-1) (F 38)))))))))))))))))))))
def k_X12_feed_77 (F : FT) (Q : QT) : KT := o_aload 0 (o_getI 12 10 (o_iret Q))
set_option maxRecDepth 20000 in
theorem r_X12_feed {a0 : Nat} {a1 : Int32} {a2 : Int32} {n : Nat} {R : RR} {I : II} {J : JJ} {Q : QT} (hn : n + 0 ≤ 90) (h : ∀ F : FT, al_Wk F → al_Ok F (k_X12_feed_0 F Q) 0 → al_Ok F (k_X12_feed_16 F Q) 16 → al_Ok F (k_X12_feed_34 F Q) 34 → al_Ok F (k_X12_feed_38 F Q) 38 → al_Ok F (k_X12_feed_77 F Q) 77 → F 0 [some (.ref a0), some (.int a1), some (.int a2), none] [] n R I J) : CT m_X12_feed 0 [.ref a0, .int a1, .int a2] n R I J Q :=
  CT.of (by decide) hn (fun _ => rfl) (fun _ => Nat.le_of_ble_eq_true rfl) (fun F p l e s m args below meth c Rm t Q0 C hQ hr hm => h F (fun _ _ _ _ _ _ _ _ => S_wk C)
    (S_iload_n C dX12_feed_0 rfl (S_iconst C dX12_feed_1 (by decide +kernel) (S_iconst C dX12_feed_2 (by decide +kernel) (S_cS C ok_X12_within (al_at 1005 (by decide +kernel) rfl) (Nat.le_of_ble_eq_true rfl) (Nat.le_of_ble_eq_true rfl) dX12_feed_3 (S_ifne (tgt := 16) C dX12_feed_6 (by decide) (S_aload_n C dX12_feed_9 rfl (S_ldc C dX12_feed_10 (al_at 1020 (by decide +kernel) rfl) (S_cV (ci := 12) C ok_X12_finding rfl (al_at 1021 (by decide +kernel) rfl) (Nat.le_of_ble_eq_true rfl) (Nat.le_of_ble_eq_true rfl) dX12_feed_12 (S_iret C hQ hr dX12_feed_15)))))))))
    (S_aload_n C dX12_feed_16 rfl (S_getI (ci := 12) (j := 10) C inG12 rfl (Nat.le_of_ble_eq_true rfl) rfl (al_at 928 (by decide +kernel) rfl) dX12_feed_17 (S_iload_n C dX12_feed_20 rfl (S_iadd C dX12_feed_21 (S_bipush C dX12_feed_22 (by decide +kernel) (S_icmple (tgt := 34) C dX12_feed_24 (by decide) (S_aload_n C dX12_feed_27 rfl (S_ldc C dX12_feed_28 (al_at 1033 (by decide +kernel) rfl) (S_cV (ci := 12) C ok_X12_finding rfl (al_at 1021 (by decide +kernel) rfl) (Nat.le_of_ble_eq_true rfl) (Nat.le_of_ble_eq_true rfl) dX12_feed_30 (S_iret C hQ hr dX12_feed_33))))))))))
    (S_iload_n C dX12_feed_34 rfl (S_iconst C dX12_feed_35 (by decide +kernel) (S_isub C dX12_feed_36 (S_istore_n C dX12_feed_37 rfl (Nat.le_of_ble_eq_true rfl) (fun _ _ _ _ _ _ h9 => h9)))))
    (S_iload_n C dX12_feed_38 rfl (S_iflt (tgt := 77) C dX12_feed_39 (by decide) (S_aload_n C dX12_feed_42 rfl (S_getR (ci := 12) (j := 9) C inG12 rfl (Nat.le_of_ble_eq_true rfl) rfl (al_at 927 (by decide +kernel) rfl) dX12_feed_43 (S_aload_n C dX12_feed_46 rfl (S_getI (ci := 12) (j := 10) C inG12 rfl (Nat.le_of_ble_eq_true rfl) rfl (al_at 928 (by decide +kernel) rfl) dX12_feed_47 (S_iload_n C dX12_feed_50 rfl (S_bipush C dX12_feed_51 (by decide +kernel) (S_iload_n C dX12_feed_53 rfl (S_imul C dX12_feed_54 (S_ishr C dX12_feed_55 (S_sipush C dX12_feed_56 (by decide +kernel) (S_iand C dX12_feed_59 (S_iast C dX12_feed_60 (S_aload_n C dX12_feed_61 rfl (S_dup C dX12_feed_62 (S_getI (ci := 12) (j := 10) C inG12 rfl (Nat.le_of_ble_eq_true rfl) rfl (al_at 928 (by decide +kernel) rfl) dX12_feed_63 (S_iconst C dX12_feed_66 (by decide +kernel) (S_iadd C dX12_feed_67 (S_putI (ci := 12) (j := 10) C inG12 rfl (Nat.le_of_ble_eq_true rfl) tyX12 tyX12_ok nmX12 rfl rfl (tyX12_ok 10 (Nat.le_of_ble_eq_true rfl)) (al_at 928 (by decide +kernel) rfl) dX12_feed_68 (S_iinc C dX12_feed_71 (by decide +kernel) (Nat.le_of_ble_eq_true rfl) (S_goto (tgt := 38) C dX12_feed_74 (by decide)))))))))))))))))))))))
    (S_aload_n C dX12_feed_77 rfl (S_getI (ci := 12) (j := 10) C inG12 rfl (Nat.le_of_ble_eq_true rfl) rfl (al_at 928 (by decide +kernel) rfl) dX12_feed_78 (S_iret C hQ hr dX12_feed_81))))
theorem dX12_findSeen_0 : decode cX12_findSeen 0 = .ok (.iconst 0, 1) := by decide +kernel
theorem dX12_findSeen_1 : decode cX12_findSeen 1 = .ok (.istore_n 1, 1) := by decide +kernel
theorem dX12_findSeen_2 : decode cX12_findSeen 2 = .ok (.iload_n 1, 1) := by decide +kernel
theorem dX12_findSeen_3 : decode cX12_findSeen 3 = .ok (.bipush 81, 2) := by decide +kernel
theorem dX12_findSeen_5 : decode cX12_findSeen 5 = .ok (.if_icmp .ge 73, 3) := by decide +kernel
theorem dX12_findSeen_8 : decode cX12_findSeen 8 = .ok (.aload_n 0, 1) := by decide +kernel
theorem dX12_findSeen_9 : decode cX12_findSeen 9 = .ok (.getfield 19, 3) := by decide +kernel
theorem dX12_findSeen_12 : decode cX12_findSeen 12 = .ok (.iload_n 1, 1) := by decide +kernel
theorem dX12_findSeen_13 : decode cX12_findSeen 13 = .ok (.lconst 0, 1) := by decide +kernel
theorem dX12_findSeen_14 : decode cX12_findSeen 14 = .ok (.lastore, 1) := by decide +kernel
theorem dX12_findSeen_15 : decode cX12_findSeen 15 = .ok (.aload_n 0, 1) := by decide +kernel
theorem dX12_findSeen_16 : decode cX12_findSeen 16 = .ok (.iload_n 1, 1) := by decide +kernel
theorem dX12_findSeen_17 : decode cX12_findSeen 17 = .ok (.invokevirtual 107, 3) := by decide +kernel
theorem dX12_findSeen_20 : decode cX12_findSeen 20 = .ok (.ifCond .eq 52, 3) := by decide +kernel
theorem dX12_findSeen_23 : decode cX12_findSeen 23 = .ok (.iconst 0, 1) := by decide +kernel
theorem dX12_findSeen_24 : decode cX12_findSeen 24 = .ok (.istore_n 2, 1) := by decide +kernel
theorem dX12_findSeen_25 : decode cX12_findSeen 25 = .ok (.iload_n 2, 1) := by decide +kernel
theorem dX12_findSeen_26 : decode cX12_findSeen 26 = .ok (.bipush 64, 2) := by decide +kernel
theorem dX12_findSeen_28 : decode cX12_findSeen 28 = .ok (.if_icmp .ge 44, 3) := by decide +kernel
theorem dX12_findSeen_31 : decode cX12_findSeen 31 = .ok (.aload_n 0, 1) := by decide +kernel
theorem dX12_findSeen_32 : decode cX12_findSeen 32 = .ok (.getfield 19, 3) := by decide +kernel
theorem dX12_findSeen_35 : decode cX12_findSeen 35 = .ok (.iload_n 1, 1) := by decide +kernel
theorem dX12_findSeen_36 : decode cX12_findSeen 36 = .ok (.dup2, 1) := by decide +kernel
theorem dX12_findSeen_37 : decode cX12_findSeen 37 = .ok (.laload, 1) := by decide +kernel
theorem dX12_findSeen_38 : decode cX12_findSeen 38 = .ok (.aload_n 0, 1) := by decide +kernel
theorem dX12_findSeen_39 : decode cX12_findSeen 39 = .ok (.getfield 9, 3) := by decide +kernel
theorem dX12_findSeen_42 : decode cX12_findSeen 42 = .ok (.iload_n 2, 1) := by decide +kernel
theorem dX12_findSeen_43 : decode cX12_findSeen 43 = .ok (.iaload, 1) := by decide +kernel
theorem dX12_findSeen_44 : decode cX12_findSeen 44 = .ok (.iconst 1, 1) := by decide +kernel
theorem dX12_findSeen_45 : decode cX12_findSeen 45 = .ok (.if_icmp .ne 18, 3) := by decide +kernel
theorem dX12_findSeen_48 : decode cX12_findSeen 48 = .ok (.aload_n 0, 1) := by decide +kernel
theorem dX12_findSeen_49 : decode cX12_findSeen 49 = .ok (.iload_n 2, 1) := by decide +kernel
theorem dX12_findSeen_50 : decode cX12_findSeen 50 = .ok (.iload_n 1, 1) := by decide +kernel
theorem dX12_findSeen_51 : decode cX12_findSeen 51 = .ok (.invokevirtual 110, 3) := by decide +kernel
theorem dX12_findSeen_54 : decode cX12_findSeen 54 = .ok (.ifCond .eq 9, 3) := by decide +kernel
theorem dX12_findSeen_57 : decode cX12_findSeen 57 = .ok (.lconst 1, 1) := by decide +kernel
theorem dX12_findSeen_58 : decode cX12_findSeen 58 = .ok (.iload_n 2, 1) := by decide +kernel
theorem dX12_findSeen_59 : decode cX12_findSeen 59 = .ok (.lshl, 1) := by decide +kernel
theorem dX12_findSeen_60 : decode cX12_findSeen 60 = .ok (.goto 4, 3) := by decide +kernel
theorem dX12_findSeen_63 : decode cX12_findSeen 63 = .ok (.lconst 0, 1) := by decide +kernel
theorem dX12_findSeen_64 : decode cX12_findSeen 64 = .ok (.lor, 1) := by decide +kernel
theorem dX12_findSeen_65 : decode cX12_findSeen 65 = .ok (.lastore, 1) := by decide +kernel
theorem dX12_findSeen_66 : decode cX12_findSeen 66 = .ok (.iinc 2 1, 3) := by decide +kernel
theorem dX12_findSeen_69 : decode cX12_findSeen 69 = .ok (.goto (-44), 3) := by decide +kernel
theorem dX12_findSeen_72 : decode cX12_findSeen 72 = .ok (.iinc 1 1, 3) := by decide +kernel
theorem dX12_findSeen_75 : decode cX12_findSeen 75 = .ok (.goto (-73), 3) := by decide +kernel
theorem dX12_findSeen_78 : decode cX12_findSeen 78 = .ok (.aload_n 0, 1) := by decide +kernel
theorem dX12_findSeen_79 : decode cX12_findSeen 79 = .ok (.iconst 1, 1) := by decide +kernel
theorem dX12_findSeen_80 : decode cX12_findSeen 80 = .ok (.putfield 85, 3) := by decide +kernel
theorem dX12_findSeen_83 : decode cX12_findSeen 83 = .ok (.return_, 1) := by decide +kernel
def k_X12_findSeen_0 (F : FT) (Q : QT) : KT := o_ic (nI 0) (o_istore 1 (F 2))
def k_X12_findSeen_2 (F : FT) (Q : QT) : KT := o_iload 1 (o_ic (nI 81) (o_icge (F 78) (o_aload 0 (o_getR 12 4 (o_iload 1 (o_lc (lN 0) (o_last (o_aload 0 (o_iload 1 (o_cV 12 m_X12_isOpen 2 (o_ifeq (F 72) (o_ic (nI 0) (o_istore 2 (F 25))))))))))))))
def k_X12_findSeen_25 (F : FT) (Q : QT) : KT := o_iload 2 (o_ic (nI 64) (o_icge (F 72) (o_aload 0 (o_getR 12 4 (o_iload 1 (o_dup2 (o_lald (o_aload 0 (o_getR 12 0 (o_iload 2 (o_iald (o_ic (nI 1) (o_icne (F 63) (o_aload 0 (o_iload 2 (o_iload 1 (o_cV 12 m_X12_isClear 3 (o_ifeq (F 63) (o_lc (lN 1) (o_iload 2 (o_lshl (F 64))))))))))))))))))))))
def k_X12_findSeen_63 (F : FT) (Q : QT) : KT := o_lc (lN 0) (F 64)
def k_X12_findSeen_64 (F : FT) (Q : QT) : KT := o_lor (o_last (o_iinc 2 (nI 1) (F 25)))
def k_X12_findSeen_72 (F : FT) (Q : QT) : KT := o_iinc 1 (nI 1) (F 2)
def k_X12_findSeen_78 (F : FT) (Q : QT) : KT := o_aload 0 (o_ic (nI 1) (o_putZ 12 5 (o_vret Q)))
set_option maxRecDepth 20000 in
theorem r_X12_findSeen {a0 : Nat} {n : Nat} {R : RR} {I : II} {J : JJ} {Q : QT} (hn : n + 0 ≤ 90) (h : ∀ F : FT, al_Wk F → al_Ok F (k_X12_findSeen_0 F Q) 0 → al_Ok F (k_X12_findSeen_2 F Q) 2 → al_Ok F (k_X12_findSeen_25 F Q) 25 → al_Ok F (k_X12_findSeen_63 F Q) 63 → al_Ok F (k_X12_findSeen_64 F Q) 64 → al_Ok F (k_X12_findSeen_72 F Q) 72 → al_Ok F (k_X12_findSeen_78 F Q) 78 → F 0 [some (.ref a0), none, none] [] n R I J) : CT m_X12_findSeen 0 [.ref a0] n R I J Q :=
  CT.of (by decide) hn (fun _ => rfl) (fun _ => Nat.le_of_ble_eq_true rfl) (fun F p l e s m args below meth c Rm t Q0 C hQ hr hm => h F (fun _ _ _ _ _ _ _ _ => S_wk C)
    (S_iconst C dX12_findSeen_0 (by decide +kernel) (S_istore_n C dX12_findSeen_1 rfl (Nat.le_of_ble_eq_true rfl) (fun _ _ _ _ _ _ h9 => h9)))
    (S_iload_n C dX12_findSeen_2 rfl (S_bipush C dX12_findSeen_3 (by decide +kernel) (S_icmpge (tgt := 78) C dX12_findSeen_5 (by decide) (S_aload_n C dX12_findSeen_8 rfl (S_getR (ci := 12) (j := 4) C inG12 rfl (Nat.le_of_ble_eq_true rfl) rfl (al_at 922 (by decide +kernel) rfl) dX12_findSeen_9 (S_iload_n C dX12_findSeen_12 rfl (S_lconst C dX12_findSeen_13 (by decide +kernel) (S_last C dX12_findSeen_14 (S_aload_n C dX12_findSeen_15 rfl (S_iload_n C dX12_findSeen_16 rfl (S_cV (ci := 12) C ok_X12_isOpen rfl (al_at 1090 (by decide +kernel) rfl) (Nat.le_of_ble_eq_true rfl) (Nat.le_of_ble_eq_true rfl) dX12_findSeen_17 (S_ifeq (tgt := 72) C dX12_findSeen_20 (by decide) (S_iconst C dX12_findSeen_23 (by decide +kernel) (S_istore_n C dX12_findSeen_24 rfl (Nat.le_of_ble_eq_true rfl) (fun _ _ _ _ _ _ h9 => h9)))))))))))))))
    (S_iload_n C dX12_findSeen_25 rfl (S_bipush C dX12_findSeen_26 (by decide +kernel) (S_icmpge (tgt := 72) C dX12_findSeen_28 (by decide) (S_aload_n C dX12_findSeen_31 rfl (S_getR (ci := 12) (j := 4) C inG12 rfl (Nat.le_of_ble_eq_true rfl) rfl (al_at 922 (by decide +kernel) rfl) dX12_findSeen_32 (S_iload_n C dX12_findSeen_35 rfl (S_dup2 C dX12_findSeen_36 (S_lald C dX12_findSeen_37 (S_aload_n C dX12_findSeen_38 rfl (S_getR (ci := 12) (j := 0) C inG12 rfl (Nat.le_of_ble_eq_true rfl) rfl (al_at 918 (by decide +kernel) rfl) dX12_findSeen_39 (S_iload_n C dX12_findSeen_42 rfl (S_iald C dX12_findSeen_43 (S_iconst C dX12_findSeen_44 (by decide +kernel) (S_icmpne (tgt := 63) C dX12_findSeen_45 (by decide) (S_aload_n C dX12_findSeen_48 rfl (S_iload_n C dX12_findSeen_49 rfl (S_iload_n C dX12_findSeen_50 rfl (S_cV (ci := 12) C ok_X12_isClear rfl (al_at 1094 (by decide +kernel) rfl) (Nat.le_of_ble_eq_true rfl) (Nat.le_of_ble_eq_true rfl) dX12_findSeen_51 (S_ifeq (tgt := 63) C dX12_findSeen_54 (by decide) (S_lconst C dX12_findSeen_57 (by decide +kernel) (S_iload_n C dX12_findSeen_58 rfl (S_lshl C dX12_findSeen_59 (S_goto (tgt := 64) C dX12_findSeen_60 (by decide))))))))))))))))))))))))
    (S_lconst C dX12_findSeen_63 (by decide +kernel) (fun _ _ _ _ _ _ h9 => h9))
    (S_lor C dX12_findSeen_64 (S_last C dX12_findSeen_65 (S_iinc C dX12_findSeen_66 (by decide +kernel) (Nat.le_of_ble_eq_true rfl) (S_goto (tgt := 25) C dX12_findSeen_69 (by decide)))))
    (S_iinc C dX12_findSeen_72 (by decide +kernel) (Nat.le_of_ble_eq_true rfl) (S_goto (tgt := 2) C dX12_findSeen_75 (by decide)))
    (S_aload_n C dX12_findSeen_78 rfl (S_iconst C dX12_findSeen_79 (by decide +kernel) (S_putZ (ci := 12) (j := 5) C inG12 rfl (Nat.le_of_ble_eq_true rfl) tyX12 tyX12_ok nmX12 rfl rfl (tyX12_ok 5 (Nat.le_of_ble_eq_true rfl)) (al_at 923 (by decide +kernel) rfl) dX12_findSeen_80 (S_vret C hQ hr dX12_findSeen_83)))))
theorem dX12_findSpots_0 : decode cX12_findSpots 0 = .ok (.iconst 0, 1) := by decide +kernel
theorem dX12_findSpots_1 : decode cX12_findSpots 1 = .ok (.istore_n 1, 1) := by decide +kernel
theorem dX12_findSpots_2 : decode cX12_findSpots 2 = .ok (.iload_n 1, 1) := by decide +kernel
theorem dX12_findSpots_3 : decode cX12_findSpots 3 = .ok (.bipush 81, 2) := by decide +kernel
theorem dX12_findSpots_5 : decode cX12_findSpots 5 = .ok (.if_icmp .ge 38, 3) := by decide +kernel
theorem dX12_findSpots_8 : decode cX12_findSpots 8 = .ok (.aload_n 0, 1) := by decide +kernel
theorem dX12_findSpots_9 : decode cX12_findSpots 9 = .ok (.getfield 26, 3) := by decide +kernel
theorem dX12_findSpots_12 : decode cX12_findSpots 12 = .ok (.iload_n 1, 1) := by decide +kernel
theorem dX12_findSpots_13 : decode cX12_findSpots 13 = .ok (.aload_n 0, 1) := by decide +kernel
theorem dX12_findSpots_14 : decode cX12_findSpots 14 = .ok (.iload_n 1, 1) := by decide +kernel
theorem dX12_findSpots_15 : decode cX12_findSpots 15 = .ok (.invokevirtual 183, 3) := by decide +kernel
theorem dX12_findSpots_18 : decode cX12_findSpots 18 = .ok (.ifCond .eq 17, 3) := by decide +kernel
theorem dX12_findSpots_21 : decode cX12_findSpots 21 = .ok (.aload_n 0, 1) := by decide +kernel
theorem dX12_findSpots_22 : decode cX12_findSpots 22 = .ok (.iload_n 1, 1) := by decide +kernel
theorem dX12_findSpots_23 : decode cX12_findSpots 23 = .ok (.invokevirtual 172, 3) := by decide +kernel
theorem dX12_findSpots_26 : decode cX12_findSpots 26 = .ok (.lconst 0, 1) := by decide +kernel
theorem dX12_findSpots_27 : decode cX12_findSpots 27 = .ok (.lcmp, 1) := by decide +kernel
theorem dX12_findSpots_28 : decode cX12_findSpots 28 = .ok (.ifCond .eq 7, 3) := by decide +kernel
theorem dX12_findSpots_31 : decode cX12_findSpots 31 = .ok (.iconst 1, 1) := by decide +kernel
theorem dX12_findSpots_32 : decode cX12_findSpots 32 = .ok (.goto 4, 3) := by decide +kernel
theorem dX12_findSpots_35 : decode cX12_findSpots 35 = .ok (.iconst 0, 1) := by decide +kernel
theorem dX12_findSpots_36 : decode cX12_findSpots 36 = .ok (.bastore, 1) := by decide +kernel
theorem dX12_findSpots_37 : decode cX12_findSpots 37 = .ok (.iinc 1 1, 3) := by decide +kernel
theorem dX12_findSpots_40 : decode cX12_findSpots 40 = .ok (.goto (-38), 3) := by decide +kernel
theorem dX12_findSpots_43 : decode cX12_findSpots 43 = .ok (.iconst 0, 1) := by decide +kernel
theorem dX12_findSpots_44 : decode cX12_findSpots 44 = .ok (.istore_n 1, 1) := by decide +kernel
theorem dX12_findSpots_45 : decode cX12_findSpots 45 = .ok (.iconst 0, 1) := by decide +kernel
theorem dX12_findSpots_46 : decode cX12_findSpots 46 = .ok (.istore_n 2, 1) := by decide +kernel
theorem dX12_findSpots_47 : decode cX12_findSpots 47 = .ok (.iload_n 2, 1) := by decide +kernel
theorem dX12_findSpots_48 : decode cX12_findSpots 48 = .ok (.ifCond .lt 113, 3) := by decide +kernel
theorem dX12_findSpots_51 : decode cX12_findSpots 51 = .ok (.iconst (-1), 1) := by decide +kernel
theorem dX12_findSpots_52 : decode cX12_findSpots 52 = .ok (.istore_n 2, 1) := by decide +kernel
theorem dX12_findSpots_53 : decode cX12_findSpots 53 = .ok (.iconst 0, 1) := by decide +kernel
theorem dX12_findSpots_54 : decode cX12_findSpots 54 = .ok (.istore_n 3, 1) := by decide +kernel
theorem dX12_findSpots_55 : decode cX12_findSpots 55 = .ok (.iconst 0, 1) := by decide +kernel
theorem dX12_findSpots_56 : decode cX12_findSpots 56 = .ok (.istore 4, 2) := by decide +kernel
theorem dX12_findSpots_58 : decode cX12_findSpots 58 = .ok (.iload 4, 2) := by decide +kernel
theorem dX12_findSpots_60 : decode cX12_findSpots 60 = .ok (.bipush 64, 2) := by decide +kernel
theorem dX12_findSpots_62 : decode cX12_findSpots 62 = .ok (.if_icmp .ge 29, 3) := by decide +kernel
theorem dX12_findSpots_65 : decode cX12_findSpots 65 = .ok (.aload_n 0, 1) := by decide +kernel
theorem dX12_findSpots_66 : decode cX12_findSpots 66 = .ok (.iload 4, 2) := by decide +kernel
theorem dX12_findSpots_68 : decode cX12_findSpots 68 = .ok (.invokevirtual 212, 3) := by decide +kernel
theorem dX12_findSpots_71 : decode cX12_findSpots 71 = .ok (.istore 5, 2) := by decide +kernel
theorem dX12_findSpots_73 : decode cX12_findSpots 73 = .ok (.iload 5, 2) := by decide +kernel
theorem dX12_findSpots_75 : decode cX12_findSpots 75 = .ok (.iload_n 3, 1) := by decide +kernel
theorem dX12_findSpots_76 : decode cX12_findSpots 76 = .ok (.if_icmp .le 9, 3) := by decide +kernel
theorem dX12_findSpots_79 : decode cX12_findSpots 79 = .ok (.iload 5, 2) := by decide +kernel
theorem dX12_findSpots_81 : decode cX12_findSpots 81 = .ok (.istore_n 3, 1) := by decide +kernel
theorem dX12_findSpots_82 : decode cX12_findSpots 82 = .ok (.iload 4, 2) := by decide +kernel
theorem dX12_findSpots_84 : decode cX12_findSpots 84 = .ok (.istore_n 2, 1) := by decide +kernel
theorem dX12_findSpots_85 : decode cX12_findSpots 85 = .ok (.iinc 4 1, 3) := by decide +kernel
theorem dX12_findSpots_88 : decode cX12_findSpots 88 = .ok (.goto (-30), 3) := by decide +kernel
theorem dX12_findSpots_91 : decode cX12_findSpots 91 = .ok (.iload_n 2, 1) := by decide +kernel
theorem dX12_findSpots_92 : decode cX12_findSpots 92 = .ok (.ifCond .lt 66, 3) := by decide +kernel
theorem dX12_findSpots_95 : decode cX12_findSpots 95 = .ok (.aload_n 0, 1) := by decide +kernel
theorem dX12_findSpots_96 : decode cX12_findSpots 96 = .ok (.getfield 23, 3) := by decide +kernel
theorem dX12_findSpots_99 : decode cX12_findSpots 99 = .ok (.iload_n 1, 1) := by decide +kernel
theorem dX12_findSpots_100 : decode cX12_findSpots 100 = .ok (.iload_n 2, 1) := by decide +kernel
theorem dX12_findSpots_101 : decode cX12_findSpots 101 = .ok (.iastore, 1) := by decide +kernel
theorem dX12_findSpots_102 : decode cX12_findSpots 102 = .ok (.iinc 1 1, 3) := by decide +kernel
theorem dX12_findSpots_105 : decode cX12_findSpots 105 = .ok (.iconst 0, 1) := by decide +kernel
theorem dX12_findSpots_106 : decode cX12_findSpots 106 = .ok (.istore 4, 2) := by decide +kernel
theorem dX12_findSpots_108 : decode cX12_findSpots 108 = .ok (.iload 4, 2) := by decide +kernel
theorem dX12_findSpots_110 : decode cX12_findSpots 110 = .ok (.bipush 81, 2) := by decide +kernel
theorem dX12_findSpots_112 : decode cX12_findSpots 112 = .ok (.if_icmp .ge 46, 3) := by decide +kernel
theorem dX12_findSpots_115 : decode cX12_findSpots 115 = .ok (.aload_n 0, 1) := by decide +kernel
theorem dX12_findSpots_116 : decode cX12_findSpots 116 = .ok (.getfield 26, 3) := by decide +kernel
theorem dX12_findSpots_119 : decode cX12_findSpots 119 = .ok (.iload 4, 2) := by decide +kernel
theorem dX12_findSpots_121 : decode cX12_findSpots 121 = .ok (.aload_n 0, 1) := by decide +kernel
theorem dX12_findSpots_122 : decode cX12_findSpots 122 = .ok (.getfield 26, 3) := by decide +kernel
theorem dX12_findSpots_125 : decode cX12_findSpots 125 = .ok (.iload 4, 2) := by decide +kernel
theorem dX12_findSpots_127 : decode cX12_findSpots 127 = .ok (.baload, 1) := by decide +kernel
theorem dX12_findSpots_128 : decode cX12_findSpots 128 = .ok (.ifCond .eq 22, 3) := by decide +kernel
theorem dX12_findSpots_131 : decode cX12_findSpots 131 = .ok (.aload_n 0, 1) := by decide +kernel
theorem dX12_findSpots_132 : decode cX12_findSpots 132 = .ok (.iload 4, 2) := by decide +kernel
theorem dX12_findSpots_134 : decode cX12_findSpots 134 = .ok (.invokevirtual 172, 3) := by decide +kernel
theorem dX12_findSpots_137 : decode cX12_findSpots 137 = .ok (.iload_n 2, 1) := by decide +kernel
theorem dX12_findSpots_138 : decode cX12_findSpots 138 = .ok (.lshr, 1) := by decide +kernel
theorem dX12_findSpots_139 : decode cX12_findSpots 139 = .ok (.lconst 1, 1) := by decide +kernel
theorem dX12_findSpots_140 : decode cX12_findSpots 140 = .ok (.land, 1) := by decide +kernel
theorem dX12_findSpots_141 : decode cX12_findSpots 141 = .ok (.lconst 0, 1) := by decide +kernel
theorem dX12_findSpots_142 : decode cX12_findSpots 142 = .ok (.lcmp, 1) := by decide +kernel
theorem dX12_findSpots_143 : decode cX12_findSpots 143 = .ok (.ifCond .ne 7, 3) := by decide +kernel
theorem dX12_findSpots_146 : decode cX12_findSpots 146 = .ok (.iconst 1, 1) := by decide +kernel
theorem dX12_findSpots_147 : decode cX12_findSpots 147 = .ok (.goto 4, 3) := by decide +kernel
theorem dX12_findSpots_150 : decode cX12_findSpots 150 = .ok (.iconst 0, 1) := by decide +kernel
theorem dX12_findSpots_151 : decode cX12_findSpots 151 = .ok (.bastore, 1) := by decide +kernel
theorem dX12_findSpots_152 : decode cX12_findSpots 152 = .ok (.iinc 4 1, 3) := by decide +kernel
theorem dX12_findSpots_155 : decode cX12_findSpots 155 = .ok (.goto (-47), 3) := by decide +kernel
theorem dX12_findSpots_158 : decode cX12_findSpots 158 = .ok (.goto (-111), 3) := by decide +kernel
theorem dX12_findSpots_161 : decode cX12_findSpots 161 = .ok (.iload_n 1, 1) := by decide +kernel
theorem dX12_findSpots_162 : decode cX12_findSpots 162 = .ok (.ireturn, 1) := by decide +kernel
def k_X12_findSpots_0 (F : FT) (Q : QT) : KT := o_ic (nI 0) (o_istore 1 (F 2))
def k_X12_findSpots_2 (F : FT) (Q : QT) : KT := o_iload 1 (o_ic (nI 81) (o_icge (F 43) (o_aload 0 (o_getR 12 8 (o_iload 1 (o_aload 0 (o_iload 1 (o_cV 12 m_X12_whoseIs 2 (o_ifeq (F 35) (o_aload 0 (o_iload 1 (o_cV 12 m_X12_seenAt 2 (o_lc (lN 0) (o_lcmp (o_ifeq (F 35) (o_ic (nI 1) (F 36)))))))))))))))))
def k_X12_findSpots_35 (F : FT) (Q : QT) : KT := o_ic (nI 0) (F 36)
def k_X12_findSpots_36 (F : FT) (Q : QT) : KT := o_zast (o_iinc 1 (nI 1) (F 2))
def k_X12_findSpots_43 (F : FT) (Q : QT) : KT := o_ic (nI 0) (o_istore 1 (o_ic (nI 0) (o_istore 2 (F 47))))
def k_X12_findSpots_47 (F : FT) (Q : QT) : KT := o_iload 2 (o_iflt (F 161) (o_ic (-1) (o_istore 2 (o_ic (nI 0) (o_istore 3 (o_ic (nI 0) (o_istore 4 (F 58))))))))
def k_X12_findSpots_58 (F : FT) (Q : QT) : KT := o_iload 4 (o_ic (nI 64) (o_icge (F 91) (o_aload 0 (o_iload 4 (o_cV 12 m_X12_newFrom 2 (o_istore 5 (o_iload 5 (o_iload 3 (o_icle (F 85) (o_iload 5 (o_istore 3 (o_iload 4 (o_istore 2 (F 85))))))))))))))
def k_X12_findSpots_85 (F : FT) (Q : QT) : KT := o_iinc 4 (nI 1) (F 58)
def k_X12_findSpots_91 (F : FT) (Q : QT) : KT := o_iload 2 (o_iflt (F 158) (o_aload 0 (o_getR 12 7 (o_iload 1 (o_iload 2 (o_iast (o_iinc 1 (nI 1) (o_ic (nI 0) (o_istore 4 (F 108))))))))))
def k_X12_findSpots_108 (F : FT) (Q : QT) : KT := o_iload 4 (o_ic (nI 81) (o_icge (F 158) (o_aload 0 (o_getR 12 8 (o_iload 4 (o_aload 0 (o_getR 12 8 (o_iload 4 (o_zald (o_ifeq (F 150) (o_aload 0 (o_iload 4 (o_cV 12 m_X12_seenAt 2 (o_iload 2 (o_lshr (o_lc (lN 1) (o_land (o_lc (lN 0) (o_lcmp (o_ifne (F 150) (o_ic (nI 1) (F 151))))))))))))))))))))))
def k_X12_findSpots_150 (F : FT) (Q : QT) : KT := o_ic (nI 0) (F 151)
def k_X12_findSpots_151 (F : FT) (Q : QT) : KT := o_zast (o_iinc 4 (nI 1) (F 108))
def k_X12_findSpots_158 (F : FT) (Q : QT) : KT := F 47
def k_X12_findSpots_161 (F : FT) (Q : QT) : KT := o_iload 1 (o_iret Q)
set_option maxRecDepth 20000 in
theorem r_X12_findSpots {a0 : Nat} {n : Nat} {R : RR} {I : II} {J : JJ} {Q : QT} (hn : n + 0 ≤ 90) (h : ∀ F : FT, al_Wk F → al_Ok F (k_X12_findSpots_0 F Q) 0 → al_Ok F (k_X12_findSpots_2 F Q) 2 → al_Ok F (k_X12_findSpots_35 F Q) 35 → al_Ok F (k_X12_findSpots_36 F Q) 36 → al_Ok F (k_X12_findSpots_43 F Q) 43 → al_Ok F (k_X12_findSpots_47 F Q) 47 → al_Ok F (k_X12_findSpots_58 F Q) 58 → al_Ok F (k_X12_findSpots_85 F Q) 85 → al_Ok F (k_X12_findSpots_91 F Q) 91 → al_Ok F (k_X12_findSpots_108 F Q) 108 → al_Ok F (k_X12_findSpots_150 F Q) 150 → al_Ok F (k_X12_findSpots_151 F Q) 151 → al_Ok F (k_X12_findSpots_158 F Q) 158 → al_Ok F (k_X12_findSpots_161 F Q) 161 → F 0 [some (.ref a0), none, none, none, none, none] [] n R I J) : CT m_X12_findSpots 0 [.ref a0] n R I J Q :=
  CT.of (by decide) hn (fun _ => rfl) (fun _ => Nat.le_of_ble_eq_true rfl) (fun F p l e s m args below meth c Rm t Q0 C hQ hr hm => h F (fun _ _ _ _ _ _ _ _ => S_wk C)
    (S_iconst C dX12_findSpots_0 (by decide +kernel) (S_istore_n C dX12_findSpots_1 rfl (Nat.le_of_ble_eq_true rfl) (fun _ _ _ _ _ _ h9 => h9)))
    (S_iload_n C dX12_findSpots_2 rfl (S_bipush C dX12_findSpots_3 (by decide +kernel) (S_icmpge (tgt := 43) C dX12_findSpots_5 (by decide) (S_aload_n C dX12_findSpots_8 rfl (S_getR (ci := 12) (j := 8) C inG12 rfl (Nat.le_of_ble_eq_true rfl) rfl (al_at 926 (by decide +kernel) rfl) dX12_findSpots_9 (S_iload_n C dX12_findSpots_12 rfl (S_aload_n C dX12_findSpots_13 rfl (S_iload_n C dX12_findSpots_14 rfl (S_cV (ci := 12) C ok_X12_whoseIs rfl (al_at 1110 (by decide +kernel) rfl) (Nat.le_of_ble_eq_true rfl) (Nat.le_of_ble_eq_true rfl) dX12_findSpots_15 (S_ifeq (tgt := 35) C dX12_findSpots_18 (by decide) (S_aload_n C dX12_findSpots_21 rfl (S_iload_n C dX12_findSpots_22 rfl (S_cV (ci := 12) C ok_X12_seenAt rfl (al_at 1082 (by decide +kernel) rfl) (Nat.le_of_ble_eq_true rfl) (Nat.le_of_ble_eq_true rfl) dX12_findSpots_23 (S_lconst C dX12_findSpots_26 (by decide +kernel) (S_lcmp C dX12_findSpots_27 (S_ifeq (tgt := 35) C dX12_findSpots_28 (by decide) (S_iconst C dX12_findSpots_31 (by decide +kernel) (S_goto (tgt := 36) C dX12_findSpots_32 (by decide)))))))))))))))))))
    (S_iconst C dX12_findSpots_35 (by decide +kernel) (fun _ _ _ _ _ _ h9 => h9))
    (S_zast C dX12_findSpots_36 (S_iinc C dX12_findSpots_37 (by decide +kernel) (Nat.le_of_ble_eq_true rfl) (S_goto (tgt := 2) C dX12_findSpots_40 (by decide))))
    (S_iconst C dX12_findSpots_43 (by decide +kernel) (S_istore_n C dX12_findSpots_44 rfl (Nat.le_of_ble_eq_true rfl) (S_iconst C dX12_findSpots_45 (by decide +kernel) (S_istore_n C dX12_findSpots_46 rfl (Nat.le_of_ble_eq_true rfl) (fun _ _ _ _ _ _ h9 => h9)))))
    (S_iload_n C dX12_findSpots_47 rfl (S_iflt (tgt := 161) C dX12_findSpots_48 (by decide) (S_iconst C dX12_findSpots_51 (by decide +kernel) (S_istore_n C dX12_findSpots_52 rfl (Nat.le_of_ble_eq_true rfl) (S_iconst C dX12_findSpots_53 (by decide +kernel) (S_istore_n C dX12_findSpots_54 rfl (Nat.le_of_ble_eq_true rfl) (S_iconst C dX12_findSpots_55 (by decide +kernel) (S_istore C dX12_findSpots_56 (Nat.le_of_ble_eq_true rfl) (fun _ _ _ _ _ _ h9 => h9)))))))))
    (S_iload C dX12_findSpots_58 (S_bipush C dX12_findSpots_60 (by decide +kernel) (S_icmpge (tgt := 91) C dX12_findSpots_62 (by decide) (S_aload_n C dX12_findSpots_65 rfl (S_iload C dX12_findSpots_66 (S_cV (ci := 12) C ok_X12_newFrom rfl (al_at 1203 (by decide +kernel) rfl) (Nat.le_of_ble_eq_true rfl) (Nat.le_of_ble_eq_true rfl) dX12_findSpots_68 (S_istore C dX12_findSpots_71 (Nat.le_of_ble_eq_true rfl) (S_iload C dX12_findSpots_73 (S_iload_n C dX12_findSpots_75 rfl (S_icmple (tgt := 85) C dX12_findSpots_76 (by decide) (S_iload C dX12_findSpots_79 (S_istore_n C dX12_findSpots_81 rfl (Nat.le_of_ble_eq_true rfl) (S_iload C dX12_findSpots_82 (S_istore_n C dX12_findSpots_84 rfl (Nat.le_of_ble_eq_true rfl) (fun _ _ _ _ _ _ h9 => h9)))))))))))))))
    (S_iinc C dX12_findSpots_85 (by decide +kernel) (Nat.le_of_ble_eq_true rfl) (S_goto (tgt := 58) C dX12_findSpots_88 (by decide)))
    (S_iload_n C dX12_findSpots_91 rfl (S_iflt (tgt := 158) C dX12_findSpots_92 (by decide) (S_aload_n C dX12_findSpots_95 rfl (S_getR (ci := 12) (j := 7) C inG12 rfl (Nat.le_of_ble_eq_true rfl) rfl (al_at 925 (by decide +kernel) rfl) dX12_findSpots_96 (S_iload_n C dX12_findSpots_99 rfl (S_iload_n C dX12_findSpots_100 rfl (S_iast C dX12_findSpots_101 (S_iinc C dX12_findSpots_102 (by decide +kernel) (Nat.le_of_ble_eq_true rfl) (S_iconst C dX12_findSpots_105 (by decide +kernel) (S_istore C dX12_findSpots_106 (Nat.le_of_ble_eq_true rfl) (fun _ _ _ _ _ _ h9 => h9)))))))))))
    (S_iload C dX12_findSpots_108 (S_bipush C dX12_findSpots_110 (by decide +kernel) (S_icmpge (tgt := 158) C dX12_findSpots_112 (by decide) (S_aload_n C dX12_findSpots_115 rfl (S_getR (ci := 12) (j := 8) C inG12 rfl (Nat.le_of_ble_eq_true rfl) rfl (al_at 926 (by decide +kernel) rfl) dX12_findSpots_116 (S_iload C dX12_findSpots_119 (S_aload_n C dX12_findSpots_121 rfl (S_getR (ci := 12) (j := 8) C inG12 rfl (Nat.le_of_ble_eq_true rfl) rfl (al_at 926 (by decide +kernel) rfl) dX12_findSpots_122 (S_iload C dX12_findSpots_125 (S_zald C dX12_findSpots_127 (S_ifeq (tgt := 150) C dX12_findSpots_128 (by decide) (S_aload_n C dX12_findSpots_131 rfl (S_iload C dX12_findSpots_132 (S_cV (ci := 12) C ok_X12_seenAt rfl (al_at 1082 (by decide +kernel) rfl) (Nat.le_of_ble_eq_true rfl) (Nat.le_of_ble_eq_true rfl) dX12_findSpots_134 (S_iload_n C dX12_findSpots_137 rfl (S_lshr C dX12_findSpots_138 (S_lconst C dX12_findSpots_139 (by decide +kernel) (S_land C dX12_findSpots_140 (S_lconst C dX12_findSpots_141 (by decide +kernel) (S_lcmp C dX12_findSpots_142 (S_ifne (tgt := 150) C dX12_findSpots_143 (by decide) (S_iconst C dX12_findSpots_146 (by decide +kernel) (S_goto (tgt := 151) C dX12_findSpots_147 (by decide))))))))))))))))))))))))
    (S_iconst C dX12_findSpots_150 (by decide +kernel) (fun _ _ _ _ _ _ h9 => h9))
    (S_zast C dX12_findSpots_151 (S_iinc C dX12_findSpots_152 (by decide +kernel) (Nat.le_of_ble_eq_true rfl) (S_goto (tgt := 108) C dX12_findSpots_155 (by decide))))
    (S_goto (tgt := 47) C dX12_findSpots_158 (by decide))
    (S_iload_n C dX12_findSpots_161 rfl (S_iret C hQ hr dX12_findSpots_162)))
theorem dX12_finding_0 : decode cX12_finding 0 = .ok (.aload_n 0, 1) := by decide +kernel
theorem dX12_finding_1 : decode cX12_finding 1 = .ok (.getfield 16, 3) := by decide +kernel
theorem dX12_finding_4 : decode cX12_finding 4 = .ok (.ldc 80, 2) := by decide +kernel
theorem dX12_finding_6 : decode cX12_finding 6 = .ok (.iload_n 1, 1) := by decide +kernel
theorem dX12_finding_7 : decode cX12_finding 7 = .ok (.isub, 1) := by decide +kernel
theorem dX12_finding_8 : decode cX12_finding 8 = .ok (.iconst 1, 1) := by decide +kernel
theorem dX12_finding_9 : decode cX12_finding 9 = .ok (.iadd, 1) := by decide +kernel
theorem dX12_finding_10 : decode cX12_finding 10 = .ok (.dup2, 1) := by decide +kernel
theorem dX12_finding_11 : decode cX12_finding 11 = .ok (.iaload, 1) := by decide +kernel
theorem dX12_finding_12 : decode cX12_finding 12 = .ok (.iconst 1, 1) := by decide +kernel
theorem dX12_finding_13 : decode cX12_finding 13 = .ok (.iadd, 1) := by decide +kernel
theorem dX12_finding_14 : decode cX12_finding 14 = .ok (.iastore, 1) := by decide +kernel
theorem dX12_finding_15 : decode cX12_finding 15 = .ok (.aload_n 0, 1) := by decide +kernel
theorem dX12_finding_16 : decode cX12_finding 16 = .ok (.getfield 16, 3) := by decide +kernel
theorem dX12_finding_19 : decode cX12_finding 19 = .ok (.iconst 0, 1) := by decide +kernel
theorem dX12_finding_20 : decode cX12_finding 20 = .ok (.dup2, 1) := by decide +kernel
theorem dX12_finding_21 : decode cX12_finding 21 = .ok (.iaload, 1) := by decide +kernel
theorem dX12_finding_22 : decode cX12_finding 22 = .ok (.iconst 1, 1) := by decide +kernel
theorem dX12_finding_23 : decode cX12_finding 23 = .ok (.iadd, 1) := by decide +kernel
theorem dX12_finding_24 : decode cX12_finding 24 = .ok (.iastore, 1) := by decide +kernel
theorem dX12_finding_25 : decode cX12_finding 25 = .ok (.iload_n 1, 1) := by decide +kernel
theorem dX12_finding_26 : decode cX12_finding 26 = .ok (.ireturn, 1) := by decide +kernel
def k_X12_finding_0 (F : FT) (Q : QT) : KT := o_aload 0 (o_getR 12 3 (o_ic (-1000000001) (o_iload 1 (o_isub (o_ic (nI 1) (o_iadd (o_dup2 (o_iald (o_ic (nI 1) (o_iadd (o_iast (o_aload 0 (o_getR 12 3 (o_ic (nI 0) (o_dup2 (o_iald (o_ic (nI 1) (o_iadd (o_iast (o_iload 1 (o_iret Q)))))))))))))))))))))
set_option maxRecDepth 20000 in
theorem r_X12_finding {a0 : Nat} {a1 : Int32} {n : Nat} {R : RR} {I : II} {J : JJ} {Q : QT} (hn : n + 0 ≤ 90) (h : ∀ F : FT, al_Wk F → al_Ok F (k_X12_finding_0 F Q) 0 → F 0 [some (.ref a0), some (.int a1)] [] n R I J) : CT m_X12_finding 0 [.ref a0, .int a1] n R I J Q :=
  CT.of (by decide) hn (fun _ => rfl) (fun _ => Nat.le_of_ble_eq_true rfl) (fun F p l e s m args below meth c Rm t Q0 C hQ hr hm => h F (fun _ _ _ _ _ _ _ _ => S_wk C)
    (S_aload_n C dX12_finding_0 rfl (S_getR (ci := 12) (j := 3) C inG12 rfl (Nat.le_of_ble_eq_true rfl) rfl (al_at 921 (by decide +kernel) rfl) dX12_finding_1 (S_ldc C dX12_finding_4 (al_at 1020 (by decide +kernel) rfl) (S_iload_n C dX12_finding_6 rfl (S_isub C dX12_finding_7 (S_iconst C dX12_finding_8 (by decide +kernel) (S_iadd C dX12_finding_9 (S_dup2 C dX12_finding_10 (S_iald C dX12_finding_11 (S_iconst C dX12_finding_12 (by decide +kernel) (S_iadd C dX12_finding_13 (S_iast C dX12_finding_14 (S_aload_n C dX12_finding_15 rfl (S_getR (ci := 12) (j := 3) C inG12 rfl (Nat.le_of_ble_eq_true rfl) rfl (al_at 921 (by decide +kernel) rfl) dX12_finding_16 (S_iconst C dX12_finding_19 (by decide +kernel) (S_dup2 C dX12_finding_20 (S_iald C dX12_finding_21 (S_iconst C dX12_finding_22 (by decide +kernel) (S_iadd C dX12_finding_23 (S_iast C dX12_finding_24 (S_iload_n C dX12_finding_25 rfl (S_iret C hQ hr dX12_finding_26)))))))))))))))))))))))
theorem dX12_founded_0 : decode cX12_founded 0 = .ok (.aload_n 0, 1) := by decide +kernel
theorem dX12_founded_1 : decode cX12_founded 1 = .ok (.getfield 9, 3) := by decide +kernel
theorem dX12_founded_4 : decode cX12_founded 4 = .ok (.sipush 142, 3) := by decide +kernel
theorem dX12_founded_7 : decode cX12_founded 7 = .ok (.iaload, 1) := by decide +kernel
theorem dX12_founded_8 : decode cX12_founded 8 = .ok (.istore_n 3, 1) := by decide +kernel
theorem dX12_founded_9 : decode cX12_founded 9 = .ok (.bipush 64, 2) := by decide +kernel
theorem dX12_founded_11 : decode cX12_founded 11 = .ok (.iconst 5, 1) := by decide +kernel
theorem dX12_founded_12 : decode cX12_founded 12 = .ok (.iload_n 3, 1) := by decide +kernel
theorem dX12_founded_13 : decode cX12_founded 13 = .ok (.imul, 1) := by decide +kernel
theorem dX12_founded_14 : decode cX12_founded 14 = .ok (.iadd, 1) := by decide +kernel
theorem dX12_founded_15 : decode cX12_founded 15 = .ok (.istore 4, 2) := by decide +kernel
theorem dX12_founded_17 : decode cX12_founded 17 = .ok (.aload_n 0, 1) := by decide +kernel
theorem dX12_founded_18 : decode cX12_founded 18 = .ok (.getfield 9, 3) := by decide +kernel
theorem dX12_founded_21 : decode cX12_founded 21 = .ok (.iload 4, 2) := by decide +kernel
theorem dX12_founded_23 : decode cX12_founded 23 = .ok (.iconst 0, 1) := by decide +kernel
theorem dX12_founded_24 : decode cX12_founded 24 = .ok (.iadd, 1) := by decide +kernel
theorem dX12_founded_25 : decode cX12_founded 25 = .ok (.iload_n 1, 1) := by decide +kernel
theorem dX12_founded_26 : decode cX12_founded 26 = .ok (.iastore, 1) := by decide +kernel
theorem dX12_founded_27 : decode cX12_founded 27 = .ok (.aload_n 0, 1) := by decide +kernel
theorem dX12_founded_28 : decode cX12_founded 28 = .ok (.getfield 9, 3) := by decide +kernel
theorem dX12_founded_31 : decode cX12_founded 31 = .ok (.iload 4, 2) := by decide +kernel
theorem dX12_founded_33 : decode cX12_founded 33 = .ok (.iconst 1, 1) := by decide +kernel
theorem dX12_founded_34 : decode cX12_founded 34 = .ok (.iadd, 1) := by decide +kernel
theorem dX12_founded_35 : decode cX12_founded 35 = .ok (.iload_n 2, 1) := by decide +kernel
theorem dX12_founded_36 : decode cX12_founded 36 = .ok (.iastore, 1) := by decide +kernel
theorem dX12_founded_37 : decode cX12_founded 37 = .ok (.aload_n 0, 1) := by decide +kernel
theorem dX12_founded_38 : decode cX12_founded 38 = .ok (.getfield 9, 3) := by decide +kernel
theorem dX12_founded_41 : decode cX12_founded 41 = .ok (.iload 4, 2) := by decide +kernel
theorem dX12_founded_43 : decode cX12_founded 43 = .ok (.iconst 2, 1) := by decide +kernel
theorem dX12_founded_44 : decode cX12_founded 44 = .ok (.iadd, 1) := by decide +kernel
theorem dX12_founded_45 : decode cX12_founded 45 = .ok (.iconst 0, 1) := by decide +kernel
theorem dX12_founded_46 : decode cX12_founded 46 = .ok (.iastore, 1) := by decide +kernel
theorem dX12_founded_47 : decode cX12_founded 47 = .ok (.aload_n 0, 1) := by decide +kernel
theorem dX12_founded_48 : decode cX12_founded 48 = .ok (.getfield 9, 3) := by decide +kernel
theorem dX12_founded_51 : decode cX12_founded 51 = .ok (.iload 4, 2) := by decide +kernel
theorem dX12_founded_53 : decode cX12_founded 53 = .ok (.iconst 3, 1) := by decide +kernel
theorem dX12_founded_54 : decode cX12_founded 54 = .ok (.iadd, 1) := by decide +kernel
theorem dX12_founded_55 : decode cX12_founded 55 = .ok (.iconst 0, 1) := by decide +kernel
theorem dX12_founded_56 : decode cX12_founded 56 = .ok (.iastore, 1) := by decide +kernel
theorem dX12_founded_57 : decode cX12_founded 57 = .ok (.aload_n 0, 1) := by decide +kernel
theorem dX12_founded_58 : decode cX12_founded 58 = .ok (.getfield 9, 3) := by decide +kernel
theorem dX12_founded_61 : decode cX12_founded 61 = .ok (.iload 4, 2) := by decide +kernel
theorem dX12_founded_63 : decode cX12_founded 63 = .ok (.iconst 4, 1) := by decide +kernel
theorem dX12_founded_64 : decode cX12_founded 64 = .ok (.iadd, 1) := by decide +kernel
theorem dX12_founded_65 : decode cX12_founded 65 = .ok (.iconst 0, 1) := by decide +kernel
theorem dX12_founded_66 : decode cX12_founded 66 = .ok (.iastore, 1) := by decide +kernel
theorem dX12_founded_67 : decode cX12_founded 67 = .ok (.aload_n 0, 1) := by decide +kernel
theorem dX12_founded_68 : decode cX12_founded 68 = .ok (.getfield 9, 3) := by decide +kernel
theorem dX12_founded_71 : decode cX12_founded 71 = .ok (.sipush 142, 3) := by decide +kernel
theorem dX12_founded_74 : decode cX12_founded 74 = .ok (.dup2, 1) := by decide +kernel
theorem dX12_founded_75 : decode cX12_founded 75 = .ok (.iaload, 1) := by decide +kernel
theorem dX12_founded_76 : decode cX12_founded 76 = .ok (.iconst 1, 1) := by decide +kernel
theorem dX12_founded_77 : decode cX12_founded 77 = .ok (.iadd, 1) := by decide +kernel
theorem dX12_founded_78 : decode cX12_founded 78 = .ok (.iastore, 1) := by decide +kernel
theorem dX12_founded_79 : decode cX12_founded 79 = .ok (.iload_n 3, 1) := by decide +kernel
theorem dX12_founded_80 : decode cX12_founded 80 = .ok (.ireturn, 1) := by decide +kernel
def k_X12_founded_0 (F : FT) (Q : QT) : KT := o_aload 0 (o_getR 12 0 (o_ic (nI 142) (o_iald (o_istore 3 (o_ic (nI 64) (o_ic (nI 5) (o_iload 3 (o_imul (o_iadd (o_istore 4 (o_aload 0 (o_getR 12 0 (o_iload 4 (o_ic (nI 0) (o_iadd (o_iload 1 (o_iast (o_aload 0 (o_getR 12 0 (o_iload 4 (o_ic (nI 1) (o_iadd (o_iload 2 (o_iast (o_aload 0 (o_getR 12 0 (o_iload 4 (o_ic (nI 2) (o_iadd (o_ic (nI 0) (o_iast (o_aload 0 (o_getR 12 0 (o_iload 4 (o_ic (nI 3) (o_iadd (o_ic (nI 0) (o_iast (o_aload 0 (o_getR 12 0 (o_iload 4 (o_ic (nI 4) (o_iadd (o_ic (nI 0) (o_iast (o_aload 0 (o_getR 12 0 (o_ic (nI 142) (o_dup2 (o_iald (o_ic (nI 1) (o_iadd (o_iast (o_iload 3 (o_iret Q)))))))))))))))))))))))))))))))))))))))))))))))))))))))
set_option maxRecDepth 20000 in
theorem r_X12_founded {a0 : Nat} {a1 : Int32} {a2 : Int32} {n : Nat} {R : RR} {I : II} {J : JJ} {Q : QT} (hn : n + 0 ≤ 90) (h : ∀ F : FT, al_Wk F → al_Ok F (k_X12_founded_0 F Q) 0 → F 0 [some (.ref a0), some (.int a1), some (.int a2), none, none] [] n R I J) : CT m_X12_founded 0 [.ref a0, .int a1, .int a2] n R I J Q :=
  CT.of (by decide) hn (fun _ => rfl) (fun _ => Nat.le_of_ble_eq_true rfl) (fun F p l e s m args below meth c Rm t Q0 C hQ hr hm => h F (fun _ _ _ _ _ _ _ _ => S_wk C)
    (S_aload_n C dX12_founded_0 rfl (S_getR (ci := 12) (j := 0) C inG12 rfl (Nat.le_of_ble_eq_true rfl) rfl (al_at 918 (by decide +kernel) rfl) dX12_founded_1 (S_sipush C dX12_founded_4 (by decide +kernel) (S_iald C dX12_founded_7 (S_istore_n C dX12_founded_8 rfl (Nat.le_of_ble_eq_true rfl) (S_bipush C dX12_founded_9 (by decide +kernel) (S_iconst C dX12_founded_11 (by decide +kernel) (S_iload_n C dX12_founded_12 rfl (S_imul C dX12_founded_13 (S_iadd C dX12_founded_14 (S_istore C dX12_founded_15 (Nat.le_of_ble_eq_true rfl) (S_aload_n C dX12_founded_17 rfl (S_getR (ci := 12) (j := 0) C inG12 rfl (Nat.le_of_ble_eq_true rfl) rfl (al_at 918 (by decide +kernel) rfl) dX12_founded_18 (S_iload C dX12_founded_21 (S_iconst C dX12_founded_23 (by decide +kernel) (S_iadd C dX12_founded_24 (S_iload_n C dX12_founded_25 rfl (S_iast C dX12_founded_26 (S_aload_n C dX12_founded_27 rfl (S_getR (ci := 12) (j := 0) C inG12 rfl (Nat.le_of_ble_eq_true rfl) rfl (al_at 918 (by decide +kernel) rfl) dX12_founded_28 (S_iload C dX12_founded_31 (S_iconst C dX12_founded_33 (by decide +kernel) (S_iadd C dX12_founded_34 (S_iload_n C dX12_founded_35 rfl (S_iast C dX12_founded_36 (S_aload_n C dX12_founded_37 rfl (S_getR (ci := 12) (j := 0) C inG12 rfl (Nat.le_of_ble_eq_true rfl) rfl (al_at 918 (by decide +kernel) rfl) dX12_founded_38 (S_iload C dX12_founded_41 (S_iconst C dX12_founded_43 (by decide +kernel) (S_iadd C dX12_founded_44 (S_iconst C dX12_founded_45 (by decide +kernel) (S_iast C dX12_founded_46 (S_aload_n C dX12_founded_47 rfl (S_getR (ci := 12) (j := 0) C inG12 rfl (Nat.le_of_ble_eq_true rfl) rfl (al_at 918 (by decide +kernel) rfl) dX12_founded_48 (S_iload C dX12_founded_51 (S_iconst C dX12_founded_53 (by decide +kernel) (S_iadd C dX12_founded_54 (S_iconst C dX12_founded_55 (by decide +kernel) (S_iast C dX12_founded_56 (S_aload_n C dX12_founded_57 rfl (S_getR (ci := 12) (j := 0) C inG12 rfl (Nat.le_of_ble_eq_true rfl) rfl (al_at 918 (by decide +kernel) rfl) dX12_founded_58 (S_iload C dX12_founded_61 (S_iconst C dX12_founded_63 (by decide +kernel) (S_iadd C dX12_founded_64 (S_iconst C dX12_founded_65 (by decide +kernel) (S_iast C dX12_founded_66 (S_aload_n C dX12_founded_67 rfl (S_getR (ci := 12) (j := 0) C inG12 rfl (Nat.le_of_ble_eq_true rfl) rfl (al_at 918 (by decide +kernel) rfl) dX12_founded_68 (S_sipush C dX12_founded_71 (by decide +kernel) (S_dup2 C dX12_founded_74 (S_iald C dX12_founded_75 (S_iconst C dX12_founded_76 (by decide +kernel) (S_iadd C dX12_founded_77 (S_iast C dX12_founded_78 (S_iload_n C dX12_founded_79 rfl (S_iret C hQ hr dX12_founded_80)))))))))))))))))))))))))))))))))))))))))))))))))))))))))
theorem dX12_goesThrough_0 : decode cX12_goesThrough 0 = .ok (.iload_n 2, 1) := by decide +kernel
theorem dX12_goesThrough_1 : decode cX12_goesThrough 1 = .ok (.iload_n 0, 1) := by decide +kernel
theorem dX12_goesThrough_2 : decode cX12_goesThrough 2 = .ok (.isub, 1) := by decide +kernel
theorem dX12_goesThrough_3 : decode cX12_goesThrough 3 = .ok (.invokestatic 132, 3) := by decide +kernel
theorem dX12_goesThrough_6 : decode cX12_goesThrough 6 = .ok (.istore 6, 2) := by decide +kernel
theorem dX12_goesThrough_8 : decode cX12_goesThrough 8 = .ok (.iload_n 3, 1) := by decide +kernel
theorem dX12_goesThrough_9 : decode cX12_goesThrough 9 = .ok (.iload_n 1, 1) := by decide +kernel
theorem dX12_goesThrough_10 : decode cX12_goesThrough 10 = .ok (.isub, 1) := by decide +kernel
theorem dX12_goesThrough_11 : decode cX12_goesThrough 11 = .ok (.invokestatic 132, 3) := by decide +kernel
theorem dX12_goesThrough_14 : decode cX12_goesThrough 14 = .ok (.istore 7, 2) := by decide +kernel
theorem dX12_goesThrough_16 : decode cX12_goesThrough 16 = .ok (.iconst 2, 1) := by decide +kernel
theorem dX12_goesThrough_17 : decode cX12_goesThrough 17 = .ok (.iload 4, 2) := by decide +kernel
theorem dX12_goesThrough_19 : decode cX12_goesThrough 19 = .ok (.imul, 1) := by decide +kernel
theorem dX12_goesThrough_20 : decode cX12_goesThrough 20 = .ok (.iload_n 0, 1) := by decide +kernel
theorem dX12_goesThrough_21 : decode cX12_goesThrough 21 = .ok (.isub, 1) := by decide +kernel
theorem dX12_goesThrough_22 : decode cX12_goesThrough 22 = .ok (.iload_n 2, 1) := by decide +kernel
theorem dX12_goesThrough_23 : decode cX12_goesThrough 23 = .ok (.iload_n 0, 1) := by decide +kernel
theorem dX12_goesThrough_24 : decode cX12_goesThrough 24 = .ok (.if_icmp .le 8, 3) := by decide +kernel
theorem dX12_goesThrough_27 : decode cX12_goesThrough 27 = .ok (.iload 7, 2) := by decide +kernel
theorem dX12_goesThrough_29 : decode cX12_goesThrough 29 = .ok (.goto 6, 3) := by decide +kernel
theorem dX12_goesThrough_32 : decode cX12_goesThrough 32 = .ok (.iload 7, 2) := by decide +kernel
theorem dX12_goesThrough_34 : decode cX12_goesThrough 34 = .ok (.ineg, 1) := by decide +kernel
theorem dX12_goesThrough_35 : decode cX12_goesThrough 35 = .ok (.imul, 1) := by decide +kernel
theorem dX12_goesThrough_36 : decode cX12_goesThrough 36 = .ok (.istore 8, 2) := by decide +kernel
theorem dX12_goesThrough_38 : decode cX12_goesThrough 38 = .ok (.iconst 2, 1) := by decide +kernel
theorem dX12_goesThrough_39 : decode cX12_goesThrough 39 = .ok (.iload 4, 2) := by decide +kernel
theorem dX12_goesThrough_41 : decode cX12_goesThrough 41 = .ok (.imul, 1) := by decide +kernel
theorem dX12_goesThrough_42 : decode cX12_goesThrough 42 = .ok (.iconst 2, 1) := by decide +kernel
theorem dX12_goesThrough_43 : decode cX12_goesThrough 43 = .ok (.iadd, 1) := by decide +kernel
theorem dX12_goesThrough_44 : decode cX12_goesThrough 44 = .ok (.iload_n 0, 1) := by decide +kernel
theorem dX12_goesThrough_45 : decode cX12_goesThrough 45 = .ok (.isub, 1) := by decide +kernel
theorem dX12_goesThrough_46 : decode cX12_goesThrough 46 = .ok (.iload_n 2, 1) := by decide +kernel
theorem dX12_goesThrough_47 : decode cX12_goesThrough 47 = .ok (.iload_n 0, 1) := by decide +kernel
theorem dX12_goesThrough_48 : decode cX12_goesThrough 48 = .ok (.if_icmp .le 8, 3) := by decide +kernel
theorem dX12_goesThrough_51 : decode cX12_goesThrough 51 = .ok (.iload 7, 2) := by decide +kernel
theorem dX12_goesThrough_53 : decode cX12_goesThrough 53 = .ok (.goto 6, 3) := by decide +kernel
theorem dX12_goesThrough_56 : decode cX12_goesThrough 56 = .ok (.iload 7, 2) := by decide +kernel
theorem dX12_goesThrough_58 : decode cX12_goesThrough 58 = .ok (.ineg, 1) := by decide +kernel
theorem dX12_goesThrough_59 : decode cX12_goesThrough 59 = .ok (.imul, 1) := by decide +kernel
theorem dX12_goesThrough_60 : decode cX12_goesThrough 60 = .ok (.istore 9, 2) := by decide +kernel
theorem dX12_goesThrough_62 : decode cX12_goesThrough 62 = .ok (.iconst 2, 1) := by decide +kernel
theorem dX12_goesThrough_63 : decode cX12_goesThrough 63 = .ok (.iload 5, 2) := by decide +kernel
theorem dX12_goesThrough_65 : decode cX12_goesThrough 65 = .ok (.imul, 1) := by decide +kernel
theorem dX12_goesThrough_66 : decode cX12_goesThrough 66 = .ok (.iload_n 1, 1) := by decide +kernel
theorem dX12_goesThrough_67 : decode cX12_goesThrough 67 = .ok (.isub, 1) := by decide +kernel
theorem dX12_goesThrough_68 : decode cX12_goesThrough 68 = .ok (.iload_n 3, 1) := by decide +kernel
theorem dX12_goesThrough_69 : decode cX12_goesThrough 69 = .ok (.iload_n 1, 1) := by decide +kernel
theorem dX12_goesThrough_70 : decode cX12_goesThrough 70 = .ok (.if_icmp .le 8, 3) := by decide +kernel
theorem dX12_goesThrough_73 : decode cX12_goesThrough 73 = .ok (.iload 6, 2) := by decide +kernel
theorem dX12_goesThrough_75 : decode cX12_goesThrough 75 = .ok (.goto 6, 3) := by decide +kernel
theorem dX12_goesThrough_78 : decode cX12_goesThrough 78 = .ok (.iload 6, 2) := by decide +kernel
theorem dX12_goesThrough_80 : decode cX12_goesThrough 80 = .ok (.ineg, 1) := by decide +kernel
theorem dX12_goesThrough_81 : decode cX12_goesThrough 81 = .ok (.imul, 1) := by decide +kernel
theorem dX12_goesThrough_82 : decode cX12_goesThrough 82 = .ok (.istore 10, 2) := by decide +kernel
theorem dX12_goesThrough_84 : decode cX12_goesThrough 84 = .ok (.iconst 2, 1) := by decide +kernel
theorem dX12_goesThrough_85 : decode cX12_goesThrough 85 = .ok (.iload 5, 2) := by decide +kernel
theorem dX12_goesThrough_87 : decode cX12_goesThrough 87 = .ok (.imul, 1) := by decide +kernel
theorem dX12_goesThrough_88 : decode cX12_goesThrough 88 = .ok (.iconst 2, 1) := by decide +kernel
theorem dX12_goesThrough_89 : decode cX12_goesThrough 89 = .ok (.iadd, 1) := by decide +kernel
theorem dX12_goesThrough_90 : decode cX12_goesThrough 90 = .ok (.iload_n 1, 1) := by decide +kernel
theorem dX12_goesThrough_91 : decode cX12_goesThrough 91 = .ok (.isub, 1) := by decide +kernel
theorem dX12_goesThrough_92 : decode cX12_goesThrough 92 = .ok (.iload_n 3, 1) := by decide +kernel
theorem dX12_goesThrough_93 : decode cX12_goesThrough 93 = .ok (.iload_n 1, 1) := by decide +kernel
theorem dX12_goesThrough_94 : decode cX12_goesThrough 94 = .ok (.if_icmp .le 8, 3) := by decide +kernel
theorem dX12_goesThrough_97 : decode cX12_goesThrough 97 = .ok (.iload 6, 2) := by decide +kernel
theorem dX12_goesThrough_99 : decode cX12_goesThrough 99 = .ok (.goto 6, 3) := by decide +kernel
theorem dX12_goesThrough_102 : decode cX12_goesThrough 102 = .ok (.iload 6, 2) := by decide +kernel
theorem dX12_goesThrough_104 : decode cX12_goesThrough 104 = .ok (.ineg, 1) := by decide +kernel
theorem dX12_goesThrough_105 : decode cX12_goesThrough 105 = .ok (.imul, 1) := by decide +kernel
theorem dX12_goesThrough_106 : decode cX12_goesThrough 106 = .ok (.istore 11, 2) := by decide +kernel
theorem dX12_goesThrough_108 : decode cX12_goesThrough 108 = .ok (.iconst 0, 1) := by decide +kernel
theorem dX12_goesThrough_109 : decode cX12_goesThrough 109 = .ok (.iload 8, 2) := by decide +kernel
theorem dX12_goesThrough_111 : decode cX12_goesThrough 111 = .ok (.iload 9, 2) := by decide +kernel
theorem dX12_goesThrough_113 : decode cX12_goesThrough 113 = .ok (.invokestatic 117, 3) := by decide +kernel
theorem dX12_goesThrough_116 : decode cX12_goesThrough 116 = .ok (.iload 10, 2) := by decide +kernel
theorem dX12_goesThrough_118 : decode cX12_goesThrough 118 = .ok (.iload 11, 2) := by decide +kernel
theorem dX12_goesThrough_120 : decode cX12_goesThrough 120 = .ok (.invokestatic 117, 3) := by decide +kernel
theorem dX12_goesThrough_123 : decode cX12_goesThrough 123 = .ok (.invokestatic 122, 3) := by decide +kernel
theorem dX12_goesThrough_126 : decode cX12_goesThrough 126 = .ok (.invokestatic 122, 3) := by decide +kernel
theorem dX12_goesThrough_129 : decode cX12_goesThrough 129 = .ok (.istore 12, 2) := by decide +kernel
theorem dX12_goesThrough_131 : decode cX12_goesThrough 131 = .ok (.iload 6, 2) := by decide +kernel
theorem dX12_goesThrough_133 : decode cX12_goesThrough 133 = .ok (.iload 7, 2) := by decide +kernel
theorem dX12_goesThrough_135 : decode cX12_goesThrough 135 = .ok (.imul, 1) := by decide +kernel
theorem dX12_goesThrough_136 : decode cX12_goesThrough 136 = .ok (.iload 8, 2) := by decide +kernel
theorem dX12_goesThrough_138 : decode cX12_goesThrough 138 = .ok (.iload 9, 2) := by decide +kernel
theorem dX12_goesThrough_140 : decode cX12_goesThrough 140 = .ok (.invokestatic 122, 3) := by decide +kernel
theorem dX12_goesThrough_143 : decode cX12_goesThrough 143 = .ok (.iload 10, 2) := by decide +kernel
theorem dX12_goesThrough_145 : decode cX12_goesThrough 145 = .ok (.iload 11, 2) := by decide +kernel
theorem dX12_goesThrough_147 : decode cX12_goesThrough 147 = .ok (.invokestatic 122, 3) := by decide +kernel
theorem dX12_goesThrough_150 : decode cX12_goesThrough 150 = .ok (.invokestatic 117, 3) := by decide +kernel
theorem dX12_goesThrough_153 : decode cX12_goesThrough 153 = .ok (.invokestatic 117, 3) := by decide +kernel
theorem dX12_goesThrough_156 : decode cX12_goesThrough 156 = .ok (.istore 13, 2) := by decide +kernel
theorem dX12_goesThrough_158 : decode cX12_goesThrough 158 = .ok (.iload 12, 2) := by decide +kernel
theorem dX12_goesThrough_160 : decode cX12_goesThrough 160 = .ok (.iload 13, 2) := by decide +kernel
theorem dX12_goesThrough_162 : decode cX12_goesThrough 162 = .ok (.if_icmp .ge 7, 3) := by decide +kernel
theorem dX12_goesThrough_165 : decode cX12_goesThrough 165 = .ok (.iconst 1, 1) := by decide +kernel
theorem dX12_goesThrough_166 : decode cX12_goesThrough 166 = .ok (.goto 4, 3) := by decide +kernel
theorem dX12_goesThrough_169 : decode cX12_goesThrough 169 = .ok (.iconst 0, 1) := by decide +kernel
theorem dX12_goesThrough_170 : decode cX12_goesThrough 170 = .ok (.ireturn, 1) := by decide +kernel
def k_X12_goesThrough_0 (F : FT) (Q : QT) : KT := o_iload 2 (o_iload 0 (o_isub (o_mabs (o_istore 6 (o_iload 3 (o_iload 1 (o_isub (o_mabs (o_istore 7 (o_ic (nI 2) (o_iload 4 (o_imul (o_iload 0 (o_isub (o_iload 2 (o_iload 0 (o_icle (F 32) (o_iload 7 (F 35)))))))))))))))))))
def k_X12_goesThrough_32 (F : FT) (Q : QT) : KT := o_iload 7 (o_ineg (F 35))
def k_X12_goesThrough_35 (F : FT) (Q : QT) : KT := o_imul (o_istore 8 (o_ic (nI 2) (o_iload 4 (o_imul (o_ic (nI 2) (o_iadd (o_iload 0 (o_isub (o_iload 2 (o_iload 0 (o_icle (F 56) (o_iload 7 (F 59)))))))))))))
def k_X12_goesThrough_56 (F : FT) (Q : QT) : KT := o_iload 7 (o_ineg (F 59))
def k_X12_goesThrough_59 (F : FT) (Q : QT) : KT := o_imul (o_istore 9 (o_ic (nI 2) (o_iload 5 (o_imul (o_iload 1 (o_isub (o_iload 3 (o_iload 1 (o_icle (F 78) (o_iload 6 (F 81)))))))))))
def k_X12_goesThrough_78 (F : FT) (Q : QT) : KT := o_iload 6 (o_ineg (F 81))
def k_X12_goesThrough_81 (F : FT) (Q : QT) : KT := o_imul (o_istore 10 (o_ic (nI 2) (o_iload 5 (o_imul (o_ic (nI 2) (o_iadd (o_iload 1 (o_isub (o_iload 3 (o_iload 1 (o_icle (F 102) (o_iload 6 (F 105)))))))))))))
def k_X12_goesThrough_102 (F : FT) (Q : QT) : KT := o_iload 6 (o_ineg (F 105))
def k_X12_goesThrough_105 (F : FT) (Q : QT) : KT := o_imul (o_istore 11 (o_ic (nI 0) (o_iload 8 (o_iload 9 (o_mmin (o_iload 10 (o_iload 11 (o_mmin (o_mmax (o_mmax (o_istore 12 (o_iload 6 (o_iload 7 (o_imul (o_iload 8 (o_iload 9 (o_mmax (o_iload 10 (o_iload 11 (o_mmax (o_mmin (o_mmin (o_istore 13 (o_iload 12 (o_iload 13 (o_icge (F 169) (o_ic (nI 1) (F 170))))))))))))))))))))))))))))
def k_X12_goesThrough_169 (F : FT) (Q : QT) : KT := o_ic (nI 0) (F 170)
def k_X12_goesThrough_170 (F : FT) (Q : QT) : KT := o_zret Q
set_option maxRecDepth 20000 in
theorem r_X12_goesThrough {a0 : Int32} {a1 : Int32} {a2 : Int32} {a3 : Int32} {a4 : Int32} {a5 : Int32} {n : Nat} {R : RR} {I : II} {J : JJ} {Q : QT} (hn : n + 0 ≤ 90) (h : ∀ F : FT, al_Wk F → al_Ok F (k_X12_goesThrough_0 F Q) 0 → al_Ok F (k_X12_goesThrough_32 F Q) 32 → al_Ok F (k_X12_goesThrough_35 F Q) 35 → al_Ok F (k_X12_goesThrough_56 F Q) 56 → al_Ok F (k_X12_goesThrough_59 F Q) 59 → al_Ok F (k_X12_goesThrough_78 F Q) 78 → al_Ok F (k_X12_goesThrough_81 F Q) 81 → al_Ok F (k_X12_goesThrough_102 F Q) 102 → al_Ok F (k_X12_goesThrough_105 F Q) 105 → al_Ok F (k_X12_goesThrough_169 F Q) 169 → al_Ok F (k_X12_goesThrough_170 F Q) 170 → F 0 [some (.int a0), some (.int a1), some (.int a2), some (.int a3), some (.int a4), some (.int a5), none, none, none, none, none, none, none, none] [] n R I J) : CT m_X12_goesThrough 0 [.int a0, .int a1, .int a2, .int a3, .int a4, .int a5] n R I J Q :=
  CT.of (by decide) hn (fun _ => rfl) (fun _ => Nat.le_of_ble_eq_true rfl) (fun F p l e s m args below meth c Rm t Q0 C hQ hr hm => h F (fun _ _ _ _ _ _ _ _ => S_wk C)
    (S_iload_n C dX12_goesThrough_0 rfl (S_iload_n C dX12_goesThrough_1 rfl (S_isub C dX12_goesThrough_2 (S_mabs C (al_at 1106 (by decide +kernel) rfl) (al_at 414 (by decide +kernel) rfl) (al_at 73 (by decide +kernel) rfl) (al_at 415 (by decide +kernel) rfl) (Nat.le_of_ble_eq_true rfl) (Nat.le_of_ble_eq_true rfl) dX12_goesThrough_3 (S_istore C dX12_goesThrough_6 (Nat.le_of_ble_eq_true rfl) (S_iload_n C dX12_goesThrough_8 rfl (S_iload_n C dX12_goesThrough_9 rfl (S_isub C dX12_goesThrough_10 (S_mabs C (al_at 1106 (by decide +kernel) rfl) (al_at 414 (by decide +kernel) rfl) (al_at 73 (by decide +kernel) rfl) (al_at 415 (by decide +kernel) rfl) (Nat.le_of_ble_eq_true rfl) (Nat.le_of_ble_eq_true rfl) dX12_goesThrough_11 (S_istore C dX12_goesThrough_14 (Nat.le_of_ble_eq_true rfl) (S_iconst C dX12_goesThrough_16 (by decide +kernel) (S_iload C dX12_goesThrough_17 (S_imul C dX12_goesThrough_19 (S_iload_n C dX12_goesThrough_20 rfl (S_isub C dX12_goesThrough_21 (S_iload_n C dX12_goesThrough_22 rfl (S_iload_n C dX12_goesThrough_23 rfl (S_icmple (tgt := 32) C dX12_goesThrough_24 (by decide) (S_iload C dX12_goesThrough_27 (S_goto (tgt := 35) C dX12_goesThrough_29 (by decide)))))))))))))))))))))
    (S_iload C dX12_goesThrough_32 (S_ineg C dX12_goesThrough_34 (fun _ _ _ _ _ _ h9 => h9)))
    (S_imul C dX12_goesThrough_35 (S_istore C dX12_goesThrough_36 (Nat.le_of_ble_eq_true rfl) (S_iconst C dX12_goesThrough_38 (by decide +kernel) (S_iload C dX12_goesThrough_39 (S_imul C dX12_goesThrough_41 (S_iconst C dX12_goesThrough_42 (by decide +kernel) (S_iadd C dX12_goesThrough_43 (S_iload_n C dX12_goesThrough_44 rfl (S_isub C dX12_goesThrough_45 (S_iload_n C dX12_goesThrough_46 rfl (S_iload_n C dX12_goesThrough_47 rfl (S_icmple (tgt := 56) C dX12_goesThrough_48 (by decide) (S_iload C dX12_goesThrough_51 (S_goto (tgt := 59) C dX12_goesThrough_53 (by decide)))))))))))))))
    (S_iload C dX12_goesThrough_56 (S_ineg C dX12_goesThrough_58 (fun _ _ _ _ _ _ h9 => h9)))
    (S_imul C dX12_goesThrough_59 (S_istore C dX12_goesThrough_60 (Nat.le_of_ble_eq_true rfl) (S_iconst C dX12_goesThrough_62 (by decide +kernel) (S_iload C dX12_goesThrough_63 (S_imul C dX12_goesThrough_65 (S_iload_n C dX12_goesThrough_66 rfl (S_isub C dX12_goesThrough_67 (S_iload_n C dX12_goesThrough_68 rfl (S_iload_n C dX12_goesThrough_69 rfl (S_icmple (tgt := 78) C dX12_goesThrough_70 (by decide) (S_iload C dX12_goesThrough_73 (S_goto (tgt := 81) C dX12_goesThrough_75 (by decide)))))))))))))
    (S_iload C dX12_goesThrough_78 (S_ineg C dX12_goesThrough_80 (fun _ _ _ _ _ _ h9 => h9)))
    (S_imul C dX12_goesThrough_81 (S_istore C dX12_goesThrough_82 (Nat.le_of_ble_eq_true rfl) (S_iconst C dX12_goesThrough_84 (by decide +kernel) (S_iload C dX12_goesThrough_85 (S_imul C dX12_goesThrough_87 (S_iconst C dX12_goesThrough_88 (by decide +kernel) (S_iadd C dX12_goesThrough_89 (S_iload_n C dX12_goesThrough_90 rfl (S_isub C dX12_goesThrough_91 (S_iload_n C dX12_goesThrough_92 rfl (S_iload_n C dX12_goesThrough_93 rfl (S_icmple (tgt := 102) C dX12_goesThrough_94 (by decide) (S_iload C dX12_goesThrough_97 (S_goto (tgt := 105) C dX12_goesThrough_99 (by decide)))))))))))))))
    (S_iload C dX12_goesThrough_102 (S_ineg C dX12_goesThrough_104 (fun _ _ _ _ _ _ h9 => h9)))
    (S_imul C dX12_goesThrough_105 (S_istore C dX12_goesThrough_106 (Nat.le_of_ble_eq_true rfl) (S_iconst C dX12_goesThrough_108 (by decide +kernel) (S_iload C dX12_goesThrough_109 (S_iload C dX12_goesThrough_111 (S_mmin C (al_at 1098 (by decide +kernel) rfl) (al_at 658 (by decide +kernel) rfl) (al_at 73 (by decide +kernel) rfl) (al_at 659 (by decide +kernel) rfl) (Nat.le_of_ble_eq_true rfl) (Nat.le_of_ble_eq_true rfl) dX12_goesThrough_113 (S_iload C dX12_goesThrough_116 (S_iload C dX12_goesThrough_118 (S_mmin C (al_at 1098 (by decide +kernel) rfl) (al_at 658 (by decide +kernel) rfl) (al_at 73 (by decide +kernel) rfl) (al_at 659 (by decide +kernel) rfl) (Nat.le_of_ble_eq_true rfl) (Nat.le_of_ble_eq_true rfl) dX12_goesThrough_120 (S_mmax C (al_at 1099 (by decide +kernel) rfl) (al_at 447 (by decide +kernel) rfl) (al_at 73 (by decide +kernel) rfl) (al_at 448 (by decide +kernel) rfl) (Nat.le_of_ble_eq_true rfl) (Nat.le_of_ble_eq_true rfl) dX12_goesThrough_123 (S_mmax C (al_at 1099 (by decide +kernel) rfl) (al_at 447 (by decide +kernel) rfl) (al_at 73 (by decide +kernel) rfl) (al_at 448 (by decide +kernel) rfl) (Nat.le_of_ble_eq_true rfl) (Nat.le_of_ble_eq_true rfl) dX12_goesThrough_126 (S_istore C dX12_goesThrough_129 (Nat.le_of_ble_eq_true rfl) (S_iload C dX12_goesThrough_131 (S_iload C dX12_goesThrough_133 (S_imul C dX12_goesThrough_135 (S_iload C dX12_goesThrough_136 (S_iload C dX12_goesThrough_138 (S_mmax C (al_at 1099 (by decide +kernel) rfl) (al_at 447 (by decide +kernel) rfl) (al_at 73 (by decide +kernel) rfl) (al_at 448 (by decide +kernel) rfl) (Nat.le_of_ble_eq_true rfl) (Nat.le_of_ble_eq_true rfl) dX12_goesThrough_140 (S_iload C dX12_goesThrough_143 (S_iload C dX12_goesThrough_145 (S_mmax C (al_at 1099 (by decide +kernel) rfl) (al_at 447 (by decide +kernel) rfl) (al_at 73 (by decide +kernel) rfl) (al_at 448 (by decide +kernel) rfl) (Nat.le_of_ble_eq_true rfl) (Nat.le_of_ble_eq_true rfl) dX12_goesThrough_147 (S_mmin C (al_at 1098 (by decide +kernel) rfl) (al_at 658 (by decide +kernel) rfl) (al_at 73 (by decide +kernel) rfl) (al_at 659 (by decide +kernel) rfl) (Nat.le_of_ble_eq_true rfl) (Nat.le_of_ble_eq_true rfl) dX12_goesThrough_150 (S_mmin C (al_at 1098 (by decide +kernel) rfl) (al_at 658 (by decide +kernel) rfl) (al_at 73 (by decide +kernel) rfl) (al_at 659 (by decide +kernel) rfl) (Nat.le_of_ble_eq_true rfl) (Nat.le_of_ble_eq_true rfl) dX12_goesThrough_153 (S_istore C dX12_goesThrough_156 (Nat.le_of_ble_eq_true rfl) (S_iload C dX12_goesThrough_158 (S_iload C dX12_goesThrough_160 (S_icmpge (tgt := 169) C dX12_goesThrough_162 (by decide) (S_iconst C dX12_goesThrough_165 (by decide +kernel) (S_goto (tgt := 170) C dX12_goesThrough_166 (by decide))))))))))))))))))))))))))))))
    (S_iconst C dX12_goesThrough_169 (by decide +kernel) (fun _ _ _ _ _ _ h9 => h9))
    (S_zret C hQ hr dX12_goesThrough_170))
theorem dX12_hangsTogether_0 : decode cX12_hangsTogether 0 = .ok (.iload_n 0, 1) := by decide +kernel
theorem dX12_hangsTogether_1 : decode cX12_hangsTogether 1 = .ok (.iload_n 0, 1) := by decide +kernel
theorem dX12_hangsTogether_2 : decode cX12_hangsTogether 2 = .ok (.ineg, 1) := by decide +kernel
theorem dX12_hangsTogether_3 : decode cX12_hangsTogether 3 = .ok (.iand, 1) := by decide +kernel
theorem dX12_hangsTogether_4 : decode cX12_hangsTogether 4 = .ok (.istore_n 1, 1) := by decide +kernel
theorem dX12_hangsTogether_5 : decode cX12_hangsTogether 5 = .ok (.iconst 0, 1) := by decide +kernel
theorem dX12_hangsTogether_6 : decode cX12_hangsTogether 6 = .ok (.istore_n 2, 1) := by decide +kernel
theorem dX12_hangsTogether_7 : decode cX12_hangsTogether 7 = .ok (.iload_n 1, 1) := by decide +kernel
theorem dX12_hangsTogether_8 : decode cX12_hangsTogether 8 = .ok (.iload_n 2, 1) := by decide +kernel
theorem dX12_hangsTogether_9 : decode cX12_hangsTogether 9 = .ok (.if_icmp .eq 42, 3) := by decide +kernel
theorem dX12_hangsTogether_12 : decode cX12_hangsTogether 12 = .ok (.iload_n 1, 1) := by decide +kernel
theorem dX12_hangsTogether_13 : decode cX12_hangsTogether 13 = .ok (.istore_n 2, 1) := by decide +kernel
theorem dX12_hangsTogether_14 : decode cX12_hangsTogether 14 = .ok (.iload_n 1, 1) := by decide +kernel
theorem dX12_hangsTogether_15 : decode cX12_hangsTogether 15 = .ok (.sipush (-274), 3) := by decide +kernel
theorem dX12_hangsTogether_18 : decode cX12_hangsTogether 18 = .ok (.iand, 1) := by decide +kernel
theorem dX12_hangsTogether_19 : decode cX12_hangsTogether 19 = .ok (.istore_n 3, 1) := by decide +kernel
theorem dX12_hangsTogether_20 : decode cX12_hangsTogether 20 = .ok (.iload_n 1, 1) := by decide +kernel
theorem dX12_hangsTogether_21 : decode cX12_hangsTogether 21 = .ok (.sipush (-2185), 3) := by decide +kernel
theorem dX12_hangsTogether_24 : decode cX12_hangsTogether 24 = .ok (.iand, 1) := by decide +kernel
theorem dX12_hangsTogether_25 : decode cX12_hangsTogether 25 = .ok (.istore 4, 2) := by decide +kernel
theorem dX12_hangsTogether_27 : decode cX12_hangsTogether 27 = .ok (.iload_n 1, 1) := by decide +kernel
theorem dX12_hangsTogether_28 : decode cX12_hangsTogether 28 = .ok (.iload_n 3, 1) := by decide +kernel
theorem dX12_hangsTogether_29 : decode cX12_hangsTogether 29 = .ok (.iconst 1, 1) := by decide +kernel
theorem dX12_hangsTogether_30 : decode cX12_hangsTogether 30 = .ok (.ishr, 1) := by decide +kernel
theorem dX12_hangsTogether_31 : decode cX12_hangsTogether 31 = .ok (.iload 4, 2) := by decide +kernel
theorem dX12_hangsTogether_33 : decode cX12_hangsTogether 33 = .ok (.iconst 1, 1) := by decide +kernel
theorem dX12_hangsTogether_34 : decode cX12_hangsTogether 34 = .ok (.ishl, 1) := by decide +kernel
theorem dX12_hangsTogether_35 : decode cX12_hangsTogether 35 = .ok (.ior, 1) := by decide +kernel
theorem dX12_hangsTogether_36 : decode cX12_hangsTogether 36 = .ok (.iload_n 1, 1) := by decide +kernel
theorem dX12_hangsTogether_37 : decode cX12_hangsTogether 37 = .ok (.iconst 4, 1) := by decide +kernel
theorem dX12_hangsTogether_38 : decode cX12_hangsTogether 38 = .ok (.ishr, 1) := by decide +kernel
theorem dX12_hangsTogether_39 : decode cX12_hangsTogether 39 = .ok (.ior, 1) := by decide +kernel
theorem dX12_hangsTogether_40 : decode cX12_hangsTogether 40 = .ok (.iload_n 1, 1) := by decide +kernel
theorem dX12_hangsTogether_41 : decode cX12_hangsTogether 41 = .ok (.iconst 4, 1) := by decide +kernel
theorem dX12_hangsTogether_42 : decode cX12_hangsTogether 42 = .ok (.ishl, 1) := by decide +kernel
theorem dX12_hangsTogether_43 : decode cX12_hangsTogether 43 = .ok (.ior, 1) := by decide +kernel
theorem dX12_hangsTogether_44 : decode cX12_hangsTogether 44 = .ok (.iload_n 0, 1) := by decide +kernel
theorem dX12_hangsTogether_45 : decode cX12_hangsTogether 45 = .ok (.iand, 1) := by decide +kernel
theorem dX12_hangsTogether_46 : decode cX12_hangsTogether 46 = .ok (.ior, 1) := by decide +kernel
theorem dX12_hangsTogether_47 : decode cX12_hangsTogether 47 = .ok (.istore_n 1, 1) := by decide +kernel
theorem dX12_hangsTogether_48 : decode cX12_hangsTogether 48 = .ok (.goto (-41), 3) := by decide +kernel
theorem dX12_hangsTogether_51 : decode cX12_hangsTogether 51 = .ok (.iload_n 1, 1) := by decide +kernel
theorem dX12_hangsTogether_52 : decode cX12_hangsTogether 52 = .ok (.iload_n 0, 1) := by decide +kernel
theorem dX12_hangsTogether_53 : decode cX12_hangsTogether 53 = .ok (.if_icmp .ne 7, 3) := by decide +kernel
theorem dX12_hangsTogether_56 : decode cX12_hangsTogether 56 = .ok (.iconst 1, 1) := by decide +kernel
theorem dX12_hangsTogether_57 : decode cX12_hangsTogether 57 = .ok (.goto 4, 3) := by decide +kernel
theorem dX12_hangsTogether_60 : decode cX12_hangsTogether 60 = .ok (.iconst 0, 1) := by decide +kernel
theorem dX12_hangsTogether_61 : decode cX12_hangsTogether 61 = .ok (.ireturn, 1) := by decide +kernel
def k_X12_hangsTogether_0 (F : FT) (Q : QT) : KT := o_iload 0 (o_iload 0 (o_ineg (o_iand (o_istore 1 (o_ic (nI 0) (o_istore 2 (F 7)))))))
def k_X12_hangsTogether_7 (F : FT) (Q : QT) : KT := o_iload 1 (o_iload 2 (o_iceq (F 51) (o_iload 1 (o_istore 2 (o_iload 1 (o_ic (-274) (o_iand (o_istore 3 (o_iload 1 (o_ic (-2185) (o_iand (o_istore 4 (o_iload 1 (o_iload 3 (o_ic (nI 1) (o_ishr (o_iload 4 (o_ic (nI 1) (o_ishl (o_ior (o_iload 1 (o_ic (nI 4) (o_ishr (o_ior (o_iload 1 (o_ic (nI 4) (o_ishl (o_ior (o_iload 0 (o_iand (o_ior (o_istore 1 (F 7)))))))))))))))))))))))))))))))))
def k_X12_hangsTogether_51 (F : FT) (Q : QT) : KT := o_iload 1 (o_iload 0 (o_icne (F 60) (o_ic (nI 1) (F 61))))
def k_X12_hangsTogether_60 (F : FT) (Q : QT) : KT := o_ic (nI 0) (F 61)
def k_X12_hangsTogether_61 (F : FT) (Q : QT) : KT := o_zret Q
set_option maxRecDepth 20000 in
theorem r_X12_hangsTogether {a0 : Int32} {n : Nat} {R : RR} {I : II} {J : JJ} {Q : QT} (hn : n + 0 ≤ 90) (h : ∀ F : FT, al_Wk F → al_Ok F (k_X12_hangsTogether_0 F Q) 0 → al_Ok F (k_X12_hangsTogether_7 F Q) 7 → al_Ok F (k_X12_hangsTogether_51 F Q) 51 → al_Ok F (k_X12_hangsTogether_60 F Q) 60 → al_Ok F (k_X12_hangsTogether_61 F Q) 61 → F 0 [some (.int a0), none, none, none, none] [] n R I J) : CT m_X12_hangsTogether 0 [.int a0] n R I J Q :=
  CT.of (by decide) hn (fun _ => rfl) (fun _ => Nat.le_of_ble_eq_true rfl) (fun F p l e s m args below meth c Rm t Q0 C hQ hr hm => h F (fun _ _ _ _ _ _ _ _ => S_wk C)
    (S_iload_n C dX12_hangsTogether_0 rfl (S_iload_n C dX12_hangsTogether_1 rfl (S_ineg C dX12_hangsTogether_2 (S_iand C dX12_hangsTogether_3 (S_istore_n C dX12_hangsTogether_4 rfl (Nat.le_of_ble_eq_true rfl) (S_iconst C dX12_hangsTogether_5 (by decide +kernel) (S_istore_n C dX12_hangsTogether_6 rfl (Nat.le_of_ble_eq_true rfl) (fun _ _ _ _ _ _ h9 => h9))))))))
    (S_iload_n C dX12_hangsTogether_7 rfl (S_iload_n C dX12_hangsTogether_8 rfl (S_icmpeq (tgt := 51) C dX12_hangsTogether_9 (by decide) (S_iload_n C dX12_hangsTogether_12 rfl (S_istore_n C dX12_hangsTogether_13 rfl (Nat.le_of_ble_eq_true rfl) (S_iload_n C dX12_hangsTogether_14 rfl (S_sipush C dX12_hangsTogether_15 (by decide +kernel) (S_iand C dX12_hangsTogether_18 (S_istore_n C dX12_hangsTogether_19 rfl (Nat.le_of_ble_eq_true rfl) (S_iload_n C dX12_hangsTogether_20 rfl (S_sipush C dX12_hangsTogether_21 (by decide +kernel) (S_iand C dX12_hangsTogether_24 (S_istore C dX12_hangsTogether_25 (Nat.le_of_ble_eq_true rfl) (S_iload_n C dX12_hangsTogether_27 rfl (S_iload_n C dX12_hangsTogether_28 rfl (S_iconst C dX12_hangsTogether_29 (by decide +kernel) (S_ishr C dX12_hangsTogether_30 (S_iload C dX12_hangsTogether_31 (S_iconst C dX12_hangsTogether_33 (by decide +kernel) (S_ishl C dX12_hangsTogether_34 (S_ior C dX12_hangsTogether_35 (S_iload_n C dX12_hangsTogether_36 rfl (S_iconst C dX12_hangsTogether_37 (by decide +kernel) (S_ishr C dX12_hangsTogether_38 (S_ior C dX12_hangsTogether_39 (S_iload_n C dX12_hangsTogether_40 rfl (S_iconst C dX12_hangsTogether_41 (by decide +kernel) (S_ishl C dX12_hangsTogether_42 (S_ior C dX12_hangsTogether_43 (S_iload_n C dX12_hangsTogether_44 rfl (S_iand C dX12_hangsTogether_45 (S_ior C dX12_hangsTogether_46 (S_istore_n C dX12_hangsTogether_47 rfl (Nat.le_of_ble_eq_true rfl) (S_goto (tgt := 7) C dX12_hangsTogether_48 (by decide)))))))))))))))))))))))))))))))))))
    (S_iload_n C dX12_hangsTogether_51 rfl (S_iload_n C dX12_hangsTogether_52 rfl (S_icmpne (tgt := 60) C dX12_hangsTogether_53 (by decide) (S_iconst C dX12_hangsTogether_56 (by decide +kernel) (S_goto (tgt := 61) C dX12_hangsTogether_57 (by decide))))))
    (S_iconst C dX12_hangsTogether_60 (by decide +kernel) (fun _ _ _ _ _ _ h9 => h9))
    (S_zret C hQ hr dX12_hangsTogether_61))
theorem dX12_has_0 : decode cX12_has 0 = .ok (.iload_n 0, 1) := by decide +kernel
theorem dX12_has_1 : decode cX12_has 1 = .ok (.iload_n 1, 1) := by decide +kernel
theorem dX12_has_2 : decode cX12_has 2 = .ok (.ishr, 1) := by decide +kernel
theorem dX12_has_3 : decode cX12_has 3 = .ok (.iconst 1, 1) := by decide +kernel
theorem dX12_has_4 : decode cX12_has 4 = .ok (.iand, 1) := by decide +kernel
theorem dX12_has_5 : decode cX12_has 5 = .ok (.iconst 1, 1) := by decide +kernel
theorem dX12_has_6 : decode cX12_has 6 = .ok (.if_icmp .ne 7, 3) := by decide +kernel
theorem dX12_has_9 : decode cX12_has 9 = .ok (.iconst 1, 1) := by decide +kernel
theorem dX12_has_10 : decode cX12_has 10 = .ok (.goto 4, 3) := by decide +kernel
theorem dX12_has_13 : decode cX12_has 13 = .ok (.iconst 0, 1) := by decide +kernel
theorem dX12_has_14 : decode cX12_has 14 = .ok (.ireturn, 1) := by decide +kernel
def k_X12_has_0 (F : FT) (Q : QT) : KT := o_iload 0 (o_iload 1 (o_ishr (o_ic (nI 1) (o_iand (o_ic (nI 1) (o_icne (F 13) (o_ic (nI 1) (F 14))))))))
def k_X12_has_13 (F : FT) (Q : QT) : KT := o_ic (nI 0) (F 14)
def k_X12_has_14 (F : FT) (Q : QT) : KT := o_zret Q
set_option maxRecDepth 20000 in
theorem r_X12_has {a0 : Int32} {a1 : Int32} {n : Nat} {R : RR} {I : II} {J : JJ} {Q : QT} (hn : n + 0 ≤ 90) (h : ∀ F : FT, al_Wk F → al_Ok F (k_X12_has_0 F Q) 0 → al_Ok F (k_X12_has_13 F Q) 13 → al_Ok F (k_X12_has_14 F Q) 14 → F 0 [some (.int a0), some (.int a1)] [] n R I J) : CT m_X12_has 0 [.int a0, .int a1] n R I J Q :=
  CT.of (by decide) hn (fun _ => rfl) (fun _ => Nat.le_of_ble_eq_true rfl) (fun F p l e s m args below meth c Rm t Q0 C hQ hr hm => h F (fun _ _ _ _ _ _ _ _ => S_wk C)
    (S_iload_n C dX12_has_0 rfl (S_iload_n C dX12_has_1 rfl (S_ishr C dX12_has_2 (S_iconst C dX12_has_3 (by decide +kernel) (S_iand C dX12_has_4 (S_iconst C dX12_has_5 (by decide +kernel) (S_icmpne (tgt := 13) C dX12_has_6 (by decide) (S_iconst C dX12_has_9 (by decide +kernel) (S_goto (tgt := 14) C dX12_has_10 (by decide))))))))))
    (S_iconst C dX12_has_13 (by decide +kernel) (fun _ _ _ _ _ _ h9 => h9))
    (S_zret C hQ hr dX12_has_14))
theorem dX12_hinders_0 : decode cX12_hinders 0 = .ok (.iload_n 0, 1) := by decide +kernel
theorem dX12_hinders_1 : decode cX12_hinders 1 = .ok (.iconst 1, 1) := by decide +kernel
theorem dX12_hinders_2 : decode cX12_hinders 2 = .ok (.if_icmp .le 7, 3) := by decide +kernel
theorem dX12_hinders_5 : decode cX12_hinders 5 = .ok (.iconst 1, 1) := by decide +kernel
theorem dX12_hinders_6 : decode cX12_hinders 6 = .ok (.goto 4, 3) := by decide +kernel
theorem dX12_hinders_9 : decode cX12_hinders 9 = .ok (.iconst 0, 1) := by decide +kernel
theorem dX12_hinders_10 : decode cX12_hinders 10 = .ok (.ireturn, 1) := by decide +kernel
def k_X12_hinders_0 (F : FT) (Q : QT) : KT := o_iload 0 (o_ic (nI 1) (o_icle (F 9) (o_ic (nI 1) (F 10))))
def k_X12_hinders_9 (F : FT) (Q : QT) : KT := o_ic (nI 0) (F 10)
def k_X12_hinders_10 (F : FT) (Q : QT) : KT := o_zret Q
set_option maxRecDepth 20000 in
theorem r_X12_hinders {a0 : Int32} {n : Nat} {R : RR} {I : II} {J : JJ} {Q : QT} (hn : n + 0 ≤ 90) (h : ∀ F : FT, al_Wk F → al_Ok F (k_X12_hinders_0 F Q) 0 → al_Ok F (k_X12_hinders_9 F Q) 9 → al_Ok F (k_X12_hinders_10 F Q) 10 → F 0 [some (.int a0)] [] n R I J) : CT m_X12_hinders 0 [.int a0] n R I J Q :=
  CT.of (by decide) hn (fun _ => rfl) (fun _ => Nat.le_of_ble_eq_true rfl) (fun F p l e s m args below meth c Rm t Q0 C hQ hr hm => h F (fun _ _ _ _ _ _ _ _ => S_wk C)
    (S_iload_n C dX12_hinders_0 rfl (S_iconst C dX12_hinders_1 (by decide +kernel) (S_icmple (tgt := 9) C dX12_hinders_2 (by decide) (S_iconst C dX12_hinders_5 (by decide +kernel) (S_goto (tgt := 10) C dX12_hinders_6 (by decide))))))
    (S_iconst C dX12_hinders_9 (by decide +kernel) (fun _ _ _ _ _ _ h9 => h9))
    (S_zret C hQ hr dX12_hinders_10))
theorem dX12_house_0 : decode cX12_house 0 = .ok (.iload_n 1, 1) := by decide +kernel
theorem dX12_house_1 : decode cX12_house 1 = .ok (.iconst 0, 1) := by decide +kernel
theorem dX12_house_2 : decode cX12_house 2 = .ok (.iconst 5, 1) := by decide +kernel
theorem dX12_house_3 : decode cX12_house 3 = .ok (.invokestatic 81, 3) := by decide +kernel
theorem dX12_house_6 : decode cX12_house 6 = .ok (.ifCond .eq 13, 3) := by decide +kernel
theorem dX12_house_9 : decode cX12_house 9 = .ok (.iload_n 2, 1) := by decide +kernel
theorem dX12_house_10 : decode cX12_house 10 = .ok (.iconst 1, 1) := by decide +kernel
theorem dX12_house_11 : decode cX12_house 11 = .ok (.bipush 99, 2) := by decide +kernel
theorem dX12_house_13 : decode cX12_house 13 = .ok (.invokestatic 81, 3) := by decide +kernel
theorem dX12_house_16 : decode cX12_house 16 = .ok (.ifCond .ne 10, 3) := by decide +kernel
theorem dX12_house_19 : decode cX12_house 19 = .ok (.aload_n 0, 1) := by decide +kernel
theorem dX12_house_20 : decode cX12_house 20 = .ok (.ldc 80, 2) := by decide +kernel
theorem dX12_house_22 : decode cX12_house 22 = .ok (.invokevirtual 103, 3) := by decide +kernel
theorem dX12_house_25 : decode cX12_house 25 = .ok (.ireturn, 1) := by decide +kernel
theorem dX12_house_26 : decode cX12_house 26 = .ok (.aload_n 0, 1) := by decide +kernel
theorem dX12_house_27 : decode cX12_house 27 = .ok (.getfield 9, 3) := by decide +kernel
theorem dX12_house_30 : decode cX12_house 30 = .ok (.sipush 142, 3) := by decide +kernel
theorem dX12_house_33 : decode cX12_house 33 = .ok (.iaload, 1) := by decide +kernel
theorem dX12_house_34 : decode cX12_house 34 = .ok (.bipush 6, 2) := by decide +kernel
theorem dX12_house_36 : decode cX12_house 36 = .ok (.if_icmp .ne 12, 3) := by decide +kernel
theorem dX12_house_39 : decode cX12_house 39 = .ok (.aload_n 0, 1) := by decide +kernel
theorem dX12_house_40 : decode cX12_house 40 = .ok (.ldc 138, 2) := by decide +kernel
theorem dX12_house_42 : decode cX12_house 42 = .ok (.invokevirtual 103, 3) := by decide +kernel
theorem dX12_house_45 : decode cX12_house 45 = .ok (.goto 9, 3) := by decide +kernel
theorem dX12_house_48 : decode cX12_house 48 = .ok (.aload_n 0, 1) := by decide +kernel
theorem dX12_house_49 : decode cX12_house 49 = .ok (.iload_n 1, 1) := by decide +kernel
theorem dX12_house_50 : decode cX12_house 50 = .ok (.iload_n 2, 1) := by decide +kernel
theorem dX12_house_51 : decode cX12_house 51 = .ok (.invokevirtual 139, 3) := by decide +kernel
theorem dX12_house_54 : decode cX12_house 54 = .ok (.ireturn, 1) := by decide +kernel
def k_X12_house_0 (F : FT) (Q : QT) : KT := o_iload 1 (o_ic (nI 0) (o_ic (nI 5) (o_cS m_X12_within 3 (o_ifeq (F 19) (o_iload 2 (o_ic (nI 1) (o_ic (nI 99) (o_cS m_X12_within 3 (o_ifne (F 26) (F 19))))))))))
def k_X12_house_19 (F : FT) (Q : QT) : KT := o_aload 0 (o_ic (-1000000001) (o_cV 12 m_X12_finding 2 (o_iret Q)))
def k_X12_house_26 (F : FT) (Q : QT) : KT := o_aload 0 (o_getR 12 0 (o_ic (nI 142) (o_iald (o_ic (nI 6) (o_icne (F 48) (o_aload 0 (o_ic (-1000000002) (o_cV 12 m_X12_finding 2 (F 54)))))))))
def k_X12_house_48 (F : FT) (Q : QT) : KT := o_aload 0 (o_iload 1 (o_iload 2 (o_cV 12 m_X12_founded 3 (F 54))))
def k_X12_house_54 (F : FT) (Q : QT) : KT := o_iret Q
set_option maxRecDepth 20000 in
theorem r_X12_house {a0 : Nat} {a1 : Int32} {a2 : Int32} {n : Nat} {R : RR} {I : II} {J : JJ} {Q : QT} (hn : n + 0 ≤ 90) (h : ∀ F : FT, al_Wk F → al_Ok F (k_X12_house_0 F Q) 0 → al_Ok F (k_X12_house_19 F Q) 19 → al_Ok F (k_X12_house_26 F Q) 26 → al_Ok F (k_X12_house_48 F Q) 48 → al_Ok F (k_X12_house_54 F Q) 54 → F 0 [some (.ref a0), some (.int a1), some (.int a2)] [] n R I J) : CT m_X12_house 0 [.ref a0, .int a1, .int a2] n R I J Q :=
  CT.of (by decide) hn (fun _ => rfl) (fun _ => Nat.le_of_ble_eq_true rfl) (fun F p l e s m args below meth c Rm t Q0 C hQ hr hm => h F (fun _ _ _ _ _ _ _ _ => S_wk C)
    (S_iload_n C dX12_house_0 rfl (S_iconst C dX12_house_1 (by decide +kernel) (S_iconst C dX12_house_2 (by decide +kernel) (S_cS C ok_X12_within (al_at 1005 (by decide +kernel) rfl) (Nat.le_of_ble_eq_true rfl) (Nat.le_of_ble_eq_true rfl) dX12_house_3 (S_ifeq (tgt := 19) C dX12_house_6 (by decide) (S_iload_n C dX12_house_9 rfl (S_iconst C dX12_house_10 (by decide +kernel) (S_bipush C dX12_house_11 (by decide +kernel) (S_cS C ok_X12_within (al_at 1005 (by decide +kernel) rfl) (Nat.le_of_ble_eq_true rfl) (Nat.le_of_ble_eq_true rfl) dX12_house_13 (S_ifne (tgt := 26) C dX12_house_16 (by decide) (fun _ _ _ _ _ _ h9 => h9)))))))))))
    (S_aload_n C dX12_house_19 rfl (S_ldc C dX12_house_20 (al_at 1020 (by decide +kernel) rfl) (S_cV (ci := 12) C ok_X12_finding rfl (al_at 1021 (by decide +kernel) rfl) (Nat.le_of_ble_eq_true rfl) (Nat.le_of_ble_eq_true rfl) dX12_house_22 (S_iret C hQ hr dX12_house_25))))
    (S_aload_n C dX12_house_26 rfl (S_getR (ci := 12) (j := 0) C inG12 rfl (Nat.le_of_ble_eq_true rfl) rfl (al_at 918 (by decide +kernel) rfl) dX12_house_27 (S_sipush C dX12_house_30 (by decide +kernel) (S_iald C dX12_house_33 (S_bipush C dX12_house_34 (by decide +kernel) (S_icmpne (tgt := 48) C dX12_house_36 (by decide) (S_aload_n C dX12_house_39 rfl (S_ldc C dX12_house_40 (al_at 1033 (by decide +kernel) rfl) (S_cV (ci := 12) C ok_X12_finding rfl (al_at 1021 (by decide +kernel) rfl) (Nat.le_of_ble_eq_true rfl) (Nat.le_of_ble_eq_true rfl) dX12_house_42 (S_goto (tgt := 54) C dX12_house_45 (by decide)))))))))))
    (S_aload_n C dX12_house_48 rfl (S_iload_n C dX12_house_49 rfl (S_iload_n C dX12_house_50 rfl (S_cV (ci := 12) C ok_X12_founded rfl (al_at 1034 (by decide +kernel) rfl) (Nat.le_of_ble_eq_true rfl) (Nat.le_of_ble_eq_true rfl) dX12_house_51 (fun _ _ _ _ _ _ h9 => h9)))))
    (S_iret C hQ hr dX12_house_54))
theorem dX12_houseIs_0 : decode cX12_houseIs 0 = .ok (.aload_n 0, 1) := by decide +kernel
theorem dX12_houseIs_1 : decode cX12_houseIs 1 = .ok (.getfield 9, 3) := by decide +kernel
theorem dX12_houseIs_4 : decode cX12_houseIs 4 = .ok (.bipush 64, 2) := by decide +kernel
theorem dX12_houseIs_6 : decode cX12_houseIs 6 = .ok (.iconst 5, 1) := by decide +kernel
theorem dX12_houseIs_7 : decode cX12_houseIs 7 = .ok (.iload_n 1, 1) := by decide +kernel
theorem dX12_houseIs_8 : decode cX12_houseIs 8 = .ok (.imul, 1) := by decide +kernel
theorem dX12_houseIs_9 : decode cX12_houseIs 9 = .ok (.iadd, 1) := by decide +kernel
theorem dX12_houseIs_10 : decode cX12_houseIs 10 = .ok (.iload_n 2, 1) := by decide +kernel
theorem dX12_houseIs_11 : decode cX12_houseIs 11 = .ok (.iadd, 1) := by decide +kernel
theorem dX12_houseIs_12 : decode cX12_houseIs 12 = .ok (.iaload, 1) := by decide +kernel
theorem dX12_houseIs_13 : decode cX12_houseIs 13 = .ok (.ireturn, 1) := by decide +kernel
def k_X12_houseIs_0 (F : FT) (Q : QT) : KT := o_aload 0 (o_getR 12 0 (o_ic (nI 64) (o_ic (nI 5) (o_iload 1 (o_imul (o_iadd (o_iload 2 (o_iadd (o_iald (o_iret Q))))))))))
set_option maxRecDepth 20000 in
theorem r_X12_houseIs {a0 : Nat} {a1 : Int32} {a2 : Int32} {n : Nat} {R : RR} {I : II} {J : JJ} {Q : QT} (hn : n + 0 ≤ 90) (h : ∀ F : FT, al_Wk F → al_Ok F (k_X12_houseIs_0 F Q) 0 → F 0 [some (.ref a0), some (.int a1), some (.int a2)] [] n R I J) : CT m_X12_houseIs 0 [.ref a0, .int a1, .int a2] n R I J Q :=
  CT.of (by decide) hn (fun _ => rfl) (fun _ => Nat.le_of_ble_eq_true rfl) (fun F p l e s m args below meth c Rm t Q0 C hQ hr hm => h F (fun _ _ _ _ _ _ _ _ => S_wk C)
    (S_aload_n C dX12_houseIs_0 rfl (S_getR (ci := 12) (j := 0) C inG12 rfl (Nat.le_of_ble_eq_true rfl) rfl (al_at 918 (by decide +kernel) rfl) dX12_houseIs_1 (S_bipush C dX12_houseIs_4 (by decide +kernel) (S_iconst C dX12_houseIs_6 (by decide +kernel) (S_iload_n C dX12_houseIs_7 rfl (S_imul C dX12_houseIs_8 (S_iadd C dX12_houseIs_9 (S_iload_n C dX12_houseIs_10 rfl (S_iadd C dX12_houseIs_11 (S_iald C dX12_houseIs_12 (S_iret C hQ hr dX12_houseIs_13))))))))))))
theorem dX12_image_0 : decode cX12_image 0 = .ok (.aload_n 0, 1) := by decide +kernel
theorem dX12_image_1 : decode cX12_image 1 = .ok (.getfield 9, 3) := by decide +kernel
theorem dX12_image_4 : decode cX12_image 4 = .ok (.aload_n 0, 1) := by decide +kernel
theorem dX12_image_5 : decode cX12_image 5 = .ok (.getfield 13, 3) := by decide +kernel
theorem dX12_image_8 : decode cX12_image 8 = .ok (.invokestatic 309, 3) := by decide +kernel
theorem dX12_image_11 : decode cX12_image 11 = .ok (.aload_n 0, 1) := by decide +kernel
theorem dX12_image_12 : decode cX12_image 12 = .ok (.iconst 1, 1) := by decide +kernel
theorem dX12_image_13 : decode cX12_image 13 = .ok (.putfield 313, 3) := by decide +kernel
theorem dX12_image_16 : decode cX12_image 16 = .ok (.iconst 1, 1) := by decide +kernel
theorem dX12_image_17 : decode cX12_image 17 = .ok (.ireturn, 1) := by decide +kernel
def k_X12_image_0 (F : FT) (Q : QT) : KT := o_aload 0 (o_getR 12 0 (o_aload 0 (o_getR 12 1 (o_cS m_X12_copyRow 2 (o_aload 0 (o_ic (nI 1) (o_putZ 12 2 (o_ic (nI 1) (o_iret Q)))))))))
set_option maxRecDepth 20000 in
theorem r_X12_image {a0 : Nat} {n : Nat} {R : RR} {I : II} {J : JJ} {Q : QT} (hn : n + 0 ≤ 90) (h : ∀ F : FT, al_Wk F → al_Ok F (k_X12_image_0 F Q) 0 → F 0 [some (.ref a0)] [] n R I J) : CT m_X12_image 0 [.ref a0] n R I J Q :=
  CT.of (by decide) hn (fun _ => rfl) (fun _ => Nat.le_of_ble_eq_true rfl) (fun F p l e s m args below meth c Rm t Q0 C hQ hr hm => h F (fun _ _ _ _ _ _ _ _ => S_wk C)
    (S_aload_n C dX12_image_0 rfl (S_getR (ci := 12) (j := 0) C inG12 rfl (Nat.le_of_ble_eq_true rfl) rfl (al_at 918 (by decide +kernel) rfl) dX12_image_1 (S_aload_n C dX12_image_4 rfl (S_getR (ci := 12) (j := 1) C inG12 rfl (Nat.le_of_ble_eq_true rfl) rfl (al_at 919 (by decide +kernel) rfl) dX12_image_5 (S_cS C ok_X12_copyRow (al_at 1321 (by decide +kernel) rfl) (Nat.le_of_ble_eq_true rfl) (Nat.le_of_ble_eq_true rfl) dX12_image_8 (S_aload_n C dX12_image_11 rfl (S_iconst C dX12_image_12 (by decide +kernel) (S_putZ (ci := 12) (j := 2) C inG12 rfl (Nat.le_of_ble_eq_true rfl) tyX12 tyX12_ok nmX12 rfl rfl (tyX12_ok 2 (Nat.le_of_ble_eq_true rfl)) (al_at 920 (by decide +kernel) rfl) dX12_image_13 (S_iconst C dX12_image_16 (by decide +kernel) (S_iret C hQ hr dX12_image_17)))))))))))
theorem dX12_isClear_0 : decode cX12_isClear 0 = .ok (.iload_n 1, 1) := by decide +kernel
theorem dX12_isClear_1 : decode cX12_isClear 1 = .ok (.bipush 8, 2) := by decide +kernel
theorem dX12_isClear_3 : decode cX12_isClear 3 = .ok (.idiv, 1) := by decide +kernel
theorem dX12_isClear_4 : decode cX12_isClear 4 = .ok (.istore_n 3, 1) := by decide +kernel
theorem dX12_isClear_5 : decode cX12_isClear 5 = .ok (.iload_n 1, 1) := by decide +kernel
theorem dX12_isClear_6 : decode cX12_isClear 6 = .ok (.bipush 8, 2) := by decide +kernel
theorem dX12_isClear_8 : decode cX12_isClear 8 = .ok (.irem, 1) := by decide +kernel
theorem dX12_isClear_9 : decode cX12_isClear 9 = .ok (.istore 4, 2) := by decide +kernel
theorem dX12_isClear_11 : decode cX12_isClear 11 = .ok (.iload_n 2, 1) := by decide +kernel
theorem dX12_isClear_12 : decode cX12_isClear 12 = .ok (.bipush 9, 2) := by decide +kernel
theorem dX12_isClear_14 : decode cX12_isClear 14 = .ok (.idiv, 1) := by decide +kernel
theorem dX12_isClear_15 : decode cX12_isClear 15 = .ok (.istore 5, 2) := by decide +kernel
theorem dX12_isClear_17 : decode cX12_isClear 17 = .ok (.iload_n 2, 1) := by decide +kernel
theorem dX12_isClear_18 : decode cX12_isClear 18 = .ok (.bipush 9, 2) := by decide +kernel
theorem dX12_isClear_20 : decode cX12_isClear 20 = .ok (.irem, 1) := by decide +kernel
theorem dX12_isClear_21 : decode cX12_isClear 21 = .ok (.istore 6, 2) := by decide +kernel
theorem dX12_isClear_23 : decode cX12_isClear 23 = .ok (.iload_n 3, 1) := by decide +kernel
theorem dX12_isClear_24 : decode cX12_isClear 24 = .ok (.iload 5, 2) := by decide +kernel
theorem dX12_isClear_26 : decode cX12_isClear 26 = .ok (.iconst 1, 1) := by decide +kernel
theorem dX12_isClear_27 : decode cX12_isClear 27 = .ok (.isub, 1) := by decide +kernel
theorem dX12_isClear_28 : decode cX12_isClear 28 = .ok (.invokestatic 117, 3) := by decide +kernel
theorem dX12_isClear_31 : decode cX12_isClear 31 = .ok (.istore 7, 2) := by decide +kernel
theorem dX12_isClear_33 : decode cX12_isClear 33 = .ok (.iload 7, 2) := by decide +kernel
theorem dX12_isClear_35 : decode cX12_isClear 35 = .ok (.iload_n 3, 1) := by decide +kernel
theorem dX12_isClear_36 : decode cX12_isClear 36 = .ok (.iload 5, 2) := by decide +kernel
theorem dX12_isClear_38 : decode cX12_isClear 38 = .ok (.invokestatic 122, 3) := by decide +kernel
theorem dX12_isClear_41 : decode cX12_isClear 41 = .ok (.if_icmp .gt 83, 3) := by decide +kernel
theorem dX12_isClear_44 : decode cX12_isClear 44 = .ok (.iload 4, 2) := by decide +kernel
theorem dX12_isClear_46 : decode cX12_isClear 46 = .ok (.iload 6, 2) := by decide +kernel
theorem dX12_isClear_48 : decode cX12_isClear 48 = .ok (.iconst 1, 1) := by decide +kernel
theorem dX12_isClear_49 : decode cX12_isClear 49 = .ok (.isub, 1) := by decide +kernel
theorem dX12_isClear_50 : decode cX12_isClear 50 = .ok (.invokestatic 117, 3) := by decide +kernel
theorem dX12_isClear_53 : decode cX12_isClear 53 = .ok (.istore 8, 2) := by decide +kernel
theorem dX12_isClear_55 : decode cX12_isClear 55 = .ok (.iload 8, 2) := by decide +kernel
theorem dX12_isClear_57 : decode cX12_isClear 57 = .ok (.iload 4, 2) := by decide +kernel
theorem dX12_isClear_59 : decode cX12_isClear 59 = .ok (.iload 6, 2) := by decide +kernel
theorem dX12_isClear_61 : decode cX12_isClear 61 = .ok (.invokestatic 122, 3) := by decide +kernel
theorem dX12_isClear_64 : decode cX12_isClear 64 = .ok (.if_icmp .gt 54, 3) := by decide +kernel
theorem dX12_isClear_67 : decode cX12_isClear 67 = .ok (.aload_n 0, 1) := by decide +kernel
theorem dX12_isClear_68 : decode cX12_isClear 68 = .ok (.iload 7, 2) := by decide +kernel
theorem dX12_isClear_70 : decode cX12_isClear 70 = .ok (.iload 8, 2) := by decide +kernel
theorem dX12_isClear_72 : decode cX12_isClear 72 = .ok (.invokevirtual 114, 3) := by decide +kernel
theorem dX12_isClear_75 : decode cX12_isClear 75 = .ok (.invokestatic 125, 3) := by decide +kernel
theorem dX12_isClear_78 : decode cX12_isClear 78 = .ok (.ifCond .eq 34, 3) := by decide +kernel
theorem dX12_isClear_81 : decode cX12_isClear 81 = .ok (.iconst 2, 1) := by decide +kernel
theorem dX12_isClear_82 : decode cX12_isClear 82 = .ok (.iload 4, 2) := by decide +kernel
theorem dX12_isClear_84 : decode cX12_isClear 84 = .ok (.imul, 1) := by decide +kernel
theorem dX12_isClear_85 : decode cX12_isClear 85 = .ok (.iconst 1, 1) := by decide +kernel
theorem dX12_isClear_86 : decode cX12_isClear 86 = .ok (.iadd, 1) := by decide +kernel
theorem dX12_isClear_87 : decode cX12_isClear 87 = .ok (.iconst 2, 1) := by decide +kernel
theorem dX12_isClear_88 : decode cX12_isClear 88 = .ok (.iload_n 3, 1) := by decide +kernel
theorem dX12_isClear_89 : decode cX12_isClear 89 = .ok (.imul, 1) := by decide +kernel
theorem dX12_isClear_90 : decode cX12_isClear 90 = .ok (.iconst 1, 1) := by decide +kernel
theorem dX12_isClear_91 : decode cX12_isClear 91 = .ok (.iadd, 1) := by decide +kernel
theorem dX12_isClear_92 : decode cX12_isClear 92 = .ok (.iconst 2, 1) := by decide +kernel
theorem dX12_isClear_93 : decode cX12_isClear 93 = .ok (.iload 6, 2) := by decide +kernel
theorem dX12_isClear_95 : decode cX12_isClear 95 = .ok (.imul, 1) := by decide +kernel
theorem dX12_isClear_96 : decode cX12_isClear 96 = .ok (.iconst 2, 1) := by decide +kernel
theorem dX12_isClear_97 : decode cX12_isClear 97 = .ok (.iload 5, 2) := by decide +kernel
theorem dX12_isClear_99 : decode cX12_isClear 99 = .ok (.imul, 1) := by decide +kernel
theorem dX12_isClear_100 : decode cX12_isClear 100 = .ok (.iload 8, 2) := by decide +kernel
theorem dX12_isClear_102 : decode cX12_isClear 102 = .ok (.iload 7, 2) := by decide +kernel
theorem dX12_isClear_104 : decode cX12_isClear 104 = .ok (.invokestatic 128, 3) := by decide +kernel
theorem dX12_isClear_107 : decode cX12_isClear 107 = .ok (.ifCond .eq 5, 3) := by decide +kernel
theorem dX12_isClear_110 : decode cX12_isClear 110 = .ok (.iconst 0, 1) := by decide +kernel
theorem dX12_isClear_111 : decode cX12_isClear 111 = .ok (.ireturn, 1) := by decide +kernel
theorem dX12_isClear_112 : decode cX12_isClear 112 = .ok (.iinc 8 1, 3) := by decide +kernel
theorem dX12_isClear_115 : decode cX12_isClear 115 = .ok (.goto (-60), 3) := by decide +kernel
theorem dX12_isClear_118 : decode cX12_isClear 118 = .ok (.iinc 7 1, 3) := by decide +kernel
theorem dX12_isClear_121 : decode cX12_isClear 121 = .ok (.goto (-88), 3) := by decide +kernel
theorem dX12_isClear_124 : decode cX12_isClear 124 = .ok (.iconst 1, 1) := by decide +kernel
theorem dX12_isClear_125 : decode cX12_isClear 125 = .ok (.ireturn, 1) := by decide +kernel
def k_X12_isClear_0 (F : FT) (Q : QT) : KT := o_iload 1 (o_ic (nI 8) (o_idiv (o_istore 3 (o_iload 1 (o_ic (nI 8) (o_irem (o_istore 4 (o_iload 2 (o_ic (nI 9) (o_idiv (o_istore 5 (o_iload 2 (o_ic (nI 9) (o_irem (o_istore 6 (o_iload 3 (o_iload 5 (o_ic (nI 1) (o_isub (o_mmin (o_istore 7 (F 33))))))))))))))))))))))
def k_X12_isClear_33 (F : FT) (Q : QT) : KT := o_iload 7 (o_iload 3 (o_iload 5 (o_mmax (o_icgt (F 124) (o_iload 4 (o_iload 6 (o_ic (nI 1) (o_isub (o_mmin (o_istore 8 (F 55)))))))))))
def k_X12_isClear_55 (F : FT) (Q : QT) : KT := o_iload 8 (o_iload 4 (o_iload 6 (o_mmax (o_icgt (F 118) (o_aload 0 (o_iload 7 (o_iload 8 (o_cV 12 m_X12_standsAt 3 (o_cS m_X12_hinders 1 (o_ifeq (F 112) (o_ic (nI 2) (o_iload 4 (o_imul (o_ic (nI 1) (o_iadd (o_ic (nI 2) (o_iload 3 (o_imul (o_ic (nI 1) (o_iadd (o_ic (nI 2) (o_iload 6 (o_imul (o_ic (nI 2) (o_iload 5 (o_imul (o_iload 8 (o_iload 7 (o_cS m_X12_goesThrough 6 (o_ifeq (F 112) (o_ic (nI 0) (o_zret Q))))))))))))))))))))))))))))))))
def k_X12_isClear_112 (F : FT) (Q : QT) : KT := o_iinc 8 (nI 1) (F 55)
def k_X12_isClear_118 (F : FT) (Q : QT) : KT := o_iinc 7 (nI 1) (F 33)
def k_X12_isClear_124 (F : FT) (Q : QT) : KT := o_ic (nI 1) (o_zret Q)
set_option maxRecDepth 20000 in
theorem r_X12_isClear {a0 : Nat} {a1 : Int32} {a2 : Int32} {n : Nat} {R : RR} {I : II} {J : JJ} {Q : QT} (hn : n + 0 ≤ 90) (h : ∀ F : FT, al_Wk F → al_Ok F (k_X12_isClear_0 F Q) 0 → al_Ok F (k_X12_isClear_33 F Q) 33 → al_Ok F (k_X12_isClear_55 F Q) 55 → al_Ok F (k_X12_isClear_112 F Q) 112 → al_Ok F (k_X12_isClear_118 F Q) 118 → al_Ok F (k_X12_isClear_124 F Q) 124 → F 0 [some (.ref a0), some (.int a1), some (.int a2), none, none, none, none, none, none] [] n R I J) : CT m_X12_isClear 0 [.ref a0, .int a1, .int a2] n R I J Q :=
  CT.of (by decide) hn (fun _ => rfl) (fun _ => Nat.le_of_ble_eq_true rfl) (fun F p l e s m args below meth c Rm t Q0 C hQ hr hm => h F (fun _ _ _ _ _ _ _ _ => S_wk C)
    (S_iload_n C dX12_isClear_0 rfl (S_bipush C dX12_isClear_1 (by decide +kernel) (S_idiv C dX12_isClear_3 (S_istore_n C dX12_isClear_4 rfl (Nat.le_of_ble_eq_true rfl) (S_iload_n C dX12_isClear_5 rfl (S_bipush C dX12_isClear_6 (by decide +kernel) (S_irem C dX12_isClear_8 (S_istore C dX12_isClear_9 (Nat.le_of_ble_eq_true rfl) (S_iload_n C dX12_isClear_11 rfl (S_bipush C dX12_isClear_12 (by decide +kernel) (S_idiv C dX12_isClear_14 (S_istore C dX12_isClear_15 (Nat.le_of_ble_eq_true rfl) (S_iload_n C dX12_isClear_17 rfl (S_bipush C dX12_isClear_18 (by decide +kernel) (S_irem C dX12_isClear_20 (S_istore C dX12_isClear_21 (Nat.le_of_ble_eq_true rfl) (S_iload_n C dX12_isClear_23 rfl (S_iload C dX12_isClear_24 (S_iconst C dX12_isClear_26 (by decide +kernel) (S_isub C dX12_isClear_27 (S_mmin C (al_at 1098 (by decide +kernel) rfl) (al_at 658 (by decide +kernel) rfl) (al_at 73 (by decide +kernel) rfl) (al_at 659 (by decide +kernel) rfl) (Nat.le_of_ble_eq_true rfl) (Nat.le_of_ble_eq_true rfl) dX12_isClear_28 (S_istore C dX12_isClear_31 (Nat.le_of_ble_eq_true rfl) (fun _ _ _ _ _ _ h9 => h9)))))))))))))))))))))))
    (S_iload C dX12_isClear_33 (S_iload_n C dX12_isClear_35 rfl (S_iload C dX12_isClear_36 (S_mmax C (al_at 1099 (by decide +kernel) rfl) (al_at 447 (by decide +kernel) rfl) (al_at 73 (by decide +kernel) rfl) (al_at 448 (by decide +kernel) rfl) (Nat.le_of_ble_eq_true rfl) (Nat.le_of_ble_eq_true rfl) dX12_isClear_38 (S_icmpgt (tgt := 124) C dX12_isClear_41 (by decide) (S_iload C dX12_isClear_44 (S_iload C dX12_isClear_46 (S_iconst C dX12_isClear_48 (by decide +kernel) (S_isub C dX12_isClear_49 (S_mmin C (al_at 1098 (by decide +kernel) rfl) (al_at 658 (by decide +kernel) rfl) (al_at 73 (by decide +kernel) rfl) (al_at 659 (by decide +kernel) rfl) (Nat.le_of_ble_eq_true rfl) (Nat.le_of_ble_eq_true rfl) dX12_isClear_50 (S_istore C dX12_isClear_53 (Nat.le_of_ble_eq_true rfl) (fun _ _ _ _ _ _ h9 => h9))))))))))))
    (S_iload C dX12_isClear_55 (S_iload C dX12_isClear_57 (S_iload C dX12_isClear_59 (S_mmax C (al_at 1099 (by decide +kernel) rfl) (al_at 447 (by decide +kernel) rfl) (al_at 73 (by decide +kernel) rfl) (al_at 448 (by decide +kernel) rfl) (Nat.le_of_ble_eq_true rfl) (Nat.le_of_ble_eq_true rfl) dX12_isClear_61 (S_icmpgt (tgt := 118) C dX12_isClear_64 (by decide) (S_aload_n C dX12_isClear_67 rfl (S_iload C dX12_isClear_68 (S_iload C dX12_isClear_70 (S_cV (ci := 12) C ok_X12_standsAt rfl (al_at 1062 (by decide +kernel) rfl) (Nat.le_of_ble_eq_true rfl) (Nat.le_of_ble_eq_true rfl) dX12_isClear_72 (S_cS C ok_X12_hinders (al_at 1100 (by decide +kernel) rfl) (Nat.le_of_ble_eq_true rfl) (Nat.le_of_ble_eq_true rfl) dX12_isClear_75 (S_ifeq (tgt := 112) C dX12_isClear_78 (by decide) (S_iconst C dX12_isClear_81 (by decide +kernel) (S_iload C dX12_isClear_82 (S_imul C dX12_isClear_84 (S_iconst C dX12_isClear_85 (by decide +kernel) (S_iadd C dX12_isClear_86 (S_iconst C dX12_isClear_87 (by decide +kernel) (S_iload_n C dX12_isClear_88 rfl (S_imul C dX12_isClear_89 (S_iconst C dX12_isClear_90 (by decide +kernel) (S_iadd C dX12_isClear_91 (S_iconst C dX12_isClear_92 (by decide +kernel) (S_iload C dX12_isClear_93 (S_imul C dX12_isClear_95 (S_iconst C dX12_isClear_96 (by decide +kernel) (S_iload C dX12_isClear_97 (S_imul C dX12_isClear_99 (S_iload C dX12_isClear_100 (S_iload C dX12_isClear_102 (S_cS C ok_X12_goesThrough (al_at 1103 (by decide +kernel) rfl) (Nat.le_of_ble_eq_true rfl) (Nat.le_of_ble_eq_true rfl) dX12_isClear_104 (S_ifeq (tgt := 112) C dX12_isClear_107 (by decide) (S_iconst C dX12_isClear_110 (by decide +kernel) (S_zret C hQ hr dX12_isClear_111)))))))))))))))))))))))))))))))))
    (S_iinc C dX12_isClear_112 (by decide +kernel) (Nat.le_of_ble_eq_true rfl) (S_goto (tgt := 55) C dX12_isClear_115 (by decide)))
    (S_iinc C dX12_isClear_118 (by decide +kernel) (Nat.le_of_ble_eq_true rfl) (S_goto (tgt := 33) C dX12_isClear_121 (by decide)))
    (S_iconst C dX12_isClear_124 (by decide +kernel) (S_zret C hQ hr dX12_isClear_125)))
theorem dX12_isHouse_0 : decode cX12_isHouse 0 = .ok (.iload_n 1, 1) := by decide +kernel
theorem dX12_isHouse_1 : decode cX12_isHouse 1 = .ok (.iconst 0, 1) := by decide +kernel
theorem dX12_isHouse_2 : decode cX12_isHouse 2 = .ok (.aload_n 0, 1) := by decide +kernel
theorem dX12_isHouse_3 : decode cX12_isHouse 3 = .ok (.getfield 9, 3) := by decide +kernel
theorem dX12_isHouse_6 : decode cX12_isHouse 6 = .ok (.sipush 142, 3) := by decide +kernel
theorem dX12_isHouse_9 : decode cX12_isHouse 9 = .ok (.iaload, 1) := by decide +kernel
theorem dX12_isHouse_10 : decode cX12_isHouse 10 = .ok (.iconst 1, 1) := by decide +kernel
theorem dX12_isHouse_11 : decode cX12_isHouse 11 = .ok (.isub, 1) := by decide +kernel
theorem dX12_isHouse_12 : decode cX12_isHouse 12 = .ok (.invokestatic 81, 3) := by decide +kernel
theorem dX12_isHouse_15 : decode cX12_isHouse 15 = .ok (.ireturn, 1) := by decide +kernel
def k_X12_isHouse_0 (F : FT) (Q : QT) : KT := o_iload 1 (o_ic (nI 0) (o_aload 0 (o_getR 12 0 (o_ic (nI 142) (o_iald (o_ic (nI 1) (o_isub (o_cS m_X12_within 3 (o_zret Q)))))))))
set_option maxRecDepth 20000 in
theorem r_X12_isHouse {a0 : Nat} {a1 : Int32} {n : Nat} {R : RR} {I : II} {J : JJ} {Q : QT} (hn : n + 0 ≤ 90) (h : ∀ F : FT, al_Wk F → al_Ok F (k_X12_isHouse_0 F Q) 0 → F 0 [some (.ref a0), some (.int a1)] [] n R I J) : CT m_X12_isHouse 0 [.ref a0, .int a1] n R I J Q :=
  CT.of (by decide) hn (fun _ => rfl) (fun _ => Nat.le_of_ble_eq_true rfl) (fun F p l e s m args below meth c Rm t Q0 C hQ hr hm => h F (fun _ _ _ _ _ _ _ _ => S_wk C)
    (S_iload_n C dX12_isHouse_0 rfl (S_iconst C dX12_isHouse_1 (by decide +kernel) (S_aload_n C dX12_isHouse_2 rfl (S_getR (ci := 12) (j := 0) C inG12 rfl (Nat.le_of_ble_eq_true rfl) rfl (al_at 918 (by decide +kernel) rfl) dX12_isHouse_3 (S_sipush C dX12_isHouse_6 (by decide +kernel) (S_iald C dX12_isHouse_9 (S_iconst C dX12_isHouse_10 (by decide +kernel) (S_isub C dX12_isHouse_11 (S_cS C ok_X12_within (al_at 1005 (by decide +kernel) rfl) (Nat.le_of_ble_eq_true rfl) (Nat.le_of_ble_eq_true rfl) dX12_isHouse_12 (S_zret C hQ hr dX12_isHouse_15)))))))))))
theorem dX12_isOnPlot_0 : decode cX12_isOnPlot 0 = .ok (.iload_n 1, 1) := by decide +kernel
theorem dX12_isOnPlot_1 : decode cX12_isOnPlot 1 = .ok (.iconst 0, 1) := by decide +kernel
theorem dX12_isOnPlot_2 : decode cX12_isOnPlot 2 = .ok (.iconst 2, 1) := by decide +kernel
theorem dX12_isOnPlot_3 : decode cX12_isOnPlot 3 = .ok (.invokestatic 81, 3) := by decide +kernel
theorem dX12_isOnPlot_6 : decode cX12_isOnPlot 6 = .ok (.ifCond .eq 28, 3) := by decide +kernel
theorem dX12_isOnPlot_9 : decode cX12_isOnPlot 9 = .ok (.iload_n 2, 1) := by decide +kernel
theorem dX12_isOnPlot_10 : decode cX12_isOnPlot 10 = .ok (.iconst 0, 1) := by decide +kernel
theorem dX12_isOnPlot_11 : decode cX12_isOnPlot 11 = .ok (.iconst 3, 1) := by decide +kernel
theorem dX12_isOnPlot_12 : decode cX12_isOnPlot 12 = .ok (.invokestatic 81, 3) := by decide +kernel
theorem dX12_isOnPlot_15 : decode cX12_isOnPlot 15 = .ok (.ifCond .eq 19, 3) := by decide +kernel
theorem dX12_isOnPlot_18 : decode cX12_isOnPlot 18 = .ok (.iload_n 0, 1) := by decide +kernel
theorem dX12_isOnPlot_19 : decode cX12_isOnPlot 19 = .ok (.iconst 4, 1) := by decide +kernel
theorem dX12_isOnPlot_20 : decode cX12_isOnPlot 20 = .ok (.iload_n 1, 1) := by decide +kernel
theorem dX12_isOnPlot_21 : decode cX12_isOnPlot 21 = .ok (.imul, 1) := by decide +kernel
theorem dX12_isOnPlot_22 : decode cX12_isOnPlot 22 = .ok (.iload_n 2, 1) := by decide +kernel
theorem dX12_isOnPlot_23 : decode cX12_isOnPlot 23 = .ok (.iadd, 1) := by decide +kernel
theorem dX12_isOnPlot_24 : decode cX12_isOnPlot 24 = .ok (.invokestatic 196, 3) := by decide +kernel
theorem dX12_isOnPlot_27 : decode cX12_isOnPlot 27 = .ok (.ifCond .eq 7, 3) := by decide +kernel
theorem dX12_isOnPlot_30 : decode cX12_isOnPlot 30 = .ok (.iconst 1, 1) := by decide +kernel
theorem dX12_isOnPlot_31 : decode cX12_isOnPlot 31 = .ok (.goto 4, 3) := by decide +kernel
theorem dX12_isOnPlot_34 : decode cX12_isOnPlot 34 = .ok (.iconst 0, 1) := by decide +kernel
theorem dX12_isOnPlot_35 : decode cX12_isOnPlot 35 = .ok (.ireturn, 1) := by decide +kernel
def k_X12_isOnPlot_0 (F : FT) (Q : QT) : KT := o_iload 1 (o_ic (nI 0) (o_ic (nI 2) (o_cS m_X12_within 3 (o_ifeq (F 34) (o_iload 2 (o_ic (nI 0) (o_ic (nI 3) (o_cS m_X12_within 3 (o_ifeq (F 34) (o_iload 0 (o_ic (nI 4) (o_iload 1 (o_imul (o_iload 2 (o_iadd (o_cS m_X12_has 2 (o_ifeq (F 34) (o_ic (nI 1) (F 35)))))))))))))))))))
def k_X12_isOnPlot_34 (F : FT) (Q : QT) : KT := o_ic (nI 0) (F 35)
def k_X12_isOnPlot_35 (F : FT) (Q : QT) : KT := o_zret Q
set_option maxRecDepth 20000 in
theorem r_X12_isOnPlot {a0 : Int32} {a1 : Int32} {a2 : Int32} {n : Nat} {R : RR} {I : II} {J : JJ} {Q : QT} (hn : n + 0 ≤ 90) (h : ∀ F : FT, al_Wk F → al_Ok F (k_X12_isOnPlot_0 F Q) 0 → al_Ok F (k_X12_isOnPlot_34 F Q) 34 → al_Ok F (k_X12_isOnPlot_35 F Q) 35 → F 0 [some (.int a0), some (.int a1), some (.int a2)] [] n R I J) : CT m_X12_isOnPlot 0 [.int a0, .int a1, .int a2] n R I J Q :=
  CT.of (by decide) hn (fun _ => rfl) (fun _ => Nat.le_of_ble_eq_true rfl) (fun F p l e s m args below meth c Rm t Q0 C hQ hr hm => h F (fun _ _ _ _ _ _ _ _ => S_wk C)
    (S_iload_n C dX12_isOnPlot_0 rfl (S_iconst C dX12_isOnPlot_1 (by decide +kernel) (S_iconst C dX12_isOnPlot_2 (by decide +kernel) (S_cS C ok_X12_within (al_at 1005 (by decide +kernel) rfl) (Nat.le_of_ble_eq_true rfl) (Nat.le_of_ble_eq_true rfl) dX12_isOnPlot_3 (S_ifeq (tgt := 34) C dX12_isOnPlot_6 (by decide) (S_iload_n C dX12_isOnPlot_9 rfl (S_iconst C dX12_isOnPlot_10 (by decide +kernel) (S_iconst C dX12_isOnPlot_11 (by decide +kernel) (S_cS C ok_X12_within (al_at 1005 (by decide +kernel) rfl) (Nat.le_of_ble_eq_true rfl) (Nat.le_of_ble_eq_true rfl) dX12_isOnPlot_12 (S_ifeq (tgt := 34) C dX12_isOnPlot_15 (by decide) (S_iload_n C dX12_isOnPlot_18 rfl (S_iconst C dX12_isOnPlot_19 (by decide +kernel) (S_iload_n C dX12_isOnPlot_20 rfl (S_imul C dX12_isOnPlot_21 (S_iload_n C dX12_isOnPlot_22 rfl (S_iadd C dX12_isOnPlot_23 (S_cS C ok_X12_has (al_at 1192 (by decide +kernel) rfl) (Nat.le_of_ble_eq_true rfl) (Nat.le_of_ble_eq_true rfl) dX12_isOnPlot_24 (S_ifeq (tgt := 34) C dX12_isOnPlot_27 (by decide) (S_iconst C dX12_isOnPlot_30 (by decide +kernel) (S_goto (tgt := 35) C dX12_isOnPlot_31 (by decide)))))))))))))))))))))
    (S_iconst C dX12_isOnPlot_34 (by decide +kernel) (fun _ _ _ _ _ _ h9 => h9))
    (S_zret C hQ hr dX12_isOnPlot_35))
theorem dX12_isOpen_0 : decode cX12_isOpen 0 = .ok (.iconst 0, 1) := by decide +kernel
theorem dX12_isOpen_1 : decode cX12_isOpen 1 = .ok (.istore_n 2, 1) := by decide +kernel
theorem dX12_isOpen_2 : decode cX12_isOpen 2 = .ok (.iconst 0, 1) := by decide +kernel
theorem dX12_isOpen_3 : decode cX12_isOpen 3 = .ok (.istore_n 3, 1) := by decide +kernel
theorem dX12_isOpen_4 : decode cX12_isOpen 4 = .ok (.iload_n 3, 1) := by decide +kernel
theorem dX12_isOpen_5 : decode cX12_isOpen 5 = .ok (.iconst 4, 1) := by decide +kernel
theorem dX12_isOpen_6 : decode cX12_isOpen 6 = .ok (.if_icmp .ge 52, 3) := by decide +kernel
theorem dX12_isOpen_9 : decode cX12_isOpen 9 = .ok (.aload_n 0, 1) := by decide +kernel
theorem dX12_isOpen_10 : decode cX12_isOpen 10 = .ok (.iload_n 1, 1) := by decide +kernel
theorem dX12_isOpen_11 : decode cX12_isOpen 11 = .ok (.bipush 9, 2) := by decide +kernel
theorem dX12_isOpen_13 : decode cX12_isOpen 13 = .ok (.idiv, 1) := by decide +kernel
theorem dX12_isOpen_14 : decode cX12_isOpen 14 = .ok (.iload_n 3, 1) := by decide +kernel
theorem dX12_isOpen_15 : decode cX12_isOpen 15 = .ok (.iconst 2, 1) := by decide +kernel
theorem dX12_isOpen_16 : decode cX12_isOpen 16 = .ok (.idiv, 1) := by decide +kernel
theorem dX12_isOpen_17 : decode cX12_isOpen 17 = .ok (.isub, 1) := by decide +kernel
theorem dX12_isOpen_18 : decode cX12_isOpen 18 = .ok (.iload_n 1, 1) := by decide +kernel
theorem dX12_isOpen_19 : decode cX12_isOpen 19 = .ok (.bipush 9, 2) := by decide +kernel
theorem dX12_isOpen_21 : decode cX12_isOpen 21 = .ok (.irem, 1) := by decide +kernel
theorem dX12_isOpen_22 : decode cX12_isOpen 22 = .ok (.iload_n 3, 1) := by decide +kernel
theorem dX12_isOpen_23 : decode cX12_isOpen 23 = .ok (.iconst 2, 1) := by decide +kernel
theorem dX12_isOpen_24 : decode cX12_isOpen 24 = .ok (.irem, 1) := by decide +kernel
theorem dX12_isOpen_25 : decode cX12_isOpen 25 = .ok (.isub, 1) := by decide +kernel
theorem dX12_isOpen_26 : decode cX12_isOpen 26 = .ok (.invokevirtual 114, 3) := by decide +kernel
theorem dX12_isOpen_29 : decode cX12_isOpen 29 = .ok (.istore 4, 2) := by decide +kernel
theorem dX12_isOpen_31 : decode cX12_isOpen 31 = .ok (.iload_n 2, 1) := by decide +kernel
theorem dX12_isOpen_32 : decode cX12_isOpen 32 = .ok (.ifCond .ne 14, 3) := by decide +kernel
theorem dX12_isOpen_35 : decode cX12_isOpen 35 = .ok (.iload 4, 2) := by decide +kernel
theorem dX12_isOpen_37 : decode cX12_isOpen 37 = .ok (.ifCond .eq 9, 3) := by decide +kernel
theorem dX12_isOpen_40 : decode cX12_isOpen 40 = .ok (.iload 4, 2) := by decide +kernel
theorem dX12_isOpen_42 : decode cX12_isOpen 42 = .ok (.iconst 1, 1) := by decide +kernel
theorem dX12_isOpen_43 : decode cX12_isOpen 43 = .ok (.if_icmp .ne 7, 3) := by decide +kernel
theorem dX12_isOpen_46 : decode cX12_isOpen 46 = .ok (.iconst 1, 1) := by decide +kernel
theorem dX12_isOpen_47 : decode cX12_isOpen 47 = .ok (.goto 4, 3) := by decide +kernel
theorem dX12_isOpen_50 : decode cX12_isOpen 50 = .ok (.iconst 0, 1) := by decide +kernel
theorem dX12_isOpen_51 : decode cX12_isOpen 51 = .ok (.istore_n 2, 1) := by decide +kernel
theorem dX12_isOpen_52 : decode cX12_isOpen 52 = .ok (.iinc 3 1, 3) := by decide +kernel
theorem dX12_isOpen_55 : decode cX12_isOpen 55 = .ok (.goto (-51), 3) := by decide +kernel
theorem dX12_isOpen_58 : decode cX12_isOpen 58 = .ok (.iload_n 2, 1) := by decide +kernel
theorem dX12_isOpen_59 : decode cX12_isOpen 59 = .ok (.ireturn, 1) := by decide +kernel
def k_X12_isOpen_0 (F : FT) (Q : QT) : KT := o_ic (nI 0) (o_istore 2 (o_ic (nI 0) (o_istore 3 (F 4))))
def k_X12_isOpen_4 (F : FT) (Q : QT) : KT := o_iload 3 (o_ic (nI 4) (o_icge (F 58) (o_aload 0 (o_iload 1 (o_ic (nI 9) (o_idiv (o_iload 3 (o_ic (nI 2) (o_idiv (o_isub (o_iload 1 (o_ic (nI 9) (o_irem (o_iload 3 (o_ic (nI 2) (o_irem (o_isub (o_cV 12 m_X12_standsAt 3 (o_istore 4 (o_iload 2 (o_ifne (F 46) (o_iload 4 (o_ifeq (F 46) (o_iload 4 (o_ic (nI 1) (o_icne (F 50) (F 46)))))))))))))))))))))))))))
def k_X12_isOpen_46 (F : FT) (Q : QT) : KT := o_ic (nI 1) (F 51)
def k_X12_isOpen_50 (F : FT) (Q : QT) : KT := o_ic (nI 0) (F 51)
def k_X12_isOpen_51 (F : FT) (Q : QT) : KT := o_istore 2 (o_iinc 3 (nI 1) (F 4))
def k_X12_isOpen_58 (F : FT) (Q : QT) : KT := o_iload 2 (o_zret Q)
set_option maxRecDepth 20000 in
theorem r_X12_isOpen {a0 : Nat} {a1 : Int32} {n : Nat} {R : RR} {I : II} {J : JJ} {Q : QT} (hn : n + 0 ≤ 90) (h : ∀ F : FT, al_Wk F → al_Ok F (k_X12_isOpen_0 F Q) 0 → al_Ok F (k_X12_isOpen_4 F Q) 4 → al_Ok F (k_X12_isOpen_46 F Q) 46 → al_Ok F (k_X12_isOpen_50 F Q) 50 → al_Ok F (k_X12_isOpen_51 F Q) 51 → al_Ok F (k_X12_isOpen_58 F Q) 58 → F 0 [some (.ref a0), some (.int a1), none, none, none] [] n R I J) : CT m_X12_isOpen 0 [.ref a0, .int a1] n R I J Q :=
  CT.of (by decide) hn (fun _ => rfl) (fun _ => Nat.le_of_ble_eq_true rfl) (fun F p l e s m args below meth c Rm t Q0 C hQ hr hm => h F (fun _ _ _ _ _ _ _ _ => S_wk C)
    (S_iconst C dX12_isOpen_0 (by decide +kernel) (S_istore_n C dX12_isOpen_1 rfl (Nat.le_of_ble_eq_true rfl) (S_iconst C dX12_isOpen_2 (by decide +kernel) (S_istore_n C dX12_isOpen_3 rfl (Nat.le_of_ble_eq_true rfl) (fun _ _ _ _ _ _ h9 => h9)))))
    (S_iload_n C dX12_isOpen_4 rfl (S_iconst C dX12_isOpen_5 (by decide +kernel) (S_icmpge (tgt := 58) C dX12_isOpen_6 (by decide) (S_aload_n C dX12_isOpen_9 rfl (S_iload_n C dX12_isOpen_10 rfl (S_bipush C dX12_isOpen_11 (by decide +kernel) (S_idiv C dX12_isOpen_13 (S_iload_n C dX12_isOpen_14 rfl (S_iconst C dX12_isOpen_15 (by decide +kernel) (S_idiv C dX12_isOpen_16 (S_isub C dX12_isOpen_17 (S_iload_n C dX12_isOpen_18 rfl (S_bipush C dX12_isOpen_19 (by decide +kernel) (S_irem C dX12_isOpen_21 (S_iload_n C dX12_isOpen_22 rfl (S_iconst C dX12_isOpen_23 (by decide +kernel) (S_irem C dX12_isOpen_24 (S_isub C dX12_isOpen_25 (S_cV (ci := 12) C ok_X12_standsAt rfl (al_at 1062 (by decide +kernel) rfl) (Nat.le_of_ble_eq_true rfl) (Nat.le_of_ble_eq_true rfl) dX12_isOpen_26 (S_istore C dX12_isOpen_29 (Nat.le_of_ble_eq_true rfl) (S_iload_n C dX12_isOpen_31 rfl (S_ifne (tgt := 46) C dX12_isOpen_32 (by decide) (S_iload C dX12_isOpen_35 (S_ifeq (tgt := 46) C dX12_isOpen_37 (by decide) (S_iload C dX12_isOpen_40 (S_iconst C dX12_isOpen_42 (by decide +kernel) (S_icmpne (tgt := 50) C dX12_isOpen_43 (by decide) (fun _ _ _ _ _ _ h9 => h9))))))))))))))))))))))))))))
    (S_iconst C dX12_isOpen_46 (by decide +kernel) (S_goto (tgt := 51) C dX12_isOpen_47 (by decide)))
    (S_iconst C dX12_isOpen_50 (by decide +kernel) (fun _ _ _ _ _ _ h9 => h9))
    (S_istore_n C dX12_isOpen_51 rfl (Nat.le_of_ble_eq_true rfl) (S_iinc C dX12_isOpen_52 (by decide +kernel) (Nat.le_of_ble_eq_true rfl) (S_goto (tgt := 4) C dX12_isOpen_55 (by decide))))
    (S_iload_n C dX12_isOpen_58 rfl (S_zret C hQ hr dX12_isOpen_59)))
theorem dX12_isPoint_0 : decode cX12_isPoint 0 = .ok (.iload_n 0, 1) := by decide +kernel
theorem dX12_isPoint_1 : decode cX12_isPoint 1 = .ok (.iconst 0, 1) := by decide +kernel
theorem dX12_isPoint_2 : decode cX12_isPoint 2 = .ok (.bipush 80, 2) := by decide +kernel
theorem dX12_isPoint_4 : decode cX12_isPoint 4 = .ok (.invokestatic 81, 3) := by decide +kernel
theorem dX12_isPoint_7 : decode cX12_isPoint 7 = .ok (.ireturn, 1) := by decide +kernel
def k_X12_isPoint_0 (F : FT) (Q : QT) : KT := o_iload 0 (o_ic (nI 0) (o_ic (nI 80) (o_cS m_X12_within 3 (o_zret Q))))
set_option maxRecDepth 20000 in
theorem r_X12_isPoint {a0 : Int32} {n : Nat} {R : RR} {I : II} {J : JJ} {Q : QT} (hn : n + 0 ≤ 90) (h : ∀ F : FT, al_Wk F → al_Ok F (k_X12_isPoint_0 F Q) 0 → F 0 [some (.int a0)] [] n R I J) : CT m_X12_isPoint 0 [.int a0] n R I J Q :=
  CT.of (by decide) hn (fun _ => rfl) (fun _ => Nat.le_of_ble_eq_true rfl) (fun F p l e s m args below meth c Rm t Q0 C hQ hr hm => h F (fun _ _ _ _ _ _ _ _ => S_wk C)
    (S_iload_n C dX12_isPoint_0 rfl (S_iconst C dX12_isPoint_1 (by decide +kernel) (S_bipush C dX12_isPoint_2 (by decide +kernel) (S_cS C ok_X12_within (al_at 1005 (by decide +kernel) rfl) (Nat.le_of_ble_eq_true rfl) (Nat.le_of_ble_eq_true rfl) dX12_isPoint_4 (S_zret C hQ hr dX12_isPoint_7))))))
theorem dX12_isRounded_0 : decode cX12_isRounded 0 = .ok (.iconst 0, 1) := by decide +kernel
theorem dX12_isRounded_1 : decode cX12_isRounded 1 = .ok (.istore_n 3, 1) := by decide +kernel
theorem dX12_isRounded_2 : decode cX12_isRounded 2 = .ok (.iconst 0, 1) := by decide +kernel
theorem dX12_isRounded_3 : decode cX12_isRounded 3 = .ok (.istore 4, 2) := by decide +kernel
theorem dX12_isRounded_5 : decode cX12_isRounded 5 = .ok (.iload 4, 2) := by decide +kernel
theorem dX12_isRounded_7 : decode cX12_isRounded 7 = .ok (.aload_n 0, 1) := by decide +kernel
theorem dX12_isRounded_8 : decode cX12_isRounded 8 = .ok (.iload_n 1, 1) := by decide +kernel
theorem dX12_isRounded_9 : decode cX12_isRounded 9 = .ok (.iconst 4, 1) := by decide +kernel
theorem dX12_isRounded_10 : decode cX12_isRounded 10 = .ok (.invokevirtual 145, 3) := by decide +kernel
theorem dX12_isRounded_13 : decode cX12_isRounded 13 = .ok (.if_icmp .ge 38, 3) := by decide +kernel
theorem dX12_isRounded_16 : decode cX12_isRounded 16 = .ok (.iload_n 3, 1) := by decide +kernel
theorem dX12_isRounded_17 : decode cX12_isRounded 17 = .ok (.ifCond .ne 22, 3) := by decide +kernel
theorem dX12_isRounded_20 : decode cX12_isRounded 20 = .ok (.aload_n 0, 1) := by decide +kernel
theorem dX12_isRounded_21 : decode cX12_isRounded 21 = .ok (.getfield 9, 3) := by decide +kernel
theorem dX12_isRounded_24 : decode cX12_isRounded 24 = .ok (.bipush 94, 2) := by decide +kernel
theorem dX12_isRounded_26 : decode cX12_isRounded 26 = .ok (.bipush 8, 2) := by decide +kernel
theorem dX12_isRounded_28 : decode cX12_isRounded 28 = .ok (.iload_n 1, 1) := by decide +kernel
theorem dX12_isRounded_29 : decode cX12_isRounded 29 = .ok (.imul, 1) := by decide +kernel
theorem dX12_isRounded_30 : decode cX12_isRounded 30 = .ok (.iadd, 1) := by decide +kernel
theorem dX12_isRounded_31 : decode cX12_isRounded 31 = .ok (.iload 4, 2) := by decide +kernel
theorem dX12_isRounded_33 : decode cX12_isRounded 33 = .ok (.iadd, 1) := by decide +kernel
theorem dX12_isRounded_34 : decode cX12_isRounded 34 = .ok (.iaload, 1) := by decide +kernel
theorem dX12_isRounded_35 : decode cX12_isRounded 35 = .ok (.iload_n 2, 1) := by decide +kernel
theorem dX12_isRounded_36 : decode cX12_isRounded 36 = .ok (.if_icmp .ne 7, 3) := by decide +kernel
theorem dX12_isRounded_39 : decode cX12_isRounded 39 = .ok (.iconst 1, 1) := by decide +kernel
theorem dX12_isRounded_40 : decode cX12_isRounded 40 = .ok (.goto 4, 3) := by decide +kernel
theorem dX12_isRounded_43 : decode cX12_isRounded 43 = .ok (.iconst 0, 1) := by decide +kernel
theorem dX12_isRounded_44 : decode cX12_isRounded 44 = .ok (.istore_n 3, 1) := by decide +kernel
theorem dX12_isRounded_45 : decode cX12_isRounded 45 = .ok (.iinc 4 1, 3) := by decide +kernel
theorem dX12_isRounded_48 : decode cX12_isRounded 48 = .ok (.goto (-43), 3) := by decide +kernel
theorem dX12_isRounded_51 : decode cX12_isRounded 51 = .ok (.iload_n 3, 1) := by decide +kernel
theorem dX12_isRounded_52 : decode cX12_isRounded 52 = .ok (.ireturn, 1) := by decide +kernel
def k_X12_isRounded_0 (F : FT) (Q : QT) : KT := o_ic (nI 0) (o_istore 3 (o_ic (nI 0) (o_istore 4 (F 5))))
def k_X12_isRounded_5 (F : FT) (Q : QT) : KT := o_iload 4 (o_aload 0 (o_iload 1 (o_ic (nI 4) (o_cV 12 m_X12_houseIs 3 (o_icge (F 51) (o_iload 3 (o_ifne (F 39) (o_aload 0 (o_getR 12 0 (o_ic (nI 94) (o_ic (nI 8) (o_iload 1 (o_imul (o_iadd (o_iload 4 (o_iadd (o_iald (o_iload 2 (o_icne (F 43) (F 39))))))))))))))))))))
def k_X12_isRounded_39 (F : FT) (Q : QT) : KT := o_ic (nI 1) (F 44)
def k_X12_isRounded_43 (F : FT) (Q : QT) : KT := o_ic (nI 0) (F 44)
def k_X12_isRounded_44 (F : FT) (Q : QT) : KT := o_istore 3 (o_iinc 4 (nI 1) (F 5))
def k_X12_isRounded_51 (F : FT) (Q : QT) : KT := o_iload 3 (o_zret Q)
set_option maxRecDepth 20000 in
theorem r_X12_isRounded {a0 : Nat} {a1 : Int32} {a2 : Int32} {n : Nat} {R : RR} {I : II} {J : JJ} {Q : QT} (hn : n + 0 ≤ 90) (h : ∀ F : FT, al_Wk F → al_Ok F (k_X12_isRounded_0 F Q) 0 → al_Ok F (k_X12_isRounded_5 F Q) 5 → al_Ok F (k_X12_isRounded_39 F Q) 39 → al_Ok F (k_X12_isRounded_43 F Q) 43 → al_Ok F (k_X12_isRounded_44 F Q) 44 → al_Ok F (k_X12_isRounded_51 F Q) 51 → F 0 [some (.ref a0), some (.int a1), some (.int a2), none, none] [] n R I J) : CT m_X12_isRounded 0 [.ref a0, .int a1, .int a2] n R I J Q :=
  CT.of (by decide) hn (fun _ => rfl) (fun _ => Nat.le_of_ble_eq_true rfl) (fun F p l e s m args below meth c Rm t Q0 C hQ hr hm => h F (fun _ _ _ _ _ _ _ _ => S_wk C)
    (S_iconst C dX12_isRounded_0 (by decide +kernel) (S_istore_n C dX12_isRounded_1 rfl (Nat.le_of_ble_eq_true rfl) (S_iconst C dX12_isRounded_2 (by decide +kernel) (S_istore C dX12_isRounded_3 (Nat.le_of_ble_eq_true rfl) (fun _ _ _ _ _ _ h9 => h9)))))
    (S_iload C dX12_isRounded_5 (S_aload_n C dX12_isRounded_7 rfl (S_iload_n C dX12_isRounded_8 rfl (S_iconst C dX12_isRounded_9 (by decide +kernel) (S_cV (ci := 12) C ok_X12_houseIs rfl (al_at 1046 (by decide +kernel) rfl) (Nat.le_of_ble_eq_true rfl) (Nat.le_of_ble_eq_true rfl) dX12_isRounded_10 (S_icmpge (tgt := 51) C dX12_isRounded_13 (by decide) (S_iload_n C dX12_isRounded_16 rfl (S_ifne (tgt := 39) C dX12_isRounded_17 (by decide) (S_aload_n C dX12_isRounded_20 rfl (S_getR (ci := 12) (j := 0) C inG12 rfl (Nat.le_of_ble_eq_true rfl) rfl (al_at 918 (by decide +kernel) rfl) dX12_isRounded_21 (S_bipush C dX12_isRounded_24 (by decide +kernel) (S_bipush C dX12_isRounded_26 (by decide +kernel) (S_iload_n C dX12_isRounded_28 rfl (S_imul C dX12_isRounded_29 (S_iadd C dX12_isRounded_30 (S_iload C dX12_isRounded_31 (S_iadd C dX12_isRounded_33 (S_iald C dX12_isRounded_34 (S_iload_n C dX12_isRounded_35 rfl (S_icmpne (tgt := 43) C dX12_isRounded_36 (by decide) (fun _ _ _ _ _ _ h9 => h9)))))))))))))))))))))
    (S_iconst C dX12_isRounded_39 (by decide +kernel) (S_goto (tgt := 44) C dX12_isRounded_40 (by decide)))
    (S_iconst C dX12_isRounded_43 (by decide +kernel) (fun _ _ _ _ _ _ h9 => h9))
    (S_istore_n C dX12_isRounded_44 rfl (Nat.le_of_ble_eq_true rfl) (S_iinc C dX12_isRounded_45 (by decide +kernel) (Nat.le_of_ble_eq_true rfl) (S_goto (tgt := 5) C dX12_isRounded_48 (by decide))))
    (S_iload_n C dX12_isRounded_51 rfl (S_zret C hQ hr dX12_isRounded_52)))
theorem dX12_isSheet_0 : decode cX12_isSheet 0 = .ok (.iload_n 0, 1) := by decide +kernel
theorem dX12_isSheet_1 : decode cX12_isSheet 1 = .ok (.iconst 0, 1) := by decide +kernel
theorem dX12_isSheet_2 : decode cX12_isSheet 2 = .ok (.iconst 3, 1) := by decide +kernel
theorem dX12_isSheet_3 : decode cX12_isSheet 3 = .ok (.invokestatic 81, 3) := by decide +kernel
theorem dX12_isSheet_6 : decode cX12_isSheet 6 = .ok (.ireturn, 1) := by decide +kernel
def k_X12_isSheet_0 (F : FT) (Q : QT) : KT := o_iload 0 (o_ic (nI 0) (o_ic (nI 3) (o_cS m_X12_within 3 (o_zret Q))))
set_option maxRecDepth 20000 in
theorem r_X12_isSheet {a0 : Int32} {n : Nat} {R : RR} {I : II} {J : JJ} {Q : QT} (hn : n + 0 ≤ 90) (h : ∀ F : FT, al_Wk F → al_Ok F (k_X12_isSheet_0 F Q) 0 → F 0 [some (.int a0)] [] n R I J) : CT m_X12_isSheet 0 [.int a0] n R I J Q :=
  CT.of (by decide) hn (fun _ => rfl) (fun _ => Nat.le_of_ble_eq_true rfl) (fun F p l e s m args below meth c Rm t Q0 C hQ hr hm => h F (fun _ _ _ _ _ _ _ _ => S_wk C)
    (S_iload_n C dX12_isSheet_0 rfl (S_iconst C dX12_isSheet_1 (by decide +kernel) (S_iconst C dX12_isSheet_2 (by decide +kernel) (S_cS C ok_X12_within (al_at 1005 (by decide +kernel) rfl) (Nat.le_of_ble_eq_true rfl) (Nat.le_of_ble_eq_true rfl) dX12_isSheet_3 (S_zret C hQ hr dX12_isSheet_6))))))
theorem dX12_isSort_0 : decode cX12_isSort 0 = .ok (.iload_n 1, 1) := by decide +kernel
theorem dX12_isSort_1 : decode cX12_isSort 1 = .ok (.iconst 0, 1) := by decide +kernel
theorem dX12_isSort_2 : decode cX12_isSort 2 = .ok (.iconst 3, 1) := by decide +kernel
theorem dX12_isSort_3 : decode cX12_isSort 3 = .ok (.invokestatic 81, 3) := by decide +kernel
theorem dX12_isSort_6 : decode cX12_isSort 6 = .ok (.ifCond .ne 25, 3) := by decide +kernel
theorem dX12_isSort_9 : decode cX12_isSort 9 = .ok (.iload_n 1, 1) := by decide +kernel
theorem dX12_isSort_10 : decode cX12_isSort 10 = .ok (.bipush 10, 2) := by decide +kernel
theorem dX12_isSort_12 : decode cX12_isSort 12 = .ok (.bipush 10, 2) := by decide +kernel
theorem dX12_isSort_14 : decode cX12_isSort 14 = .ok (.aload_n 0, 1) := by decide +kernel
theorem dX12_isSort_15 : decode cX12_isSort 15 = .ok (.getfield 9, 3) := by decide +kernel
theorem dX12_isSort_18 : decode cX12_isSort 18 = .ok (.sipush 142, 3) := by decide +kernel
theorem dX12_isSort_21 : decode cX12_isSort 21 = .ok (.iaload, 1) := by decide +kernel
theorem dX12_isSort_22 : decode cX12_isSort 22 = .ok (.iadd, 1) := by decide +kernel
theorem dX12_isSort_23 : decode cX12_isSort 23 = .ok (.iconst 1, 1) := by decide +kernel
theorem dX12_isSort_24 : decode cX12_isSort 24 = .ok (.isub, 1) := by decide +kernel
theorem dX12_isSort_25 : decode cX12_isSort 25 = .ok (.invokestatic 81, 3) := by decide +kernel
theorem dX12_isSort_28 : decode cX12_isSort 28 = .ok (.ifCond .eq 7, 3) := by decide +kernel
theorem dX12_isSort_31 : decode cX12_isSort 31 = .ok (.iconst 1, 1) := by decide +kernel
theorem dX12_isSort_32 : decode cX12_isSort 32 = .ok (.goto 4, 3) := by decide +kernel
theorem dX12_isSort_35 : decode cX12_isSort 35 = .ok (.iconst 0, 1) := by decide +kernel
theorem dX12_isSort_36 : decode cX12_isSort 36 = .ok (.ireturn, 1) := by decide +kernel
def k_X12_isSort_0 (F : FT) (Q : QT) : KT := o_iload 1 (o_ic (nI 0) (o_ic (nI 3) (o_cS m_X12_within 3 (o_ifne (F 31) (o_iload 1 (o_ic (nI 10) (o_ic (nI 10) (o_aload 0 (o_getR 12 0 (o_ic (nI 142) (o_iald (o_iadd (o_ic (nI 1) (o_isub (o_cS m_X12_within 3 (o_ifeq (F 35) (F 31)))))))))))))))))
def k_X12_isSort_31 (F : FT) (Q : QT) : KT := o_ic (nI 1) (F 36)
def k_X12_isSort_35 (F : FT) (Q : QT) : KT := o_ic (nI 0) (F 36)
def k_X12_isSort_36 (F : FT) (Q : QT) : KT := o_zret Q
set_option maxRecDepth 20000 in
theorem r_X12_isSort {a0 : Nat} {a1 : Int32} {n : Nat} {R : RR} {I : II} {J : JJ} {Q : QT} (hn : n + 0 ≤ 90) (h : ∀ F : FT, al_Wk F → al_Ok F (k_X12_isSort_0 F Q) 0 → al_Ok F (k_X12_isSort_31 F Q) 31 → al_Ok F (k_X12_isSort_35 F Q) 35 → al_Ok F (k_X12_isSort_36 F Q) 36 → F 0 [some (.ref a0), some (.int a1)] [] n R I J) : CT m_X12_isSort 0 [.ref a0, .int a1] n R I J Q :=
  CT.of (by decide) hn (fun _ => rfl) (fun _ => Nat.le_of_ble_eq_true rfl) (fun F p l e s m args below meth c Rm t Q0 C hQ hr hm => h F (fun _ _ _ _ _ _ _ _ => S_wk C)
    (S_iload_n C dX12_isSort_0 rfl (S_iconst C dX12_isSort_1 (by decide +kernel) (S_iconst C dX12_isSort_2 (by decide +kernel) (S_cS C ok_X12_within (al_at 1005 (by decide +kernel) rfl) (Nat.le_of_ble_eq_true rfl) (Nat.le_of_ble_eq_true rfl) dX12_isSort_3 (S_ifne (tgt := 31) C dX12_isSort_6 (by decide) (S_iload_n C dX12_isSort_9 rfl (S_bipush C dX12_isSort_10 (by decide +kernel) (S_bipush C dX12_isSort_12 (by decide +kernel) (S_aload_n C dX12_isSort_14 rfl (S_getR (ci := 12) (j := 0) C inG12 rfl (Nat.le_of_ble_eq_true rfl) rfl (al_at 918 (by decide +kernel) rfl) dX12_isSort_15 (S_sipush C dX12_isSort_18 (by decide +kernel) (S_iald C dX12_isSort_21 (S_iadd C dX12_isSort_22 (S_iconst C dX12_isSort_23 (by decide +kernel) (S_isub C dX12_isSort_24 (S_cS C ok_X12_within (al_at 1005 (by decide +kernel) rfl) (Nat.le_of_ble_eq_true rfl) (Nat.le_of_ble_eq_true rfl) dX12_isSort_25 (S_ifeq (tgt := 35) C dX12_isSort_28 (by decide) (fun _ _ _ _ _ _ h9 => h9))))))))))))))))))
    (S_iconst C dX12_isSort_31 (by decide +kernel) (S_goto (tgt := 36) C dX12_isSort_32 (by decide)))
    (S_iconst C dX12_isSort_35 (by decide +kernel) (fun _ _ _ _ _ _ h9 => h9))
    (S_zret C hQ hr dX12_isSort_36))
theorem dX12_isSquare_0 : decode cX12_isSquare 0 = .ok (.iload_n 0, 1) := by decide +kernel
theorem dX12_isSquare_1 : decode cX12_isSquare 1 = .ok (.iconst 0, 1) := by decide +kernel
theorem dX12_isSquare_2 : decode cX12_isSquare 2 = .ok (.bipush 63, 2) := by decide +kernel
theorem dX12_isSquare_4 : decode cX12_isSquare 4 = .ok (.invokestatic 81, 3) := by decide +kernel
theorem dX12_isSquare_7 : decode cX12_isSquare 7 = .ok (.ireturn, 1) := by decide +kernel
def k_X12_isSquare_0 (F : FT) (Q : QT) : KT := o_iload 0 (o_ic (nI 0) (o_ic (nI 63) (o_cS m_X12_within 3 (o_zret Q))))
set_option maxRecDepth 20000 in
theorem r_X12_isSquare {a0 : Int32} {n : Nat} {R : RR} {I : II} {J : JJ} {Q : QT} (hn : n + 0 ≤ 90) (h : ∀ F : FT, al_Wk F → al_Ok F (k_X12_isSquare_0 F Q) 0 → F 0 [some (.int a0)] [] n R I J) : CT m_X12_isSquare 0 [.int a0] n R I J Q :=
  CT.of (by decide) hn (fun _ => rfl) (fun _ => Nat.le_of_ble_eq_true rfl) (fun F p l e s m args below meth c Rm t Q0 C hQ hr hm => h F (fun _ _ _ _ _ _ _ _ => S_wk C)
    (S_iload_n C dX12_isSquare_0 rfl (S_iconst C dX12_isSquare_1 (by decide +kernel) (S_bipush C dX12_isSquare_2 (by decide +kernel) (S_cS C ok_X12_within (al_at 1005 (by decide +kernel) rfl) (Nat.le_of_ble_eq_true rfl) (Nat.le_of_ble_eq_true rfl) dX12_isSquare_4 (S_zret C hQ hr dX12_isSquare_7))))))
