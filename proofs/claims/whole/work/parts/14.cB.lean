theorem dX8_addSaved_0 : decode cX8_addSaved 0 = .ok (.aload_n 0, 1) := by decide +kernel
theorem dX8_addSaved_1 : decode cX8_addSaved 1 = .ok (.iload_n 2, 1) := by decide +kernel
theorem dX8_addSaved_2 : decode cX8_addSaved 2 = .ok (.invokevirtual 93, 3) := by decide +kernel
theorem dX8_addSaved_5 : decode cX8_addSaved 5 = .ok (.aload_n 0, 1) := by decide +kernel
theorem dX8_addSaved_6 : decode cX8_addSaved 6 = .ok (.iload_n 2, 1) := by decide +kernel
theorem dX8_addSaved_7 : decode cX8_addSaved 7 = .ok (.invokevirtual 76, 3) := by decide +kernel
theorem dX8_addSaved_10 : decode cX8_addSaved 10 = .ok (.istore 4, 2) := by decide +kernel
theorem dX8_addSaved_12 : decode cX8_addSaved 12 = .ok (.iconst 0, 1) := by decide +kernel
theorem dX8_addSaved_13 : decode cX8_addSaved 13 = .ok (.istore 5, 2) := by decide +kernel
theorem dX8_addSaved_15 : decode cX8_addSaved 15 = .ok (.iload 5, 2) := by decide +kernel
theorem dX8_addSaved_17 : decode cX8_addSaved 17 = .ok (.bipush 64, 2) := by decide +kernel
theorem dX8_addSaved_19 : decode cX8_addSaved 19 = .ok (.if_icmp .ge 50, 3) := by decide +kernel
theorem dX8_addSaved_22 : decode cX8_addSaved 22 = .ok (.aload_n 0, 1) := by decide +kernel
theorem dX8_addSaved_23 : decode cX8_addSaved 23 = .ok (.getfield 25, 3) := by decide +kernel
theorem dX8_addSaved_26 : decode cX8_addSaved 26 = .ok (.iload 5, 2) := by decide +kernel
theorem dX8_addSaved_28 : decode cX8_addSaved 28 = .ok (.iaload, 1) := by decide +kernel
theorem dX8_addSaved_29 : decode cX8_addSaved 29 = .ok (.ifCond .le 34, 3) := by decide +kernel
theorem dX8_addSaved_32 : decode cX8_addSaved 32 = .ok (.aload_n 0, 1) := by decide +kernel
theorem dX8_addSaved_33 : decode cX8_addSaved 33 = .ok (.getfield 28, 3) := by decide +kernel
theorem dX8_addSaved_36 : decode cX8_addSaved 36 = .ok (.iload 5, 2) := by decide +kernel
theorem dX8_addSaved_38 : decode cX8_addSaved 38 = .ok (.dup2, 1) := by decide +kernel
theorem dX8_addSaved_39 : decode cX8_addSaved 39 = .ok (.iaload, 1) := by decide +kernel
theorem dX8_addSaved_40 : decode cX8_addSaved 40 = .ok (.iload_n 3, 1) := by decide +kernel
theorem dX8_addSaved_41 : decode cX8_addSaved 41 = .ok (.aload_n 0, 1) := by decide +kernel
theorem dX8_addSaved_42 : decode cX8_addSaved 42 = .ok (.getfield 9, 3) := by decide +kernel
theorem dX8_addSaved_45 : decode cX8_addSaved 45 = .ok (.iload_n 1, 1) := by decide +kernel
theorem dX8_addSaved_46 : decode cX8_addSaved 46 = .ok (.iload_n 2, 1) := by decide +kernel
theorem dX8_addSaved_47 : decode cX8_addSaved 47 = .ok (.iload 4, 2) := by decide +kernel
theorem dX8_addSaved_49 : decode cX8_addSaved 49 = .ok (.aload_n 0, 1) := by decide +kernel
theorem dX8_addSaved_50 : decode cX8_addSaved 50 = .ok (.getfield 25, 3) := by decide +kernel
theorem dX8_addSaved_53 : decode cX8_addSaved 53 = .ok (.iload 5, 2) := by decide +kernel
theorem dX8_addSaved_55 : decode cX8_addSaved 55 = .ok (.iaload, 1) := by decide +kernel
theorem dX8_addSaved_56 : decode cX8_addSaved 56 = .ok (.isub, 1) := by decide +kernel
theorem dX8_addSaved_57 : decode cX8_addSaved 57 = .ok (.invokevirtual 79, 3) := by decide +kernel
theorem dX8_addSaved_60 : decode cX8_addSaved 60 = .ok (.isub, 1) := by decide +kernel
theorem dX8_addSaved_61 : decode cX8_addSaved 61 = .ok (.iadd, 1) := by decide +kernel
theorem dX8_addSaved_62 : decode cX8_addSaved 62 = .ok (.iastore, 1) := by decide +kernel
theorem dX8_addSaved_63 : decode cX8_addSaved 63 = .ok (.iinc 5 1, 3) := by decide +kernel
theorem dX8_addSaved_66 : decode cX8_addSaved 66 = .ok (.goto (-51), 3) := by decide +kernel
theorem dX8_addSaved_69 : decode cX8_addSaved 69 = .ok (.return_, 1) := by decide +kernel
def k_X8_addSaved_0 (F : FT) (Q : QT) : KT := o_aload 0 (o_iload 2 (o_cV 8 m_X8_countLinesThroughSquares 2 (o_aload 0 (o_iload 2 (o_cV 8 m_X8_seenFrom 2 (o_istore 4 (o_ic (nI 0) (o_istore 5 (F 15)))))))))
def k_X8_addSaved_15 (F : FT) (Q : QT) : KT := o_iload 5 (o_ic (nI 64) (o_icge (F 69) (o_aload 0 (o_getR 8 2 (o_iload 5 (o_iald (o_ifle (F 63) (o_aload 0 (o_getR 8 3 (o_iload 5 (o_dup2 (o_iald (o_iload 3 (o_aload 0 (o_getR 8 0 (o_iload 1 (o_iload 2 (o_iload 4 (o_aload 0 (o_getR 8 2 (o_iload 5 (o_iald (o_isub (o_cV 9 m_X9_countIfSeen 4 (o_isub (o_iadd (o_iast (F 63))))))))))))))))))))))))))))
def k_X8_addSaved_63 (F : FT) (Q : QT) : KT := o_iinc 5 (nI 1) (F 15)
def k_X8_addSaved_69 (F : FT) (Q : QT) : KT := o_vret Q
set_option maxRecDepth 20000 in
theorem r_X8_addSaved {a0 : Nat} {a1 : Int32} {a2 : Int32} {a3 : Int32} {n : Nat} {R : RR} {I : II} {J : JJ} {Q : QT} (hn : n + 0 ≤ 90) (h : ∀ F : FT, al_Wk F → al_Ok F (k_X8_addSaved_0 F Q) 0 → al_Ok F (k_X8_addSaved_15 F Q) 15 → al_Ok F (k_X8_addSaved_63 F Q) 63 → al_Ok F (k_X8_addSaved_69 F Q) 69 → F 0 [some (.ref a0), some (.int a1), some (.int a2), some (.int a3), none, none] [] n R I J) : CT m_X8_addSaved 0 [.ref a0, .int a1, .int a2, .int a3] n R I J Q :=
  CT.of (by decide) hn (fun _ => rfl) (fun _ => Nat.le_of_ble_eq_true rfl) (fun F p l e s m args below meth c Rm t Q0 C hQ hr hm => h F (fun _ _ _ _ _ _ _ _ => S_wk C)
    (S_aload_n C dX8_addSaved_0 rfl (S_iload_n C dX8_addSaved_1 rfl (S_cV (ci := 8) C ok_X8_countLinesThroughSquares rfl (al_at 571 (by decide +kernel) rfl) (Nat.le_of_ble_eq_true rfl) (Nat.le_of_ble_eq_true rfl) dX8_addSaved_2 (S_aload_n C dX8_addSaved_5 rfl (S_iload_n C dX8_addSaved_6 rfl (S_cV (ci := 8) C ok_X8_seenFrom rfl (al_at 398 (by decide +kernel) rfl) (Nat.le_of_ble_eq_true rfl) (Nat.le_of_ble_eq_true rfl) dX8_addSaved_7 (S_istore C dX8_addSaved_10 (Nat.le_of_ble_eq_true rfl) (S_iconst C dX8_addSaved_12 (by decide +kernel) (S_istore C dX8_addSaved_13 (Nat.le_of_ble_eq_true rfl) (fun _ _ _ _ _ _ h9 => h9))))))))))
    (S_iload C dX8_addSaved_15 (S_bipush C dX8_addSaved_17 (by decide +kernel) (S_icmpge (tgt := 69) C dX8_addSaved_19 (by decide) (S_aload_n C dX8_addSaved_22 rfl (S_getR (ci := 8) (j := 2) C inG8 rfl (Nat.le_of_ble_eq_true rfl) rfl (al_at 211 (by decide +kernel) rfl) dX8_addSaved_23 (S_iload C dX8_addSaved_26 (S_iald C dX8_addSaved_28 (S_ifle (tgt := 63) C dX8_addSaved_29 (by decide) (S_aload_n C dX8_addSaved_32 rfl (S_getR (ci := 8) (j := 3) C inG8 rfl (Nat.le_of_ble_eq_true rfl) rfl (al_at 212 (by decide +kernel) rfl) dX8_addSaved_33 (S_iload C dX8_addSaved_36 (S_dup2 C dX8_addSaved_38 (S_iald C dX8_addSaved_39 (S_iload_n C dX8_addSaved_40 rfl (S_aload_n C dX8_addSaved_41 rfl (S_getR (ci := 8) (j := 0) C inG8 rfl (Nat.le_of_ble_eq_true rfl) rfl (al_at 209 (by decide +kernel) rfl) dX8_addSaved_42 (S_iload_n C dX8_addSaved_45 rfl (S_iload_n C dX8_addSaved_46 rfl (S_iload C dX8_addSaved_47 (S_aload_n C dX8_addSaved_49 rfl (S_getR (ci := 8) (j := 2) C inG8 rfl (Nat.le_of_ble_eq_true rfl) rfl (al_at 211 (by decide +kernel) rfl) dX8_addSaved_50 (S_iload C dX8_addSaved_53 (S_iald C dX8_addSaved_55 (S_isub C dX8_addSaved_56 (S_cV (ci := 9) C ok_X9_countIfSeen rfl (al_at 416 (by decide +kernel) rfl) (Nat.le_of_ble_eq_true rfl) (Nat.le_of_ble_eq_true rfl) dX8_addSaved_57 (S_isub C dX8_addSaved_60 (S_iadd C dX8_addSaved_61 (S_iast C dX8_addSaved_62 (fun _ _ _ _ _ _ h9 => h9)))))))))))))))))))))))))))))
    (S_iinc C dX8_addSaved_63 (by decide +kernel) (Nat.le_of_ble_eq_true rfl) (S_goto (tgt := 15) C dX8_addSaved_66 (by decide)))
    (S_vret C hQ hr dX8_addSaved_69))
theorem dX8_bestShed_0 : decode cX8_bestShed 0 = .ok (.aload_n 0, 1) := by decide +kernel
theorem dX8_bestShed_1 : decode cX8_bestShed 1 = .ok (.getfield 28, 3) := by decide +kernel
theorem dX8_bestShed_4 : decode cX8_bestShed 4 = .ok (.iconst 0, 1) := by decide +kernel
theorem dX8_bestShed_5 : decode cX8_bestShed 5 = .ok (.invokestatic 19, 3) := by decide +kernel
theorem dX8_bestShed_8 : decode cX8_bestShed 8 = .ok (.iconst 0, 1) := by decide +kernel
theorem dX8_bestShed_9 : decode cX8_bestShed 9 = .ok (.istore_n 2, 1) := by decide +kernel
theorem dX8_bestShed_10 : decode cX8_bestShed 10 = .ok (.iload_n 2, 1) := by decide +kernel
theorem dX8_bestShed_11 : decode cX8_bestShed 11 = .ok (.bipush 81, 2) := by decide +kernel
theorem dX8_bestShed_13 : decode cX8_bestShed 13 = .ok (.if_icmp .ge 27, 3) := by decide +kernel
theorem dX8_bestShed_16 : decode cX8_bestShed 16 = .ok (.aload_n 0, 1) := by decide +kernel
theorem dX8_bestShed_17 : decode cX8_bestShed 17 = .ok (.iload_n 1, 1) := by decide +kernel
theorem dX8_bestShed_18 : decode cX8_bestShed 18 = .ok (.iload_n 2, 1) := by decide +kernel
theorem dX8_bestShed_19 : decode cX8_bestShed 19 = .ok (.invokevirtual 83, 3) := by decide +kernel
theorem dX8_bestShed_22 : decode cX8_bestShed 22 = .ok (.istore_n 3, 1) := by decide +kernel
theorem dX8_bestShed_23 : decode cX8_bestShed 23 = .ok (.iload_n 3, 1) := by decide +kernel
theorem dX8_bestShed_24 : decode cX8_bestShed 24 = .ok (.ifCond .le 10, 3) := by decide +kernel
theorem dX8_bestShed_27 : decode cX8_bestShed 27 = .ok (.aload_n 0, 1) := by decide +kernel
theorem dX8_bestShed_28 : decode cX8_bestShed 28 = .ok (.iload_n 1, 1) := by decide +kernel
theorem dX8_bestShed_29 : decode cX8_bestShed 29 = .ok (.iload_n 2, 1) := by decide +kernel
theorem dX8_bestShed_30 : decode cX8_bestShed 30 = .ok (.iload_n 3, 1) := by decide +kernel
theorem dX8_bestShed_31 : decode cX8_bestShed 31 = .ok (.invokevirtual 86, 3) := by decide +kernel
theorem dX8_bestShed_34 : decode cX8_bestShed 34 = .ok (.iinc 2 1, 3) := by decide +kernel
theorem dX8_bestShed_37 : decode cX8_bestShed 37 = .ok (.goto (-27), 3) := by decide +kernel
theorem dX8_bestShed_40 : decode cX8_bestShed 40 = .ok (.iconst (-1), 1) := by decide +kernel
theorem dX8_bestShed_41 : decode cX8_bestShed 41 = .ok (.istore_n 2, 1) := by decide +kernel
theorem dX8_bestShed_42 : decode cX8_bestShed 42 = .ok (.iconst 0, 1) := by decide +kernel
theorem dX8_bestShed_43 : decode cX8_bestShed 43 = .ok (.istore_n 3, 1) := by decide +kernel
theorem dX8_bestShed_44 : decode cX8_bestShed 44 = .ok (.iconst 0, 1) := by decide +kernel
theorem dX8_bestShed_45 : decode cX8_bestShed 45 = .ok (.istore 4, 2) := by decide +kernel
theorem dX8_bestShed_47 : decode cX8_bestShed 47 = .ok (.iload 4, 2) := by decide +kernel
theorem dX8_bestShed_49 : decode cX8_bestShed 49 = .ok (.bipush 64, 2) := by decide +kernel
theorem dX8_bestShed_51 : decode cX8_bestShed 51 = .ok (.if_icmp .ge 44, 3) := by decide +kernel
theorem dX8_bestShed_54 : decode cX8_bestShed 54 = .ok (.aload_n 0, 1) := by decide +kernel
theorem dX8_bestShed_55 : decode cX8_bestShed 55 = .ok (.getfield 9, 3) := by decide +kernel
theorem dX8_bestShed_58 : decode cX8_bestShed 58 = .ok (.getfield 90, 3) := by decide +kernel
theorem dX8_bestShed_61 : decode cX8_bestShed 61 = .ok (.iload 4, 2) := by decide +kernel
theorem dX8_bestShed_63 : decode cX8_bestShed 63 = .ok (.iaload, 1) := by decide +kernel
theorem dX8_bestShed_64 : decode cX8_bestShed 64 = .ok (.ifCond .ne 25, 3) := by decide +kernel
theorem dX8_bestShed_67 : decode cX8_bestShed 67 = .ok (.aload_n 0, 1) := by decide +kernel
theorem dX8_bestShed_68 : decode cX8_bestShed 68 = .ok (.getfield 28, 3) := by decide +kernel
theorem dX8_bestShed_71 : decode cX8_bestShed 71 = .ok (.iload 4, 2) := by decide +kernel
theorem dX8_bestShed_73 : decode cX8_bestShed 73 = .ok (.iaload, 1) := by decide +kernel
theorem dX8_bestShed_74 : decode cX8_bestShed 74 = .ok (.iload_n 3, 1) := by decide +kernel
theorem dX8_bestShed_75 : decode cX8_bestShed 75 = .ok (.if_icmp .le 14, 3) := by decide +kernel
theorem dX8_bestShed_78 : decode cX8_bestShed 78 = .ok (.aload_n 0, 1) := by decide +kernel
theorem dX8_bestShed_79 : decode cX8_bestShed 79 = .ok (.getfield 28, 3) := by decide +kernel
theorem dX8_bestShed_82 : decode cX8_bestShed 82 = .ok (.iload 4, 2) := by decide +kernel
theorem dX8_bestShed_84 : decode cX8_bestShed 84 = .ok (.iaload, 1) := by decide +kernel
theorem dX8_bestShed_85 : decode cX8_bestShed 85 = .ok (.istore_n 3, 1) := by decide +kernel
theorem dX8_bestShed_86 : decode cX8_bestShed 86 = .ok (.iload 4, 2) := by decide +kernel
theorem dX8_bestShed_88 : decode cX8_bestShed 88 = .ok (.istore_n 2, 1) := by decide +kernel
theorem dX8_bestShed_89 : decode cX8_bestShed 89 = .ok (.iinc 4 1, 3) := by decide +kernel
theorem dX8_bestShed_92 : decode cX8_bestShed 92 = .ok (.goto (-45), 3) := by decide +kernel
theorem dX8_bestShed_95 : decode cX8_bestShed 95 = .ok (.iload_n 2, 1) := by decide +kernel
theorem dX8_bestShed_96 : decode cX8_bestShed 96 = .ok (.ireturn, 1) := by decide +kernel
def k_X8_bestShed_0 (F : FT) (Q : QT) : KT := o_aload 0 (o_getR 8 3 (o_ic (nI 0) (o_cS m_J7_fill_53178 2 (o_ic (nI 0) (o_istore 2 (F 10))))))
def k_X8_bestShed_10 (F : FT) (Q : QT) : KT := o_iload 2 (o_ic (nI 81) (o_icge (F 40) (o_aload 0 (o_iload 1 (o_iload 2 (o_cV 8 m_X8_countOf 3 (o_istore 3 (o_iload 3 (o_ifle (F 34) (o_aload 0 (o_iload 1 (o_iload 2 (o_iload 3 (o_cV 8 m_X8_addSaved 4 (F 34)))))))))))))))
def k_X8_bestShed_34 (F : FT) (Q : QT) : KT := o_iinc 2 (nI 1) (F 10)
def k_X8_bestShed_40 (F : FT) (Q : QT) : KT := o_ic (-1) (o_istore 2 (o_ic (nI 0) (o_istore 3 (o_ic (nI 0) (o_istore 4 (F 47))))))
def k_X8_bestShed_47 (F : FT) (Q : QT) : KT := o_iload 4 (o_ic (nI 64) (o_icge (F 95) (o_aload 0 (o_getR 8 0 (o_getR 9 1 (o_iload 4 (o_iald (o_ifne (F 89) (o_aload 0 (o_getR 8 3 (o_iload 4 (o_iald (o_iload 3 (o_icle (F 89) (o_aload 0 (o_getR 8 3 (o_iload 4 (o_iald (o_istore 3 (o_iload 4 (o_istore 2 (F 89))))))))))))))))))))))
def k_X8_bestShed_89 (F : FT) (Q : QT) : KT := o_iinc 4 (nI 1) (F 47)
def k_X8_bestShed_95 (F : FT) (Q : QT) : KT := o_iload 2 (o_iret Q)
set_option maxRecDepth 20000 in
theorem r_X8_bestShed {a0 : Nat} {a1 : Int32} {n : Nat} {R : RR} {I : II} {J : JJ} {Q : QT} (hn : n + 0 ≤ 90) (h : ∀ F : FT, al_Wk F → al_Ok F (k_X8_bestShed_0 F Q) 0 → al_Ok F (k_X8_bestShed_10 F Q) 10 → al_Ok F (k_X8_bestShed_34 F Q) 34 → al_Ok F (k_X8_bestShed_40 F Q) 40 → al_Ok F (k_X8_bestShed_47 F Q) 47 → al_Ok F (k_X8_bestShed_89 F Q) 89 → al_Ok F (k_X8_bestShed_95 F Q) 95 → F 0 [some (.ref a0), some (.int a1), none, none, none] [] n R I J) : CT m_X8_bestShed 0 [.ref a0, .int a1] n R I J Q :=
  CT.of (by decide) hn (fun _ => rfl) (fun _ => Nat.le_of_ble_eq_true rfl) (fun F p l e s m args below meth c Rm t Q0 C hQ hr hm => h F (fun _ _ _ _ _ _ _ _ => S_wk C)
    (S_aload_n C dX8_bestShed_0 rfl (S_getR (ci := 8) (j := 3) C inG8 rfl (Nat.le_of_ble_eq_true rfl) rfl (al_at 212 (by decide +kernel) rfl) dX8_bestShed_1 (S_iconst C dX8_bestShed_4 (by decide +kernel) (S_cS C ok_J7_fill_53178 (al_at 206 (by decide +kernel) rfl) (Nat.le_of_ble_eq_true rfl) (Nat.le_of_ble_eq_true rfl) dX8_bestShed_5 (S_iconst C dX8_bestShed_8 (by decide +kernel) (S_istore_n C dX8_bestShed_9 rfl (Nat.le_of_ble_eq_true rfl) (fun _ _ _ _ _ _ h9 => h9)))))))
    (S_iload_n C dX8_bestShed_10 rfl (S_bipush C dX8_bestShed_11 (by decide +kernel) (S_icmpge (tgt := 40) C dX8_bestShed_13 (by decide) (S_aload_n C dX8_bestShed_16 rfl (S_iload_n C dX8_bestShed_17 rfl (S_iload_n C dX8_bestShed_18 rfl (S_cV (ci := 8) C ok_X8_countOf rfl (al_at 566 (by decide +kernel) rfl) (Nat.le_of_ble_eq_true rfl) (Nat.le_of_ble_eq_true rfl) dX8_bestShed_19 (S_istore_n C dX8_bestShed_22 rfl (Nat.le_of_ble_eq_true rfl) (S_iload_n C dX8_bestShed_23 rfl (S_ifle (tgt := 34) C dX8_bestShed_24 (by decide) (S_aload_n C dX8_bestShed_27 rfl (S_iload_n C dX8_bestShed_28 rfl (S_iload_n C dX8_bestShed_29 rfl (S_iload_n C dX8_bestShed_30 rfl (S_cV (ci := 8) C ok_X8_addSaved rfl (al_at 567 (by decide +kernel) rfl) (Nat.le_of_ble_eq_true rfl) (Nat.le_of_ble_eq_true rfl) dX8_bestShed_31 (fun _ _ _ _ _ _ h9 => h9))))))))))))))))
    (S_iinc C dX8_bestShed_34 (by decide +kernel) (Nat.le_of_ble_eq_true rfl) (S_goto (tgt := 10) C dX8_bestShed_37 (by decide)))
    (S_iconst C dX8_bestShed_40 (by decide +kernel) (S_istore_n C dX8_bestShed_41 rfl (Nat.le_of_ble_eq_true rfl) (S_iconst C dX8_bestShed_42 (by decide +kernel) (S_istore_n C dX8_bestShed_43 rfl (Nat.le_of_ble_eq_true rfl) (S_iconst C dX8_bestShed_44 (by decide +kernel) (S_istore C dX8_bestShed_45 (Nat.le_of_ble_eq_true rfl) (fun _ _ _ _ _ _ h9 => h9)))))))
    (S_iload C dX8_bestShed_47 (S_bipush C dX8_bestShed_49 (by decide +kernel) (S_icmpge (tgt := 95) C dX8_bestShed_51 (by decide) (S_aload_n C dX8_bestShed_54 rfl (S_getR (ci := 8) (j := 0) C inG8 rfl (Nat.le_of_ble_eq_true rfl) rfl (al_at 209 (by decide +kernel) rfl) dX8_bestShed_55 (S_getR (ci := 9) (j := 1) C inG9 rfl (Nat.le_of_ble_eq_true rfl) rfl (al_at 176 (by decide +kernel) rfl) dX8_bestShed_58 (S_iload C dX8_bestShed_61 (S_iald C dX8_bestShed_63 (S_ifne (tgt := 89) C dX8_bestShed_64 (by decide) (S_aload_n C dX8_bestShed_67 rfl (S_getR (ci := 8) (j := 3) C inG8 rfl (Nat.le_of_ble_eq_true rfl) rfl (al_at 212 (by decide +kernel) rfl) dX8_bestShed_68 (S_iload C dX8_bestShed_71 (S_iald C dX8_bestShed_73 (S_iload_n C dX8_bestShed_74 rfl (S_icmple (tgt := 89) C dX8_bestShed_75 (by decide) (S_aload_n C dX8_bestShed_78 rfl (S_getR (ci := 8) (j := 3) C inG8 rfl (Nat.le_of_ble_eq_true rfl) rfl (al_at 212 (by decide +kernel) rfl) dX8_bestShed_79 (S_iload C dX8_bestShed_82 (S_iald C dX8_bestShed_84 (S_istore_n C dX8_bestShed_85 rfl (Nat.le_of_ble_eq_true rfl) (S_iload C dX8_bestShed_86 (S_istore_n C dX8_bestShed_88 rfl (Nat.le_of_ble_eq_true rfl) (fun _ _ _ _ _ _ h9 => h9)))))))))))))))))))))))
    (S_iinc C dX8_bestShed_89 (by decide +kernel) (Nat.le_of_ble_eq_true rfl) (S_goto (tgt := 47) C dX8_bestShed_92 (by decide)))
    (S_iload_n C dX8_bestShed_95 rfl (S_iret C hQ hr dX8_bestShed_96)))
theorem dX8_countLinesThroughSquares_0 : decode cX8_countLinesThroughSquares 0 = .ok (.aload_n 0, 1) := by decide +kernel
theorem dX8_countLinesThroughSquares_1 : decode cX8_countLinesThroughSquares 1 = .ok (.getfield 25, 3) := by decide +kernel
theorem dX8_countLinesThroughSquares_4 : decode cX8_countLinesThroughSquares 4 = .ok (.iconst 0, 1) := by decide +kernel
theorem dX8_countLinesThroughSquares_5 : decode cX8_countLinesThroughSquares 5 = .ok (.invokestatic 19, 3) := by decide +kernel
theorem dX8_countLinesThroughSquares_8 : decode cX8_countLinesThroughSquares 8 = .ok (.iconst 0, 1) := by decide +kernel
theorem dX8_countLinesThroughSquares_9 : decode cX8_countLinesThroughSquares 9 = .ok (.istore_n 2, 1) := by decide +kernel
theorem dX8_countLinesThroughSquares_10 : decode cX8_countLinesThroughSquares 10 = .ok (.iload_n 2, 1) := by decide +kernel
theorem dX8_countLinesThroughSquares_11 : decode cX8_countLinesThroughSquares 11 = .ok (.bipush 64, 2) := by decide +kernel
theorem dX8_countLinesThroughSquares_13 : decode cX8_countLinesThroughSquares 13 = .ok (.if_icmp .ge 42, 3) := by decide +kernel
theorem dX8_countLinesThroughSquares_16 : decode cX8_countLinesThroughSquares 16 = .ok (.aload_n 0, 1) := by decide +kernel
theorem dX8_countLinesThroughSquares_17 : decode cX8_countLinesThroughSquares 17 = .ok (.iload_n 2, 1) := by decide +kernel
theorem dX8_countLinesThroughSquares_18 : decode cX8_countLinesThroughSquares 18 = .ok (.invokevirtual 64, 3) := by decide +kernel
theorem dX8_countLinesThroughSquares_21 : decode cX8_countLinesThroughSquares 21 = .ok (.ifCond .eq 28, 3) := by decide +kernel
theorem dX8_countLinesThroughSquares_24 : decode cX8_countLinesThroughSquares 24 = .ok (.iload_n 2, 1) := by decide +kernel
theorem dX8_countLinesThroughSquares_25 : decode cX8_countLinesThroughSquares 25 = .ok (.iload_n 1, 1) := by decide +kernel
theorem dX8_countLinesThroughSquares_26 : decode cX8_countLinesThroughSquares 26 = .ok (.invokestatic 51, 3) := by decide +kernel
theorem dX8_countLinesThroughSquares_29 : decode cX8_countLinesThroughSquares 29 = .ok (.lstore_n 3, 1) := by decide +kernel
theorem dX8_countLinesThroughSquares_30 : decode cX8_countLinesThroughSquares 30 = .ok (.lload_n 3, 1) := by decide +kernel
theorem dX8_countLinesThroughSquares_31 : decode cX8_countLinesThroughSquares 31 = .ok (.aload_n 0, 1) := by decide +kernel
theorem dX8_countLinesThroughSquares_32 : decode cX8_countLinesThroughSquares 32 = .ok (.getfield 9, 3) := by decide +kernel
theorem dX8_countLinesThroughSquares_35 : decode cX8_countLinesThroughSquares 35 = .ok (.getfield 55, 3) := by decide +kernel
theorem dX8_countLinesThroughSquares_38 : decode cX8_countLinesThroughSquares 38 = .ok (.land, 1) := by decide +kernel
theorem dX8_countLinesThroughSquares_39 : decode cX8_countLinesThroughSquares 39 = .ok (.lconst 0, 1) := by decide +kernel
theorem dX8_countLinesThroughSquares_40 : decode cX8_countLinesThroughSquares 40 = .ok (.lcmp, 1) := by decide +kernel
theorem dX8_countLinesThroughSquares_41 : decode cX8_countLinesThroughSquares 41 = .ok (.ifCond .ne 8, 3) := by decide +kernel
theorem dX8_countLinesThroughSquares_44 : decode cX8_countLinesThroughSquares 44 = .ok (.aload_n 0, 1) := by decide +kernel
theorem dX8_countLinesThroughSquares_45 : decode cX8_countLinesThroughSquares 45 = .ok (.lload_n 3, 1) := by decide +kernel
theorem dX8_countLinesThroughSquares_46 : decode cX8_countLinesThroughSquares 46 = .ok (.invokevirtual 97, 3) := by decide +kernel
theorem dX8_countLinesThroughSquares_49 : decode cX8_countLinesThroughSquares 49 = .ok (.iinc 2 1, 3) := by decide +kernel
theorem dX8_countLinesThroughSquares_52 : decode cX8_countLinesThroughSquares 52 = .ok (.goto (-42), 3) := by decide +kernel
theorem dX8_countLinesThroughSquares_55 : decode cX8_countLinesThroughSquares 55 = .ok (.return_, 1) := by decide +kernel
def k_X8_countLinesThroughSquares_0 (F : FT) (Q : QT) : KT := o_aload 0 (o_getR 8 2 (o_ic (nI 0) (o_cS m_J7_fill_53178 2 (o_ic (nI 0) (o_istore 2 (F 10))))))
def k_X8_countLinesThroughSquares_10 (F : FT) (Q : QT) : KT := o_iload 2 (o_ic (nI 64) (o_icge (F 55) (o_aload 0 (o_iload 2 (o_cV 8 m_X8_isStreet 2 (o_ifeq (F 49) (o_iload 2 (o_iload 1 (o_cS m_X8_lineOf 2 (o_lstore 3 (o_lload 3 (o_aload 0 (o_getR 8 0 (o_getJ 9 5 (o_land (o_lc (lN 0) (o_lcmp (o_ifne (F 49) (o_aload 0 (o_lload 3 (o_cV 8 m_X8_countSquaresOf 2 (F 49))))))))))))))))))))))
def k_X8_countLinesThroughSquares_49 (F : FT) (Q : QT) : KT := o_iinc 2 (nI 1) (F 10)
def k_X8_countLinesThroughSquares_55 (F : FT) (Q : QT) : KT := o_vret Q
set_option maxRecDepth 20000 in
theorem r_X8_countLinesThroughSquares {a0 : Nat} {a1 : Int32} {n : Nat} {R : RR} {I : II} {J : JJ} {Q : QT} (hn : n + 0 ≤ 90) (h : ∀ F : FT, al_Wk F → al_Ok F (k_X8_countLinesThroughSquares_0 F Q) 0 → al_Ok F (k_X8_countLinesThroughSquares_10 F Q) 10 → al_Ok F (k_X8_countLinesThroughSquares_49 F Q) 49 → al_Ok F (k_X8_countLinesThroughSquares_55 F Q) 55 → F 0 [some (.ref a0), some (.int a1), none, none, none] [] n R I J) : CT m_X8_countLinesThroughSquares 0 [.ref a0, .int a1] n R I J Q :=
  CT.of (by decide) hn (fun _ => rfl) (fun _ => Nat.le_of_ble_eq_true rfl) (fun F p l e s m args below meth c Rm t Q0 C hQ hr hm => h F (fun _ _ _ _ _ _ _ _ => S_wk C)
    (S_aload_n C dX8_countLinesThroughSquares_0 rfl (S_getR (ci := 8) (j := 2) C inG8 rfl (Nat.le_of_ble_eq_true rfl) rfl (al_at 211 (by decide +kernel) rfl) dX8_countLinesThroughSquares_1 (S_iconst C dX8_countLinesThroughSquares_4 (by decide +kernel) (S_cS C ok_J7_fill_53178 (al_at 206 (by decide +kernel) rfl) (Nat.le_of_ble_eq_true rfl) (Nat.le_of_ble_eq_true rfl) dX8_countLinesThroughSquares_5 (S_iconst C dX8_countLinesThroughSquares_8 (by decide +kernel) (S_istore_n C dX8_countLinesThroughSquares_9 rfl (Nat.le_of_ble_eq_true rfl) (fun _ _ _ _ _ _ h9 => h9)))))))
    (S_iload_n C dX8_countLinesThroughSquares_10 rfl (S_bipush C dX8_countLinesThroughSquares_11 (by decide +kernel) (S_icmpge (tgt := 55) C dX8_countLinesThroughSquares_13 (by decide) (S_aload_n C dX8_countLinesThroughSquares_16 rfl (S_iload_n C dX8_countLinesThroughSquares_17 rfl (S_cV (ci := 8) C ok_X8_isStreet rfl (al_at 402 (by decide +kernel) rfl) (Nat.le_of_ble_eq_true rfl) (Nat.le_of_ble_eq_true rfl) dX8_countLinesThroughSquares_18 (S_ifeq (tgt := 49) C dX8_countLinesThroughSquares_21 (by decide) (S_iload_n C dX8_countLinesThroughSquares_24 rfl (S_iload_n C dX8_countLinesThroughSquares_25 rfl (S_cS C ok_X8_lineOf (al_at 410 (by decide +kernel) rfl) (Nat.le_of_ble_eq_true rfl) (Nat.le_of_ble_eq_true rfl) dX8_countLinesThroughSquares_26 (S_lstore_n C dX8_countLinesThroughSquares_29 rfl (Nat.le_of_ble_eq_true rfl) (S_lload_n C dX8_countLinesThroughSquares_30 rfl (S_aload_n C dX8_countLinesThroughSquares_31 rfl (S_getR (ci := 8) (j := 0) C inG8 rfl (Nat.le_of_ble_eq_true rfl) rfl (al_at 209 (by decide +kernel) rfl) dX8_countLinesThroughSquares_32 (S_getJ (ci := 9) (j := 5) C inG9 rfl (Nat.le_of_ble_eq_true rfl) rfl (al_at 186 (by decide +kernel) rfl) dX8_countLinesThroughSquares_35 (S_land C dX8_countLinesThroughSquares_38 (S_lconst C dX8_countLinesThroughSquares_39 (by decide +kernel) (S_lcmp C dX8_countLinesThroughSquares_40 (S_ifne (tgt := 49) C dX8_countLinesThroughSquares_41 (by decide) (S_aload_n C dX8_countLinesThroughSquares_44 rfl (S_lload_n C dX8_countLinesThroughSquares_45 rfl (S_cV (ci := 8) C ok_X8_countSquaresOf rfl (al_at 575 (by decide +kernel) rfl) (Nat.le_of_ble_eq_true rfl) (Nat.le_of_ble_eq_true rfl) dX8_countLinesThroughSquares_46 (fun _ _ _ _ _ _ h9 => h9)))))))))))))))))))))))
    (S_iinc C dX8_countLinesThroughSquares_49 (by decide +kernel) (Nat.le_of_ble_eq_true rfl) (S_goto (tgt := 10) C dX8_countLinesThroughSquares_52 (by decide)))
    (S_vret C hQ hr dX8_countLinesThroughSquares_55))
theorem dX8_countOf_0 : decode cX8_countOf 0 = .ok (.aload_n 0, 1) := by decide +kernel
theorem dX8_countOf_1 : decode cX8_countOf 1 = .ok (.getfield 9, 3) := by decide +kernel
theorem dX8_countOf_4 : decode cX8_countOf 4 = .ok (.iload_n 1, 1) := by decide +kernel
theorem dX8_countOf_5 : decode cX8_countOf 5 = .ok (.iload_n 2, 1) := by decide +kernel
theorem dX8_countOf_6 : decode cX8_countOf 6 = .ok (.invokevirtual 72, 3) := by decide +kernel
theorem dX8_countOf_9 : decode cX8_countOf 9 = .ok (.ifCond .ne 5, 3) := by decide +kernel
theorem dX8_countOf_12 : decode cX8_countOf 12 = .ok (.iconst 0, 1) := by decide +kernel
theorem dX8_countOf_13 : decode cX8_countOf 13 = .ok (.ireturn, 1) := by decide +kernel
theorem dX8_countOf_14 : decode cX8_countOf 14 = .ok (.aload_n 0, 1) := by decide +kernel
theorem dX8_countOf_15 : decode cX8_countOf 15 = .ok (.getfield 9, 3) := by decide +kernel
theorem dX8_countOf_18 : decode cX8_countOf 18 = .ok (.iload_n 1, 1) := by decide +kernel
theorem dX8_countOf_19 : decode cX8_countOf 19 = .ok (.iload_n 2, 1) := by decide +kernel
theorem dX8_countOf_20 : decode cX8_countOf 20 = .ok (.aload_n 0, 1) := by decide +kernel
theorem dX8_countOf_21 : decode cX8_countOf 21 = .ok (.iload_n 2, 1) := by decide +kernel
theorem dX8_countOf_22 : decode cX8_countOf 22 = .ok (.invokevirtual 76, 3) := by decide +kernel
theorem dX8_countOf_25 : decode cX8_countOf 25 = .ok (.invokevirtual 79, 3) := by decide +kernel
theorem dX8_countOf_28 : decode cX8_countOf 28 = .ok (.ireturn, 1) := by decide +kernel
def k_X8_countOf_0 (F : FT) (Q : QT) : KT := o_aload 0 (o_getR 8 0 (o_iload 1 (o_iload 2 (o_cV 9 m_X9_shapeAt 3 (o_ifne (F 14) (o_ic (nI 0) (o_iret Q)))))))
def k_X8_countOf_14 (F : FT) (Q : QT) : KT := o_aload 0 (o_getR 8 0 (o_iload 1 (o_iload 2 (o_aload 0 (o_iload 2 (o_cV 8 m_X8_seenFrom 2 (o_cV 9 m_X9_countIfSeen 4 (o_iret Q))))))))
set_option maxRecDepth 20000 in
theorem r_X8_countOf {a0 : Nat} {a1 : Int32} {a2 : Int32} {n : Nat} {R : RR} {I : II} {J : JJ} {Q : QT} (hn : n + 0 ≤ 90) (h : ∀ F : FT, al_Wk F → al_Ok F (k_X8_countOf_0 F Q) 0 → al_Ok F (k_X8_countOf_14 F Q) 14 → F 0 [some (.ref a0), some (.int a1), some (.int a2)] [] n R I J) : CT m_X8_countOf 0 [.ref a0, .int a1, .int a2] n R I J Q :=
  CT.of (by decide) hn (fun _ => rfl) (fun _ => Nat.le_of_ble_eq_true rfl) (fun F p l e s m args below meth c Rm t Q0 C hQ hr hm => h F (fun _ _ _ _ _ _ _ _ => S_wk C)
    (S_aload_n C dX8_countOf_0 rfl (S_getR (ci := 8) (j := 0) C inG8 rfl (Nat.le_of_ble_eq_true rfl) rfl (al_at 209 (by decide +kernel) rfl) dX8_countOf_1 (S_iload_n C dX8_countOf_4 rfl (S_iload_n C dX8_countOf_5 rfl (S_cV (ci := 9) C ok_X9_shapeAt rfl (al_at 397 (by decide +kernel) rfl) (Nat.le_of_ble_eq_true rfl) (Nat.le_of_ble_eq_true rfl) dX8_countOf_6 (S_ifne (tgt := 14) C dX8_countOf_9 (by decide) (S_iconst C dX8_countOf_12 (by decide +kernel) (S_iret C hQ hr dX8_countOf_13))))))))
    (S_aload_n C dX8_countOf_14 rfl (S_getR (ci := 8) (j := 0) C inG8 rfl (Nat.le_of_ble_eq_true rfl) rfl (al_at 209 (by decide +kernel) rfl) dX8_countOf_15 (S_iload_n C dX8_countOf_18 rfl (S_iload_n C dX8_countOf_19 rfl (S_aload_n C dX8_countOf_20 rfl (S_iload_n C dX8_countOf_21 rfl (S_cV (ci := 8) C ok_X8_seenFrom rfl (al_at 398 (by decide +kernel) rfl) (Nat.le_of_ble_eq_true rfl) (Nat.le_of_ble_eq_true rfl) dX8_countOf_22 (S_cV (ci := 9) C ok_X9_countIfSeen rfl (al_at 416 (by decide +kernel) rfl) (Nat.le_of_ble_eq_true rfl) (Nat.le_of_ble_eq_true rfl) dX8_countOf_25 (S_iret C hQ hr dX8_countOf_28))))))))))
theorem dX8_countSquaresOf_0 : decode cX8_countSquaresOf 0 = .ok (.iconst 0, 1) := by decide +kernel
theorem dX8_countSquaresOf_1 : decode cX8_countSquaresOf 1 = .ok (.istore_n 3, 1) := by decide +kernel
theorem dX8_countSquaresOf_2 : decode cX8_countSquaresOf 2 = .ok (.iload_n 3, 1) := by decide +kernel
theorem dX8_countSquaresOf_3 : decode cX8_countSquaresOf 3 = .ok (.bipush 64, 2) := by decide +kernel
theorem dX8_countSquaresOf_5 : decode cX8_countSquaresOf 5 = .ok (.if_icmp .ge 24, 3) := by decide +kernel
theorem dX8_countSquaresOf_8 : decode cX8_countSquaresOf 8 = .ok (.aload_n 0, 1) := by decide +kernel
theorem dX8_countSquaresOf_9 : decode cX8_countSquaresOf 9 = .ok (.getfield 25, 3) := by decide +kernel
theorem dX8_countSquaresOf_12 : decode cX8_countSquaresOf 12 = .ok (.iload_n 3, 1) := by decide +kernel
theorem dX8_countSquaresOf_13 : decode cX8_countSquaresOf 13 = .ok (.dup2, 1) := by decide +kernel
theorem dX8_countSquaresOf_14 : decode cX8_countSquaresOf 14 = .ok (.iaload, 1) := by decide +kernel
theorem dX8_countSquaresOf_15 : decode cX8_countSquaresOf 15 = .ok (.lload_n 1, 1) := by decide +kernel
theorem dX8_countSquaresOf_16 : decode cX8_countSquaresOf 16 = .ok (.iload_n 3, 1) := by decide +kernel
theorem dX8_countSquaresOf_17 : decode cX8_countSquaresOf 17 = .ok (.lshr, 1) := by decide +kernel
theorem dX8_countSquaresOf_18 : decode cX8_countSquaresOf 18 = .ok (.lconst 1, 1) := by decide +kernel
theorem dX8_countSquaresOf_19 : decode cX8_countSquaresOf 19 = .ok (.land, 1) := by decide +kernel
theorem dX8_countSquaresOf_20 : decode cX8_countSquaresOf 20 = .ok (.l2i, 1) := by decide +kernel
theorem dX8_countSquaresOf_21 : decode cX8_countSquaresOf 21 = .ok (.iadd, 1) := by decide +kernel
theorem dX8_countSquaresOf_22 : decode cX8_countSquaresOf 22 = .ok (.iastore, 1) := by decide +kernel
theorem dX8_countSquaresOf_23 : decode cX8_countSquaresOf 23 = .ok (.iinc 3 1, 3) := by decide +kernel
theorem dX8_countSquaresOf_26 : decode cX8_countSquaresOf 26 = .ok (.goto (-24), 3) := by decide +kernel
theorem dX8_countSquaresOf_29 : decode cX8_countSquaresOf 29 = .ok (.return_, 1) := by decide +kernel
def k_X8_countSquaresOf_0 (F : FT) (Q : QT) : KT := o_ic (nI 0) (o_istore 3 (F 2))
def k_X8_countSquaresOf_2 (F : FT) (Q : QT) : KT := o_iload 3 (o_ic (nI 64) (o_icge (F 29) (o_aload 0 (o_getR 8 2 (o_iload 3 (o_dup2 (o_iald (o_lload 1 (o_iload 3 (o_lshr (o_lc (lN 1) (o_land (o_l2i (o_iadd (o_iast (o_iinc 3 (nI 1) (F 2)))))))))))))))))
def k_X8_countSquaresOf_29 (F : FT) (Q : QT) : KT := o_vret Q
set_option maxRecDepth 20000 in
theorem r_X8_countSquaresOf {a0 : Nat} {a1 : Int64} {n : Nat} {R : RR} {I : II} {J : JJ} {Q : QT} (hn : n + 0 ≤ 90) (h : ∀ F : FT, al_Wk F → al_Ok F (k_X8_countSquaresOf_0 F Q) 0 → al_Ok F (k_X8_countSquaresOf_2 F Q) 2 → al_Ok F (k_X8_countSquaresOf_29 F Q) 29 → F 0 [some (.ref a0), some (.long a1), none, none] [] n R I J) : CT m_X8_countSquaresOf 0 [.ref a0, .long a1] n R I J Q :=
  CT.of (by decide) hn (fun _ => rfl) (fun _ => Nat.le_of_ble_eq_true rfl) (fun F p l e s m args below meth c Rm t Q0 C hQ hr hm => h F (fun _ _ _ _ _ _ _ _ => S_wk C)
    (S_iconst C dX8_countSquaresOf_0 (by decide +kernel) (S_istore_n C dX8_countSquaresOf_1 rfl (Nat.le_of_ble_eq_true rfl) (fun _ _ _ _ _ _ h9 => h9)))
    (S_iload_n C dX8_countSquaresOf_2 rfl (S_bipush C dX8_countSquaresOf_3 (by decide +kernel) (S_icmpge (tgt := 29) C dX8_countSquaresOf_5 (by decide) (S_aload_n C dX8_countSquaresOf_8 rfl (S_getR (ci := 8) (j := 2) C inG8 rfl (Nat.le_of_ble_eq_true rfl) rfl (al_at 211 (by decide +kernel) rfl) dX8_countSquaresOf_9 (S_iload_n C dX8_countSquaresOf_12 rfl (S_dup2 C dX8_countSquaresOf_13 (S_iald C dX8_countSquaresOf_14 (S_lload_n C dX8_countSquaresOf_15 rfl (S_iload_n C dX8_countSquaresOf_16 rfl (S_lshr C dX8_countSquaresOf_17 (S_lconst C dX8_countSquaresOf_18 (by decide +kernel) (S_land C dX8_countSquaresOf_19 (S_l2i C dX8_countSquaresOf_20 (S_iadd C dX8_countSquaresOf_21 (S_iast C dX8_countSquaresOf_22 (S_iinc C dX8_countSquaresOf_23 (by decide +kernel) (Nat.le_of_ble_eq_true rfl) (S_goto (tgt := 2) C dX8_countSquaresOf_26 (by decide)))))))))))))))))))
    (S_vret C hQ hr dX8_countSquaresOf_29))
theorem dX8_countsOf_0 : decode cX8_countsOf 0 = .ok (.iconst 0, 1) := by decide +kernel
theorem dX8_countsOf_1 : decode cX8_countsOf 1 = .ok (.istore_n 2, 1) := by decide +kernel
theorem dX8_countsOf_2 : decode cX8_countsOf 2 = .ok (.iconst 0, 1) := by decide +kernel
theorem dX8_countsOf_3 : decode cX8_countsOf 3 = .ok (.istore_n 3, 1) := by decide +kernel
theorem dX8_countsOf_4 : decode cX8_countsOf 4 = .ok (.iload_n 3, 1) := by decide +kernel
theorem dX8_countsOf_5 : decode cX8_countsOf 5 = .ok (.bipush 81, 2) := by decide +kernel
theorem dX8_countsOf_7 : decode cX8_countsOf 7 = .ok (.if_icmp .ge 38, 3) := by decide +kernel
theorem dX8_countsOf_10 : decode cX8_countsOf 10 = .ok (.aload_n 0, 1) := by decide +kernel
theorem dX8_countsOf_11 : decode cX8_countsOf 11 = .ok (.getfield 9, 3) := by decide +kernel
theorem dX8_countsOf_14 : decode cX8_countsOf 14 = .ok (.iload_n 1, 1) := by decide +kernel
theorem dX8_countsOf_15 : decode cX8_countsOf 15 = .ok (.iload_n 3, 1) := by decide +kernel
theorem dX8_countsOf_16 : decode cX8_countsOf 16 = .ok (.invokevirtual 72, 3) := by decide +kernel
theorem dX8_countsOf_19 : decode cX8_countsOf 19 = .ok (.ifCond .eq 20, 3) := by decide +kernel
theorem dX8_countsOf_22 : decode cX8_countsOf 22 = .ok (.iload_n 2, 1) := by decide +kernel
theorem dX8_countsOf_23 : decode cX8_countsOf 23 = .ok (.aload_n 0, 1) := by decide +kernel
theorem dX8_countsOf_24 : decode cX8_countsOf 24 = .ok (.getfield 9, 3) := by decide +kernel
theorem dX8_countsOf_27 : decode cX8_countsOf 27 = .ok (.iload_n 1, 1) := by decide +kernel
theorem dX8_countsOf_28 : decode cX8_countsOf 28 = .ok (.iload_n 3, 1) := by decide +kernel
theorem dX8_countsOf_29 : decode cX8_countsOf 29 = .ok (.aload_n 0, 1) := by decide +kernel
theorem dX8_countsOf_30 : decode cX8_countsOf 30 = .ok (.iload_n 3, 1) := by decide +kernel
theorem dX8_countsOf_31 : decode cX8_countsOf 31 = .ok (.invokevirtual 76, 3) := by decide +kernel
theorem dX8_countsOf_34 : decode cX8_countsOf 34 = .ok (.invokevirtual 79, 3) := by decide +kernel
theorem dX8_countsOf_37 : decode cX8_countsOf 37 = .ok (.iadd, 1) := by decide +kernel
theorem dX8_countsOf_38 : decode cX8_countsOf 38 = .ok (.istore_n 2, 1) := by decide +kernel
theorem dX8_countsOf_39 : decode cX8_countsOf 39 = .ok (.iinc 3 1, 3) := by decide +kernel
theorem dX8_countsOf_42 : decode cX8_countsOf 42 = .ok (.goto (-38), 3) := by decide +kernel
theorem dX8_countsOf_45 : decode cX8_countsOf 45 = .ok (.iload_n 2, 1) := by decide +kernel
theorem dX8_countsOf_46 : decode cX8_countsOf 46 = .ok (.ireturn, 1) := by decide +kernel
def k_X8_countsOf_0 (F : FT) (Q : QT) : KT := o_ic (nI 0) (o_istore 2 (o_ic (nI 0) (o_istore 3 (F 4))))
def k_X8_countsOf_4 (F : FT) (Q : QT) : KT := o_iload 3 (o_ic (nI 81) (o_icge (F 45) (o_aload 0 (o_getR 8 0 (o_iload 1 (o_iload 3 (o_cV 9 m_X9_shapeAt 3 (o_ifeq (F 39) (o_iload 2 (o_aload 0 (o_getR 8 0 (o_iload 1 (o_iload 3 (o_aload 0 (o_iload 3 (o_cV 8 m_X8_seenFrom 2 (o_cV 9 m_X9_countIfSeen 4 (o_iadd (o_istore 2 (F 39))))))))))))))))))))
def k_X8_countsOf_39 (F : FT) (Q : QT) : KT := o_iinc 3 (nI 1) (F 4)
def k_X8_countsOf_45 (F : FT) (Q : QT) : KT := o_iload 2 (o_iret Q)
set_option maxRecDepth 20000 in
theorem r_X8_countsOf {a0 : Nat} {a1 : Int32} {n : Nat} {R : RR} {I : II} {J : JJ} {Q : QT} (hn : n + 0 ≤ 90) (h : ∀ F : FT, al_Wk F → al_Ok F (k_X8_countsOf_0 F Q) 0 → al_Ok F (k_X8_countsOf_4 F Q) 4 → al_Ok F (k_X8_countsOf_39 F Q) 39 → al_Ok F (k_X8_countsOf_45 F Q) 45 → F 0 [some (.ref a0), some (.int a1), none, none] [] n R I J) : CT m_X8_countsOf 0 [.ref a0, .int a1] n R I J Q :=
  CT.of (by decide) hn (fun _ => rfl) (fun _ => Nat.le_of_ble_eq_true rfl) (fun F p l e s m args below meth c Rm t Q0 C hQ hr hm => h F (fun _ _ _ _ _ _ _ _ => S_wk C)
    (S_iconst C dX8_countsOf_0 (by decide +kernel) (S_istore_n C dX8_countsOf_1 rfl (Nat.le_of_ble_eq_true rfl) (S_iconst C dX8_countsOf_2 (by decide +kernel) (S_istore_n C dX8_countsOf_3 rfl (Nat.le_of_ble_eq_true rfl) (fun _ _ _ _ _ _ h9 => h9)))))
    (S_iload_n C dX8_countsOf_4 rfl (S_bipush C dX8_countsOf_5 (by decide +kernel) (S_icmpge (tgt := 45) C dX8_countsOf_7 (by decide) (S_aload_n C dX8_countsOf_10 rfl (S_getR (ci := 8) (j := 0) C inG8 rfl (Nat.le_of_ble_eq_true rfl) rfl (al_at 209 (by decide +kernel) rfl) dX8_countsOf_11 (S_iload_n C dX8_countsOf_14 rfl (S_iload_n C dX8_countsOf_15 rfl (S_cV (ci := 9) C ok_X9_shapeAt rfl (al_at 397 (by decide +kernel) rfl) (Nat.le_of_ble_eq_true rfl) (Nat.le_of_ble_eq_true rfl) dX8_countsOf_16 (S_ifeq (tgt := 39) C dX8_countsOf_19 (by decide) (S_iload_n C dX8_countsOf_22 rfl (S_aload_n C dX8_countsOf_23 rfl (S_getR (ci := 8) (j := 0) C inG8 rfl (Nat.le_of_ble_eq_true rfl) rfl (al_at 209 (by decide +kernel) rfl) dX8_countsOf_24 (S_iload_n C dX8_countsOf_27 rfl (S_iload_n C dX8_countsOf_28 rfl (S_aload_n C dX8_countsOf_29 rfl (S_iload_n C dX8_countsOf_30 rfl (S_cV (ci := 8) C ok_X8_seenFrom rfl (al_at 398 (by decide +kernel) rfl) (Nat.le_of_ble_eq_true rfl) (Nat.le_of_ble_eq_true rfl) dX8_countsOf_31 (S_cV (ci := 9) C ok_X9_countIfSeen rfl (al_at 416 (by decide +kernel) rfl) (Nat.le_of_ble_eq_true rfl) (Nat.le_of_ble_eq_true rfl) dX8_countsOf_34 (S_iadd C dX8_countsOf_37 (S_istore_n C dX8_countsOf_38 rfl (Nat.le_of_ble_eq_true rfl) (fun _ _ _ _ _ _ h9 => h9)))))))))))))))))))))
    (S_iinc C dX8_countsOf_39 (by decide +kernel) (Nat.le_of_ble_eq_true rfl) (S_goto (tgt := 4) C dX8_countsOf_42 (by decide)))
    (S_iload_n C dX8_countsOf_45 rfl (S_iret C hQ hr dX8_countsOf_46)))
theorem dX8_dearestCorner_0 : decode cX8_dearestCorner 0 = .ok (.iconst (-1), 1) := by decide +kernel
theorem dX8_dearestCorner_1 : decode cX8_dearestCorner 1 = .ok (.istore_n 2, 1) := by decide +kernel
theorem dX8_dearestCorner_2 : decode cX8_dearestCorner 2 = .ok (.iconst 0, 1) := by decide +kernel
theorem dX8_dearestCorner_3 : decode cX8_dearestCorner 3 = .ok (.istore_n 3, 1) := by decide +kernel
theorem dX8_dearestCorner_4 : decode cX8_dearestCorner 4 = .ok (.iconst 0, 1) := by decide +kernel
theorem dX8_dearestCorner_5 : decode cX8_dearestCorner 5 = .ok (.istore 4, 2) := by decide +kernel
theorem dX8_dearestCorner_7 : decode cX8_dearestCorner 7 = .ok (.iload 4, 2) := by decide +kernel
theorem dX8_dearestCorner_9 : decode cX8_dearestCorner 9 = .ok (.bipush 81, 2) := by decide +kernel
theorem dX8_dearestCorner_11 : decode cX8_dearestCorner 11 = .ok (.if_icmp .ge 52, 3) := by decide +kernel
theorem dX8_dearestCorner_14 : decode cX8_dearestCorner 14 = .ok (.aload_n 0, 1) := by decide +kernel
theorem dX8_dearestCorner_15 : decode cX8_dearestCorner 15 = .ok (.getfield 9, 3) := by decide +kernel
theorem dX8_dearestCorner_18 : decode cX8_dearestCorner 18 = .ok (.iload_n 1, 1) := by decide +kernel
theorem dX8_dearestCorner_19 : decode cX8_dearestCorner 19 = .ok (.iload 4, 2) := by decide +kernel
theorem dX8_dearestCorner_21 : decode cX8_dearestCorner 21 = .ok (.invokevirtual 72, 3) := by decide +kernel
theorem dX8_dearestCorner_24 : decode cX8_dearestCorner 24 = .ok (.ifCond .eq 33, 3) := by decide +kernel
theorem dX8_dearestCorner_27 : decode cX8_dearestCorner 27 = .ok (.aload_n 0, 1) := by decide +kernel
theorem dX8_dearestCorner_28 : decode cX8_dearestCorner 28 = .ok (.getfield 9, 3) := by decide +kernel
theorem dX8_dearestCorner_31 : decode cX8_dearestCorner 31 = .ok (.iload_n 1, 1) := by decide +kernel
theorem dX8_dearestCorner_32 : decode cX8_dearestCorner 32 = .ok (.iload 4, 2) := by decide +kernel
theorem dX8_dearestCorner_34 : decode cX8_dearestCorner 34 = .ok (.aload_n 0, 1) := by decide +kernel
theorem dX8_dearestCorner_35 : decode cX8_dearestCorner 35 = .ok (.iload 4, 2) := by decide +kernel
theorem dX8_dearestCorner_37 : decode cX8_dearestCorner 37 = .ok (.invokevirtual 76, 3) := by decide +kernel
theorem dX8_dearestCorner_40 : decode cX8_dearestCorner 40 = .ok (.invokevirtual 79, 3) := by decide +kernel
theorem dX8_dearestCorner_43 : decode cX8_dearestCorner 43 = .ok (.istore 5, 2) := by decide +kernel
theorem dX8_dearestCorner_45 : decode cX8_dearestCorner 45 = .ok (.iload 5, 2) := by decide +kernel
theorem dX8_dearestCorner_47 : decode cX8_dearestCorner 47 = .ok (.iload_n 3, 1) := by decide +kernel
theorem dX8_dearestCorner_48 : decode cX8_dearestCorner 48 = .ok (.if_icmp .le 9, 3) := by decide +kernel
theorem dX8_dearestCorner_51 : decode cX8_dearestCorner 51 = .ok (.iload 5, 2) := by decide +kernel
theorem dX8_dearestCorner_53 : decode cX8_dearestCorner 53 = .ok (.istore_n 3, 1) := by decide +kernel
theorem dX8_dearestCorner_54 : decode cX8_dearestCorner 54 = .ok (.iload 4, 2) := by decide +kernel
theorem dX8_dearestCorner_56 : decode cX8_dearestCorner 56 = .ok (.istore_n 2, 1) := by decide +kernel
theorem dX8_dearestCorner_57 : decode cX8_dearestCorner 57 = .ok (.iinc 4 1, 3) := by decide +kernel
theorem dX8_dearestCorner_60 : decode cX8_dearestCorner 60 = .ok (.goto (-53), 3) := by decide +kernel
theorem dX8_dearestCorner_63 : decode cX8_dearestCorner 63 = .ok (.iload_n 2, 1) := by decide +kernel
theorem dX8_dearestCorner_64 : decode cX8_dearestCorner 64 = .ok (.ireturn, 1) := by decide +kernel
def k_X8_dearestCorner_0 (F : FT) (Q : QT) : KT := o_ic (-1) (o_istore 2 (o_ic (nI 0) (o_istore 3 (o_ic (nI 0) (o_istore 4 (F 7))))))
def k_X8_dearestCorner_7 (F : FT) (Q : QT) : KT := o_iload 4 (o_ic (nI 81) (o_icge (F 63) (o_aload 0 (o_getR 8 0 (o_iload 1 (o_iload 4 (o_cV 9 m_X9_shapeAt 3 (o_ifeq (F 57) (o_aload 0 (o_getR 8 0 (o_iload 1 (o_iload 4 (o_aload 0 (o_iload 4 (o_cV 8 m_X8_seenFrom 2 (o_cV 9 m_X9_countIfSeen 4 (o_istore 5 (o_iload 5 (o_iload 3 (o_icle (F 57) (o_iload 5 (o_istore 3 (o_iload 4 (o_istore 2 (F 57)))))))))))))))))))))))))
def k_X8_dearestCorner_57 (F : FT) (Q : QT) : KT := o_iinc 4 (nI 1) (F 7)
def k_X8_dearestCorner_63 (F : FT) (Q : QT) : KT := o_iload 2 (o_iret Q)
set_option maxRecDepth 20000 in
theorem r_X8_dearestCorner {a0 : Nat} {a1 : Int32} {n : Nat} {R : RR} {I : II} {J : JJ} {Q : QT} (hn : n + 0 ≤ 90) (h : ∀ F : FT, al_Wk F → al_Ok F (k_X8_dearestCorner_0 F Q) 0 → al_Ok F (k_X8_dearestCorner_7 F Q) 7 → al_Ok F (k_X8_dearestCorner_57 F Q) 57 → al_Ok F (k_X8_dearestCorner_63 F Q) 63 → F 0 [some (.ref a0), some (.int a1), none, none, none, none] [] n R I J) : CT m_X8_dearestCorner 0 [.ref a0, .int a1] n R I J Q :=
  CT.of (by decide) hn (fun _ => rfl) (fun _ => Nat.le_of_ble_eq_true rfl) (fun F p l e s m args below meth c Rm t Q0 C hQ hr hm => h F (fun _ _ _ _ _ _ _ _ => S_wk C)
    (S_iconst C dX8_dearestCorner_0 (by decide +kernel) (S_istore_n C dX8_dearestCorner_1 rfl (Nat.le_of_ble_eq_true rfl) (S_iconst C dX8_dearestCorner_2 (by decide +kernel) (S_istore_n C dX8_dearestCorner_3 rfl (Nat.le_of_ble_eq_true rfl) (S_iconst C dX8_dearestCorner_4 (by decide +kernel) (S_istore C dX8_dearestCorner_5 (Nat.le_of_ble_eq_true rfl) (fun _ _ _ _ _ _ h9 => h9)))))))
    (S_iload C dX8_dearestCorner_7 (S_bipush C dX8_dearestCorner_9 (by decide +kernel) (S_icmpge (tgt := 63) C dX8_dearestCorner_11 (by decide) (S_aload_n C dX8_dearestCorner_14 rfl (S_getR (ci := 8) (j := 0) C inG8 rfl (Nat.le_of_ble_eq_true rfl) rfl (al_at 209 (by decide +kernel) rfl) dX8_dearestCorner_15 (S_iload_n C dX8_dearestCorner_18 rfl (S_iload C dX8_dearestCorner_19 (S_cV (ci := 9) C ok_X9_shapeAt rfl (al_at 397 (by decide +kernel) rfl) (Nat.le_of_ble_eq_true rfl) (Nat.le_of_ble_eq_true rfl) dX8_dearestCorner_21 (S_ifeq (tgt := 57) C dX8_dearestCorner_24 (by decide) (S_aload_n C dX8_dearestCorner_27 rfl (S_getR (ci := 8) (j := 0) C inG8 rfl (Nat.le_of_ble_eq_true rfl) rfl (al_at 209 (by decide +kernel) rfl) dX8_dearestCorner_28 (S_iload_n C dX8_dearestCorner_31 rfl (S_iload C dX8_dearestCorner_32 (S_aload_n C dX8_dearestCorner_34 rfl (S_iload C dX8_dearestCorner_35 (S_cV (ci := 8) C ok_X8_seenFrom rfl (al_at 398 (by decide +kernel) rfl) (Nat.le_of_ble_eq_true rfl) (Nat.le_of_ble_eq_true rfl) dX8_dearestCorner_37 (S_cV (ci := 9) C ok_X9_countIfSeen rfl (al_at 416 (by decide +kernel) rfl) (Nat.le_of_ble_eq_true rfl) (Nat.le_of_ble_eq_true rfl) dX8_dearestCorner_40 (S_istore C dX8_dearestCorner_43 (Nat.le_of_ble_eq_true rfl) (S_iload C dX8_dearestCorner_45 (S_iload_n C dX8_dearestCorner_47 rfl (S_icmple (tgt := 57) C dX8_dearestCorner_48 (by decide) (S_iload C dX8_dearestCorner_51 (S_istore_n C dX8_dearestCorner_53 rfl (Nat.le_of_ble_eq_true rfl) (S_iload C dX8_dearestCorner_54 (S_istore_n C dX8_dearestCorner_56 rfl (Nat.le_of_ble_eq_true rfl) (fun _ _ _ _ _ _ h9 => h9))))))))))))))))))))))))))
    (S_iinc C dX8_dearestCorner_57 (by decide +kernel) (Nat.le_of_ble_eq_true rfl) (S_goto (tgt := 7) C dX8_dearestCorner_60 (by decide)))
    (S_iload_n C dX8_dearestCorner_63 rfl (S_iret C hQ hr dX8_dearestCorner_64)))
theorem dX8_forget_0 : decode cX8_forget 0 = .ok (.aload_n 0, 1) := by decide +kernel
theorem dX8_forget_1 : decode cX8_forget 1 = .ok (.getfield 15, 3) := by decide +kernel
theorem dX8_forget_4 : decode cX8_forget 4 = .ok (.iconst (-1), 1) := by decide +kernel
theorem dX8_forget_5 : decode cX8_forget 5 = .ok (.invokestatic 19, 3) := by decide +kernel
theorem dX8_forget_8 : decode cX8_forget 8 = .ok (.aload_n 0, 1) := by decide +kernel
theorem dX8_forget_9 : decode cX8_forget 9 = .ok (.iconst (-1), 1) := by decide +kernel
theorem dX8_forget_10 : decode cX8_forget 10 = .ok (.putfield 41, 3) := by decide +kernel
theorem dX8_forget_13 : decode cX8_forget 13 = .ok (.return_, 1) := by decide +kernel
def k_X8_forget_0 (F : FT) (Q : QT) : KT := o_aload 0 (o_getR 8 1 (o_ic (-1) (o_cS m_J7_fill_53178 2 (o_aload 0 (o_ic (-1) (o_putI 8 7 (o_vret Q)))))))
set_option maxRecDepth 20000 in
theorem r_X8_forget {a0 : Nat} {n : Nat} {R : RR} {I : II} {J : JJ} {Q : QT} (hn : n + 0 ≤ 90) (h : ∀ F : FT, al_Wk F → al_Ok F (k_X8_forget_0 F Q) 0 → F 0 [some (.ref a0)] [] n R I J) : CT m_X8_forget 0 [.ref a0] n R I J Q :=
  CT.of (by decide) hn (fun _ => rfl) (fun _ => Nat.le_of_ble_eq_true rfl) (fun F p l e s m args below meth c Rm t Q0 C hQ hr hm => h F (fun _ _ _ _ _ _ _ _ => S_wk C)
    (S_aload_n C dX8_forget_0 rfl (S_getR (ci := 8) (j := 1) C inG8 rfl (Nat.le_of_ble_eq_true rfl) rfl (al_at 210 (by decide +kernel) rfl) dX8_forget_1 (S_iconst C dX8_forget_4 (by decide +kernel) (S_cS C ok_J7_fill_53178 (al_at 206 (by decide +kernel) rfl) (Nat.le_of_ble_eq_true rfl) (Nat.le_of_ble_eq_true rfl) dX8_forget_5 (S_aload_n C dX8_forget_8 rfl (S_iconst C dX8_forget_9 (by decide +kernel) (S_putI (ci := 8) (j := 7) C inG8 rfl (Nat.le_of_ble_eq_true rfl) tyX8 tyX8_ok nmX8 rfl rfl (tyX8_ok 7 (Nat.le_of_ble_eq_true rfl)) (al_at 217 (by decide +kernel) rfl) dX8_forget_10 (S_vret C hQ hr dX8_forget_13)))))))))
theorem dX8_init_0 : decode cX8_init 0 = .ok (.aload_n 0, 1) := by decide +kernel
theorem dX8_init_1 : decode cX8_init 1 = .ok (.invokespecial 3, 3) := by decide +kernel
theorem dX8_init_4 : decode cX8_init 4 = .ok (.aload_n 0, 1) := by decide +kernel
theorem dX8_init_5 : decode cX8_init 5 = .ok (.aload_n 1, 1) := by decide +kernel
theorem dX8_init_6 : decode cX8_init 6 = .ok (.putfield 9, 3) := by decide +kernel
theorem dX8_init_9 : decode cX8_init 9 = .ok (.aload_n 0, 1) := by decide +kernel
theorem dX8_init_10 : decode cX8_init 10 = .ok (.bipush 81, 2) := by decide +kernel
theorem dX8_init_12 : decode cX8_init 12 = .ok (.newarray .int, 2) := by decide +kernel
theorem dX8_init_14 : decode cX8_init 14 = .ok (.putfield 15, 3) := by decide +kernel
theorem dX8_init_17 : decode cX8_init 17 = .ok (.aload_n 0, 1) := by decide +kernel
theorem dX8_init_18 : decode cX8_init 18 = .ok (.getfield 15, 3) := by decide +kernel
theorem dX8_init_21 : decode cX8_init 21 = .ok (.iconst (-1), 1) := by decide +kernel
theorem dX8_init_22 : decode cX8_init 22 = .ok (.invokestatic 19, 3) := by decide +kernel
theorem dX8_init_25 : decode cX8_init 25 = .ok (.aload_n 0, 1) := by decide +kernel
theorem dX8_init_26 : decode cX8_init 26 = .ok (.bipush 64, 2) := by decide +kernel
theorem dX8_init_28 : decode cX8_init 28 = .ok (.newarray .int, 2) := by decide +kernel
theorem dX8_init_30 : decode cX8_init 30 = .ok (.putfield 25, 3) := by decide +kernel
theorem dX8_init_33 : decode cX8_init 33 = .ok (.aload_n 0, 1) := by decide +kernel
theorem dX8_init_34 : decode cX8_init 34 = .ok (.bipush 64, 2) := by decide +kernel
theorem dX8_init_36 : decode cX8_init 36 = .ok (.newarray .int, 2) := by decide +kernel
theorem dX8_init_38 : decode cX8_init 38 = .ok (.putfield 28, 3) := by decide +kernel
theorem dX8_init_41 : decode cX8_init 41 = .ok (.aload_n 0, 1) := by decide +kernel
theorem dX8_init_42 : decode cX8_init 42 = .ok (.bipush 64, 2) := by decide +kernel
theorem dX8_init_44 : decode cX8_init 44 = .ok (.newarray .long, 2) := by decide +kernel
theorem dX8_init_46 : decode cX8_init 46 = .ok (.putfield 31, 3) := by decide +kernel
theorem dX8_init_49 : decode cX8_init 49 = .ok (.aload_n 0, 1) := by decide +kernel
theorem dX8_init_50 : decode cX8_init 50 = .ok (.bipush 64, 2) := by decide +kernel
theorem dX8_init_52 : decode cX8_init 52 = .ok (.newarray .long, 2) := by decide +kernel
theorem dX8_init_54 : decode cX8_init 54 = .ok (.putfield 35, 3) := by decide +kernel
theorem dX8_init_57 : decode cX8_init 57 = .ok (.aload_n 0, 1) := by decide +kernel
theorem dX8_init_58 : decode cX8_init 58 = .ok (.bipush 64, 2) := by decide +kernel
theorem dX8_init_60 : decode cX8_init 60 = .ok (.newarray .int, 2) := by decide +kernel
theorem dX8_init_62 : decode cX8_init 62 = .ok (.putfield 38, 3) := by decide +kernel
theorem dX8_init_65 : decode cX8_init 65 = .ok (.aload_n 0, 1) := by decide +kernel
theorem dX8_init_66 : decode cX8_init 66 = .ok (.iconst (-1), 1) := by decide +kernel
theorem dX8_init_67 : decode cX8_init 67 = .ok (.putfield 41, 3) := by decide +kernel
theorem dX8_init_70 : decode cX8_init 70 = .ok (.return_, 1) := by decide +kernel
def k_X8_init_0 (F : FT) (Q : QT) (ne : Nat) : KT := o_aload 0 (o_oinit (o_aload 0 (o_aload 1 (o_putR 8 0 (o_aload 0 (o_ic (nI 81) (o_newa ne 0 81 (o_putR 8 1 (o_aload 0 (o_getR 8 1 (o_ic (-1) (o_cS m_J7_fill_53178 2 (o_aload 0 (o_ic (nI 64) (o_newa ne 0 64 (o_putR 8 2 (o_aload 0 (o_ic (nI 64) (o_newa ne 0 64 (o_putR 8 3 (o_aload 0 (o_ic (nI 64) (o_newa ne 1 64 (o_putR 8 4 (o_aload 0 (o_ic (nI 64) (o_newa ne 1 64 (o_putR 8 5 (o_aload 0 (o_ic (nI 64) (o_newa ne 0 64 (o_putR 8 6 (o_aload 0 (o_ic (-1) (o_putI 8 7 (o_cret ne Q))))))))))))))))))))))))))))))))))))
set_option maxRecDepth 20000 in
theorem r_X8_init {a0 : Nat} {a1 : Nat} {n : Nat} {R : RR} {I : II} {J : JJ} {Q : QT} (hn : n + 6 ≤ 90) (h : ∀ F : FT, al_Wk F → al_Ok F (k_X8_init_0 F Q (n + 6)) 0 → F 0 [some (.ref a0), some (.ref a1)] [] n R I J) : CT m_X8_init 6 [.ref a0, .ref a1] n R I J Q :=
  CT.of (by decide) hn (fun _ => rfl) (fun _ => Nat.le_of_ble_eq_true rfl) (fun F p l e s m args below meth c Rm t Q0 C hQ hr hm => h F (fun _ _ _ _ _ _ _ _ => S_wk C)
    (S_aload_n C dX8_init_0 rfl (S_oinit C (al_at 205 (by decide +kernel) rfl) (al_at 87 (by decide +kernel) rfl) (al_at 88 (by decide +kernel) rfl) (Nat.le_of_ble_eq_true rfl) (Nat.le_of_ble_eq_true rfl) dX8_init_1 (S_aload_n C dX8_init_4 rfl (S_aload_n C dX8_init_5 rfl (S_putR (ci := 8) (j := 0) C inG8 rfl (Nat.le_of_ble_eq_true rfl) tyX8 tyX8_ok nmX8 rfl rfl (tyX8_ok 0 (Nat.le_of_ble_eq_true rfl)) (Or.inl ⟨_, rfl⟩) hm rfl (al_at 209 (by decide +kernel) rfl) dX8_init_6 (S_aload_n C dX8_init_9 rfl (S_bipush C dX8_init_10 (by decide +kernel) (S_newa0 C (al_at 171 (by decide +kernel) rfl) dX8_init_12 (S_putR (ci := 8) (j := 1) C inG8 rfl (Nat.le_of_ble_eq_true rfl) tyX8 tyX8_ok nmX8 rfl rfl (tyX8_ok 1 (Nat.le_of_ble_eq_true rfl)) (Or.inr ⟨_, rfl⟩) hm rfl (al_at 210 (by decide +kernel) rfl) dX8_init_14 (S_aload_n C dX8_init_17 rfl (S_getR (ci := 8) (j := 1) C inG8 rfl (Nat.le_of_ble_eq_true rfl) rfl (al_at 210 (by decide +kernel) rfl) dX8_init_18 (S_iconst C dX8_init_21 (by decide +kernel) (S_cS C ok_J7_fill_53178 (al_at 206 (by decide +kernel) rfl) (Nat.le_of_ble_eq_true rfl) (Nat.le_of_ble_eq_true rfl) dX8_init_22 (S_aload_n C dX8_init_25 rfl (S_bipush C dX8_init_26 (by decide +kernel) (S_newa0 C (al_at 171 (by decide +kernel) rfl) dX8_init_28 (S_putR (ci := 8) (j := 2) C inG8 rfl (Nat.le_of_ble_eq_true rfl) tyX8 tyX8_ok nmX8 rfl rfl (tyX8_ok 2 (Nat.le_of_ble_eq_true rfl)) (Or.inr ⟨_, rfl⟩) hm rfl (al_at 211 (by decide +kernel) rfl) dX8_init_30 (S_aload_n C dX8_init_33 rfl (S_bipush C dX8_init_34 (by decide +kernel) (S_newa0 C (al_at 171 (by decide +kernel) rfl) dX8_init_36 (S_putR (ci := 8) (j := 3) C inG8 rfl (Nat.le_of_ble_eq_true rfl) tyX8 tyX8_ok nmX8 rfl rfl (tyX8_ok 3 (Nat.le_of_ble_eq_true rfl)) (Or.inr ⟨_, rfl⟩) hm rfl (al_at 212 (by decide +kernel) rfl) dX8_init_38 (S_aload_n C dX8_init_41 rfl (S_bipush C dX8_init_42 (by decide +kernel) (S_newa1 C (al_at 236 (by decide +kernel) rfl) dX8_init_44 (S_putR (ci := 8) (j := 4) C inG8 rfl (Nat.le_of_ble_eq_true rfl) tyX8 tyX8_ok nmX8 rfl rfl (tyX8_ok 4 (Nat.le_of_ble_eq_true rfl)) (Or.inr ⟨_, rfl⟩) hm rfl (al_at 213 (by decide +kernel) rfl) dX8_init_46 (S_aload_n C dX8_init_49 rfl (S_bipush C dX8_init_50 (by decide +kernel) (S_newa1 C (al_at 236 (by decide +kernel) rfl) dX8_init_52 (S_putR (ci := 8) (j := 5) C inG8 rfl (Nat.le_of_ble_eq_true rfl) tyX8 tyX8_ok nmX8 rfl rfl (tyX8_ok 5 (Nat.le_of_ble_eq_true rfl)) (Or.inr ⟨_, rfl⟩) hm rfl (al_at 214 (by decide +kernel) rfl) dX8_init_54 (S_aload_n C dX8_init_57 rfl (S_bipush C dX8_init_58 (by decide +kernel) (S_newa0 C (al_at 171 (by decide +kernel) rfl) dX8_init_60 (S_putR (ci := 8) (j := 6) C inG8 rfl (Nat.le_of_ble_eq_true rfl) tyX8 tyX8_ok nmX8 rfl rfl (tyX8_ok 6 (Nat.le_of_ble_eq_true rfl)) (Or.inr ⟨_, rfl⟩) hm rfl (al_at 215 (by decide +kernel) rfl) dX8_init_62 (S_aload_n C dX8_init_65 rfl (S_iconst C dX8_init_66 (by decide +kernel) (S_putI (ci := 8) (j := 7) C inG8 rfl (Nat.le_of_ble_eq_true rfl) tyX8 tyX8_ok nmX8 rfl rfl (tyX8_ok 7 (Nat.le_of_ble_eq_true rfl)) (al_at 217 (by decide +kernel) rfl) dX8_init_67 (S_cret C hQ hr dX8_init_70))))))))))))))))))))))))))))))))))))))
theorem dX8_isStreet_0 : decode cX8_isStreet 0 = .ok (.aload_n 0, 1) := by decide +kernel
theorem dX8_isStreet_1 : decode cX8_isStreet 1 = .ok (.getfield 9, 3) := by decide +kernel
theorem dX8_isStreet_4 : decode cX8_isStreet 4 = .ok (.getfield 61, 3) := by decide +kernel
theorem dX8_isStreet_7 : decode cX8_isStreet 7 = .ok (.iload_n 1, 1) := by decide +kernel
theorem dX8_isStreet_8 : decode cX8_isStreet 8 = .ok (.lshr, 1) := by decide +kernel
theorem dX8_isStreet_9 : decode cX8_isStreet 9 = .ok (.lconst 1, 1) := by decide +kernel
theorem dX8_isStreet_10 : decode cX8_isStreet 10 = .ok (.land, 1) := by decide +kernel
theorem dX8_isStreet_11 : decode cX8_isStreet 11 = .ok (.lconst 0, 1) := by decide +kernel
theorem dX8_isStreet_12 : decode cX8_isStreet 12 = .ok (.lcmp, 1) := by decide +kernel
theorem dX8_isStreet_13 : decode cX8_isStreet 13 = .ok (.ifCond .eq 7, 3) := by decide +kernel
theorem dX8_isStreet_16 : decode cX8_isStreet 16 = .ok (.iconst 1, 1) := by decide +kernel
theorem dX8_isStreet_17 : decode cX8_isStreet 17 = .ok (.goto 4, 3) := by decide +kernel
theorem dX8_isStreet_20 : decode cX8_isStreet 20 = .ok (.iconst 0, 1) := by decide +kernel
theorem dX8_isStreet_21 : decode cX8_isStreet 21 = .ok (.ireturn, 1) := by decide +kernel
def k_X8_isStreet_0 (F : FT) (Q : QT) : KT := o_aload 0 (o_getR 8 0 (o_getJ 9 4 (o_iload 1 (o_lshr (o_lc (lN 1) (o_land (o_lc (lN 0) (o_lcmp (o_ifeq (F 20) (o_ic (nI 1) (F 21)))))))))))
def k_X8_isStreet_20 (F : FT) (Q : QT) : KT := o_ic (nI 0) (F 21)
def k_X8_isStreet_21 (F : FT) (Q : QT) : KT := o_zret Q
set_option maxRecDepth 20000 in
theorem r_X8_isStreet {a0 : Nat} {a1 : Int32} {n : Nat} {R : RR} {I : II} {J : JJ} {Q : QT} (hn : n + 0 ≤ 90) (h : ∀ F : FT, al_Wk F → al_Ok F (k_X8_isStreet_0 F Q) 0 → al_Ok F (k_X8_isStreet_20 F Q) 20 → al_Ok F (k_X8_isStreet_21 F Q) 21 → F 0 [some (.ref a0), some (.int a1)] [] n R I J) : CT m_X8_isStreet 0 [.ref a0, .int a1] n R I J Q :=
  CT.of (by decide) hn (fun _ => rfl) (fun _ => Nat.le_of_ble_eq_true rfl) (fun F p l e s m args below meth c Rm t Q0 C hQ hr hm => h F (fun _ _ _ _ _ _ _ _ => S_wk C)
    (S_aload_n C dX8_isStreet_0 rfl (S_getR (ci := 8) (j := 0) C inG8 rfl (Nat.le_of_ble_eq_true rfl) rfl (al_at 209 (by decide +kernel) rfl) dX8_isStreet_1 (S_getJ (ci := 9) (j := 4) C inG9 rfl (Nat.le_of_ble_eq_true rfl) rfl (al_at 184 (by decide +kernel) rfl) dX8_isStreet_4 (S_iload_n C dX8_isStreet_7 rfl (S_lshr C dX8_isStreet_8 (S_lconst C dX8_isStreet_9 (by decide +kernel) (S_land C dX8_isStreet_10 (S_lconst C dX8_isStreet_11 (by decide +kernel) (S_lcmp C dX8_isStreet_12 (S_ifeq (tgt := 20) C dX8_isStreet_13 (by decide) (S_iconst C dX8_isStreet_16 (by decide +kernel) (S_goto (tgt := 21) C dX8_isStreet_17 (by decide)))))))))))))
    (S_iconst C dX8_isStreet_20 (by decide +kernel) (fun _ _ _ _ _ _ h9 => h9))
    (S_zret C hQ hr dX8_isStreet_21))
theorem dX8_lineOf_0 : decode cX8_lineOf 0 = .ok (.iload_n 0, 1) := by decide +kernel
theorem dX8_lineOf_1 : decode cX8_lineOf 1 = .ok (.bipush 8, 2) := by decide +kernel
theorem dX8_lineOf_3 : decode cX8_lineOf 3 = .ok (.idiv, 1) := by decide +kernel
theorem dX8_lineOf_4 : decode cX8_lineOf 4 = .ok (.istore_n 2, 1) := by decide +kernel
theorem dX8_lineOf_5 : decode cX8_lineOf 5 = .ok (.iload_n 0, 1) := by decide +kernel
theorem dX8_lineOf_6 : decode cX8_lineOf 6 = .ok (.bipush 8, 2) := by decide +kernel
theorem dX8_lineOf_8 : decode cX8_lineOf 8 = .ok (.irem, 1) := by decide +kernel
theorem dX8_lineOf_9 : decode cX8_lineOf 9 = .ok (.istore_n 3, 1) := by decide +kernel
theorem dX8_lineOf_10 : decode cX8_lineOf 10 = .ok (.iconst 2, 1) := by decide +kernel
theorem dX8_lineOf_11 : decode cX8_lineOf 11 = .ok (.iload_n 1, 1) := by decide +kernel
theorem dX8_lineOf_12 : decode cX8_lineOf 12 = .ok (.bipush 9, 2) := by decide +kernel
theorem dX8_lineOf_14 : decode cX8_lineOf 14 = .ok (.idiv, 1) := by decide +kernel
theorem dX8_lineOf_15 : decode cX8_lineOf 15 = .ok (.imul, 1) := by decide +kernel
theorem dX8_lineOf_16 : decode cX8_lineOf 16 = .ok (.iconst 2, 1) := by decide +kernel
theorem dX8_lineOf_17 : decode cX8_lineOf 17 = .ok (.iload_n 2, 1) := by decide +kernel
theorem dX8_lineOf_18 : decode cX8_lineOf 18 = .ok (.imul, 1) := by decide +kernel
theorem dX8_lineOf_19 : decode cX8_lineOf 19 = .ok (.iconst 1, 1) := by decide +kernel
theorem dX8_lineOf_20 : decode cX8_lineOf 20 = .ok (.iadd, 1) := by decide +kernel
theorem dX8_lineOf_21 : decode cX8_lineOf 21 = .ok (.isub, 1) := by decide +kernel
theorem dX8_lineOf_22 : decode cX8_lineOf 22 = .ok (.istore 4, 2) := by decide +kernel
theorem dX8_lineOf_24 : decode cX8_lineOf 24 = .ok (.iconst 2, 1) := by decide +kernel
theorem dX8_lineOf_25 : decode cX8_lineOf 25 = .ok (.iload_n 1, 1) := by decide +kernel
theorem dX8_lineOf_26 : decode cX8_lineOf 26 = .ok (.bipush 9, 2) := by decide +kernel
theorem dX8_lineOf_28 : decode cX8_lineOf 28 = .ok (.irem, 1) := by decide +kernel
theorem dX8_lineOf_29 : decode cX8_lineOf 29 = .ok (.imul, 1) := by decide +kernel
theorem dX8_lineOf_30 : decode cX8_lineOf 30 = .ok (.iconst 2, 1) := by decide +kernel
theorem dX8_lineOf_31 : decode cX8_lineOf 31 = .ok (.iload_n 3, 1) := by decide +kernel
theorem dX8_lineOf_32 : decode cX8_lineOf 32 = .ok (.imul, 1) := by decide +kernel
theorem dX8_lineOf_33 : decode cX8_lineOf 33 = .ok (.iconst 1, 1) := by decide +kernel
theorem dX8_lineOf_34 : decode cX8_lineOf 34 = .ok (.iadd, 1) := by decide +kernel
theorem dX8_lineOf_35 : decode cX8_lineOf 35 = .ok (.isub, 1) := by decide +kernel
theorem dX8_lineOf_36 : decode cX8_lineOf 36 = .ok (.istore 5, 2) := by decide +kernel
theorem dX8_lineOf_38 : decode cX8_lineOf 38 = .ok (.iload 4, 2) := by decide +kernel
theorem dX8_lineOf_40 : decode cX8_lineOf 40 = .ok (.invokestatic 45, 3) := by decide +kernel
theorem dX8_lineOf_43 : decode cX8_lineOf 43 = .ok (.istore 6, 2) := by decide +kernel
theorem dX8_lineOf_45 : decode cX8_lineOf 45 = .ok (.iload 5, 2) := by decide +kernel
theorem dX8_lineOf_47 : decode cX8_lineOf 47 = .ok (.invokestatic 45, 3) := by decide +kernel
theorem dX8_lineOf_50 : decode cX8_lineOf 50 = .ok (.istore 7, 2) := by decide +kernel
theorem dX8_lineOf_52 : decode cX8_lineOf 52 = .ok (.iload 4, 2) := by decide +kernel
theorem dX8_lineOf_54 : decode cX8_lineOf 54 = .ok (.ifCond .le 7, 3) := by decide +kernel
theorem dX8_lineOf_57 : decode cX8_lineOf 57 = .ok (.iconst 1, 1) := by decide +kernel
theorem dX8_lineOf_58 : decode cX8_lineOf 58 = .ok (.goto 4, 3) := by decide +kernel
theorem dX8_lineOf_61 : decode cX8_lineOf 61 = .ok (.iconst (-1), 1) := by decide +kernel
theorem dX8_lineOf_62 : decode cX8_lineOf 62 = .ok (.istore 8, 2) := by decide +kernel
theorem dX8_lineOf_64 : decode cX8_lineOf 64 = .ok (.iload 5, 2) := by decide +kernel
theorem dX8_lineOf_66 : decode cX8_lineOf 66 = .ok (.ifCond .le 7, 3) := by decide +kernel
theorem dX8_lineOf_69 : decode cX8_lineOf 69 = .ok (.iconst 1, 1) := by decide +kernel
theorem dX8_lineOf_70 : decode cX8_lineOf 70 = .ok (.goto 4, 3) := by decide +kernel
theorem dX8_lineOf_73 : decode cX8_lineOf 73 = .ok (.iconst (-1), 1) := by decide +kernel
theorem dX8_lineOf_74 : decode cX8_lineOf 74 = .ok (.istore 9, 2) := by decide +kernel
theorem dX8_lineOf_76 : decode cX8_lineOf 76 = .ok (.iconst 1, 1) := by decide +kernel
theorem dX8_lineOf_77 : decode cX8_lineOf 77 = .ok (.istore 10, 2) := by decide +kernel
theorem dX8_lineOf_79 : decode cX8_lineOf 79 = .ok (.iconst 1, 1) := by decide +kernel
theorem dX8_lineOf_80 : decode cX8_lineOf 80 = .ok (.istore 11, 2) := by decide +kernel
theorem dX8_lineOf_82 : decode cX8_lineOf 82 = .ok (.lconst 1, 1) := by decide +kernel
theorem dX8_lineOf_83 : decode cX8_lineOf 83 = .ok (.iload_n 0, 1) := by decide +kernel
theorem dX8_lineOf_84 : decode cX8_lineOf 84 = .ok (.lshl, 1) := by decide +kernel
theorem dX8_lineOf_85 : decode cX8_lineOf 85 = .ok (.lstore 12, 2) := by decide +kernel
theorem dX8_lineOf_87 : decode cX8_lineOf 87 = .ok (.iconst 0, 1) := by decide +kernel
theorem dX8_lineOf_88 : decode cX8_lineOf 88 = .ok (.istore 14, 2) := by decide +kernel
theorem dX8_lineOf_90 : decode cX8_lineOf 90 = .ok (.iload 14, 2) := by decide +kernel
theorem dX8_lineOf_92 : decode cX8_lineOf 92 = .ok (.bipush 14, 2) := by decide +kernel
theorem dX8_lineOf_94 : decode cX8_lineOf 94 = .ok (.if_icmp .ge 75, 3) := by decide +kernel
theorem dX8_lineOf_97 : decode cX8_lineOf 97 = .ok (.iload 10, 2) := by decide +kernel
theorem dX8_lineOf_99 : decode cX8_lineOf 99 = .ok (.iload 6, 2) := by decide +kernel
theorem dX8_lineOf_101 : decode cX8_lineOf 101 = .ok (.if_icmp .lt 10, 3) := by decide +kernel
theorem dX8_lineOf_104 : decode cX8_lineOf 104 = .ok (.iload 11, 2) := by decide +kernel
theorem dX8_lineOf_106 : decode cX8_lineOf 106 = .ok (.iload 7, 2) := by decide +kernel
theorem dX8_lineOf_108 : decode cX8_lineOf 108 = .ok (.if_icmp .ge 61, 3) := by decide +kernel
theorem dX8_lineOf_111 : decode cX8_lineOf 111 = .ok (.iload 10, 2) := by decide +kernel
theorem dX8_lineOf_113 : decode cX8_lineOf 113 = .ok (.iload 7, 2) := by decide +kernel
theorem dX8_lineOf_115 : decode cX8_lineOf 115 = .ok (.imul, 1) := by decide +kernel
theorem dX8_lineOf_116 : decode cX8_lineOf 116 = .ok (.iload 11, 2) := by decide +kernel
theorem dX8_lineOf_118 : decode cX8_lineOf 118 = .ok (.iload 6, 2) := by decide +kernel
theorem dX8_lineOf_120 : decode cX8_lineOf 120 = .ok (.imul, 1) := by decide +kernel
theorem dX8_lineOf_121 : decode cX8_lineOf 121 = .ok (.isub, 1) := by decide +kernel
theorem dX8_lineOf_122 : decode cX8_lineOf 122 = .ok (.istore 15, 2) := by decide +kernel
theorem dX8_lineOf_124 : decode cX8_lineOf 124 = .ok (.iload 15, 2) := by decide +kernel
theorem dX8_lineOf_126 : decode cX8_lineOf 126 = .ok (.ifCond .gt 11, 3) := by decide +kernel
theorem dX8_lineOf_129 : decode cX8_lineOf 129 = .ok (.iload_n 2, 1) := by decide +kernel
theorem dX8_lineOf_130 : decode cX8_lineOf 130 = .ok (.iload 8, 2) := by decide +kernel
theorem dX8_lineOf_132 : decode cX8_lineOf 132 = .ok (.iadd, 1) := by decide +kernel
theorem dX8_lineOf_133 : decode cX8_lineOf 133 = .ok (.istore_n 2, 1) := by decide +kernel
theorem dX8_lineOf_134 : decode cX8_lineOf 134 = .ok (.iinc 10 2, 3) := by decide +kernel
theorem dX8_lineOf_137 : decode cX8_lineOf 137 = .ok (.iload 15, 2) := by decide +kernel
theorem dX8_lineOf_139 : decode cX8_lineOf 139 = .ok (.ifCond .lt 11, 3) := by decide +kernel
theorem dX8_lineOf_142 : decode cX8_lineOf 142 = .ok (.iload_n 3, 1) := by decide +kernel
theorem dX8_lineOf_143 : decode cX8_lineOf 143 = .ok (.iload 9, 2) := by decide +kernel
theorem dX8_lineOf_145 : decode cX8_lineOf 145 = .ok (.iadd, 1) := by decide +kernel
theorem dX8_lineOf_146 : decode cX8_lineOf 146 = .ok (.istore_n 3, 1) := by decide +kernel
theorem dX8_lineOf_147 : decode cX8_lineOf 147 = .ok (.iinc 11 2, 3) := by decide +kernel
theorem dX8_lineOf_150 : decode cX8_lineOf 150 = .ok (.lload 12, 2) := by decide +kernel
theorem dX8_lineOf_152 : decode cX8_lineOf 152 = .ok (.lconst 1, 1) := by decide +kernel
theorem dX8_lineOf_153 : decode cX8_lineOf 153 = .ok (.bipush 8, 2) := by decide +kernel
theorem dX8_lineOf_155 : decode cX8_lineOf 155 = .ok (.iload_n 2, 1) := by decide +kernel
theorem dX8_lineOf_156 : decode cX8_lineOf 156 = .ok (.imul, 1) := by decide +kernel
theorem dX8_lineOf_157 : decode cX8_lineOf 157 = .ok (.iload_n 3, 1) := by decide +kernel
theorem dX8_lineOf_158 : decode cX8_lineOf 158 = .ok (.iadd, 1) := by decide +kernel
theorem dX8_lineOf_159 : decode cX8_lineOf 159 = .ok (.lshl, 1) := by decide +kernel
theorem dX8_lineOf_160 : decode cX8_lineOf 160 = .ok (.lor, 1) := by decide +kernel
theorem dX8_lineOf_161 : decode cX8_lineOf 161 = .ok (.lstore 12, 2) := by decide +kernel
theorem dX8_lineOf_163 : decode cX8_lineOf 163 = .ok (.iinc 14 1, 3) := by decide +kernel
theorem dX8_lineOf_166 : decode cX8_lineOf 166 = .ok (.goto (-76), 3) := by decide +kernel
theorem dX8_lineOf_169 : decode cX8_lineOf 169 = .ok (.lload 12, 2) := by decide +kernel
theorem dX8_lineOf_171 : decode cX8_lineOf 171 = .ok (.lreturn, 1) := by decide +kernel
def k_X8_lineOf_0 (F : FT) (Q : QT) : KT := o_iload 0 (o_ic (nI 8) (o_idiv (o_istore 2 (o_iload 0 (o_ic (nI 8) (o_irem (o_istore 3 (o_ic (nI 2) (o_iload 1 (o_ic (nI 9) (o_idiv (o_imul (o_ic (nI 2) (o_iload 2 (o_imul (o_ic (nI 1) (o_iadd (o_isub (o_istore 4 (o_ic (nI 2) (o_iload 1 (o_ic (nI 9) (o_irem (o_imul (o_ic (nI 2) (o_iload 3 (o_imul (o_ic (nI 1) (o_iadd (o_isub (o_istore 5 (o_iload 4 (o_mabs (o_istore 6 (o_iload 5 (o_mabs (o_istore 7 (o_iload 4 (o_ifle (F 61) (o_ic (nI 1) (F 62)))))))))))))))))))))))))))))))))))))))))
def k_X8_lineOf_61 (F : FT) (Q : QT) : KT := o_ic (-1) (F 62)
def k_X8_lineOf_62 (F : FT) (Q : QT) : KT := o_istore 8 (o_iload 5 (o_ifle (F 73) (o_ic (nI 1) (F 74))))
def k_X8_lineOf_73 (F : FT) (Q : QT) : KT := o_ic (-1) (F 74)
def k_X8_lineOf_74 (F : FT) (Q : QT) : KT := o_istore 9 (o_ic (nI 1) (o_istore 10 (o_ic (nI 1) (o_istore 11 (o_lc (lN 1) (o_iload 0 (o_lshl (o_lstore 12 (o_ic (nI 0) (o_istore 14 (F 90)))))))))))
def k_X8_lineOf_90 (F : FT) (Q : QT) : KT := o_iload 14 (o_ic (nI 14) (o_icge (F 169) (o_iload 10 (o_iload 6 (o_iclt (F 111) (o_iload 11 (o_iload 7 (o_icge (F 169) (F 111)))))))))
def k_X8_lineOf_111 (F : FT) (Q : QT) : KT := o_iload 10 (o_iload 7 (o_imul (o_iload 11 (o_iload 6 (o_imul (o_isub (o_istore 15 (o_iload 15 (o_ifgt (F 137) (o_iload 2 (o_iload 8 (o_iadd (o_istore 2 (o_iinc 10 (nI 2) (F 137)))))))))))))))
def k_X8_lineOf_137 (F : FT) (Q : QT) : KT := o_iload 15 (o_iflt (F 150) (o_iload 3 (o_iload 9 (o_iadd (o_istore 3 (o_iinc 11 (nI 2) (F 150)))))))
def k_X8_lineOf_150 (F : FT) (Q : QT) : KT := o_lload 12 (o_lc (lN 1) (o_ic (nI 8) (o_iload 2 (o_imul (o_iload 3 (o_iadd (o_lshl (o_lor (o_lstore 12 (o_iinc 14 (nI 1) (F 90)))))))))))
def k_X8_lineOf_169 (F : FT) (Q : QT) : KT := o_lload 12 (o_lret Q)
set_option maxRecDepth 20000 in
theorem r_X8_lineOf {a0 : Int32} {a1 : Int32} {n : Nat} {R : RR} {I : II} {J : JJ} {Q : QT} (hn : n + 0 ≤ 90) (h : ∀ F : FT, al_Wk F → al_Ok F (k_X8_lineOf_0 F Q) 0 → al_Ok F (k_X8_lineOf_61 F Q) 61 → al_Ok F (k_X8_lineOf_62 F Q) 62 → al_Ok F (k_X8_lineOf_73 F Q) 73 → al_Ok F (k_X8_lineOf_74 F Q) 74 → al_Ok F (k_X8_lineOf_90 F Q) 90 → al_Ok F (k_X8_lineOf_111 F Q) 111 → al_Ok F (k_X8_lineOf_137 F Q) 137 → al_Ok F (k_X8_lineOf_150 F Q) 150 → al_Ok F (k_X8_lineOf_169 F Q) 169 → F 0 [some (.int a0), some (.int a1), none, none, none, none, none, none, none, none, none, none, none, none, none, none] [] n R I J) : CT m_X8_lineOf 0 [.int a0, .int a1] n R I J Q :=
  CT.of (by decide) hn (fun _ => rfl) (fun _ => Nat.le_of_ble_eq_true rfl) (fun F p l e s m args below meth c Rm t Q0 C hQ hr hm => h F (fun _ _ _ _ _ _ _ _ => S_wk C)
    (S_iload_n C dX8_lineOf_0 rfl (S_bipush C dX8_lineOf_1 (by decide +kernel) (S_idiv C dX8_lineOf_3 (S_istore_n C dX8_lineOf_4 rfl (Nat.le_of_ble_eq_true rfl) (S_iload_n C dX8_lineOf_5 rfl (S_bipush C dX8_lineOf_6 (by decide +kernel) (S_irem C dX8_lineOf_8 (S_istore_n C dX8_lineOf_9 rfl (Nat.le_of_ble_eq_true rfl) (S_iconst C dX8_lineOf_10 (by decide +kernel) (S_iload_n C dX8_lineOf_11 rfl (S_bipush C dX8_lineOf_12 (by decide +kernel) (S_idiv C dX8_lineOf_14 (S_imul C dX8_lineOf_15 (S_iconst C dX8_lineOf_16 (by decide +kernel) (S_iload_n C dX8_lineOf_17 rfl (S_imul C dX8_lineOf_18 (S_iconst C dX8_lineOf_19 (by decide +kernel) (S_iadd C dX8_lineOf_20 (S_isub C dX8_lineOf_21 (S_istore C dX8_lineOf_22 (Nat.le_of_ble_eq_true rfl) (S_iconst C dX8_lineOf_24 (by decide +kernel) (S_iload_n C dX8_lineOf_25 rfl (S_bipush C dX8_lineOf_26 (by decide +kernel) (S_irem C dX8_lineOf_28 (S_imul C dX8_lineOf_29 (S_iconst C dX8_lineOf_30 (by decide +kernel) (S_iload_n C dX8_lineOf_31 rfl (S_imul C dX8_lineOf_32 (S_iconst C dX8_lineOf_33 (by decide +kernel) (S_iadd C dX8_lineOf_34 (S_isub C dX8_lineOf_35 (S_istore C dX8_lineOf_36 (Nat.le_of_ble_eq_true rfl) (S_iload C dX8_lineOf_38 (S_mabs C (al_at 413 (by decide +kernel) rfl) (al_at 414 (by decide +kernel) rfl) (al_at 73 (by decide +kernel) rfl) (al_at 415 (by decide +kernel) rfl) (Nat.le_of_ble_eq_true rfl) (Nat.le_of_ble_eq_true rfl) dX8_lineOf_40 (S_istore C dX8_lineOf_43 (Nat.le_of_ble_eq_true rfl) (S_iload C dX8_lineOf_45 (S_mabs C (al_at 413 (by decide +kernel) rfl) (al_at 414 (by decide +kernel) rfl) (al_at 73 (by decide +kernel) rfl) (al_at 415 (by decide +kernel) rfl) (Nat.le_of_ble_eq_true rfl) (Nat.le_of_ble_eq_true rfl) dX8_lineOf_47 (S_istore C dX8_lineOf_50 (Nat.le_of_ble_eq_true rfl) (S_iload C dX8_lineOf_52 (S_ifle (tgt := 61) C dX8_lineOf_54 (by decide) (S_iconst C dX8_lineOf_57 (by decide +kernel) (S_goto (tgt := 62) C dX8_lineOf_58 (by decide)))))))))))))))))))))))))))))))))))))))))))
    (S_iconst C dX8_lineOf_61 (by decide +kernel) (fun _ _ _ _ _ _ h9 => h9))
    (S_istore C dX8_lineOf_62 (Nat.le_of_ble_eq_true rfl) (S_iload C dX8_lineOf_64 (S_ifle (tgt := 73) C dX8_lineOf_66 (by decide) (S_iconst C dX8_lineOf_69 (by decide +kernel) (S_goto (tgt := 74) C dX8_lineOf_70 (by decide))))))
    (S_iconst C dX8_lineOf_73 (by decide +kernel) (fun _ _ _ _ _ _ h9 => h9))
    (S_istore C dX8_lineOf_74 (Nat.le_of_ble_eq_true rfl) (S_iconst C dX8_lineOf_76 (by decide +kernel) (S_istore C dX8_lineOf_77 (Nat.le_of_ble_eq_true rfl) (S_iconst C dX8_lineOf_79 (by decide +kernel) (S_istore C dX8_lineOf_80 (Nat.le_of_ble_eq_true rfl) (S_lconst C dX8_lineOf_82 (by decide +kernel) (S_iload_n C dX8_lineOf_83 rfl (S_lshl C dX8_lineOf_84 (S_lstore C dX8_lineOf_85 (Nat.le_of_ble_eq_true rfl) (S_iconst C dX8_lineOf_87 (by decide +kernel) (S_istore C dX8_lineOf_88 (Nat.le_of_ble_eq_true rfl) (fun _ _ _ _ _ _ h9 => h9))))))))))))
    (S_iload C dX8_lineOf_90 (S_bipush C dX8_lineOf_92 (by decide +kernel) (S_icmpge (tgt := 169) C dX8_lineOf_94 (by decide) (S_iload C dX8_lineOf_97 (S_iload C dX8_lineOf_99 (S_icmplt (tgt := 111) C dX8_lineOf_101 (by decide) (S_iload C dX8_lineOf_104 (S_iload C dX8_lineOf_106 (S_icmpge (tgt := 169) C dX8_lineOf_108 (by decide) (fun _ _ _ _ _ _ h9 => h9))))))))))
    (S_iload C dX8_lineOf_111 (S_iload C dX8_lineOf_113 (S_imul C dX8_lineOf_115 (S_iload C dX8_lineOf_116 (S_iload C dX8_lineOf_118 (S_imul C dX8_lineOf_120 (S_isub C dX8_lineOf_121 (S_istore C dX8_lineOf_122 (Nat.le_of_ble_eq_true rfl) (S_iload C dX8_lineOf_124 (S_ifgt (tgt := 137) C dX8_lineOf_126 (by decide) (S_iload_n C dX8_lineOf_129 rfl (S_iload C dX8_lineOf_130 (S_iadd C dX8_lineOf_132 (S_istore_n C dX8_lineOf_133 rfl (Nat.le_of_ble_eq_true rfl) (S_iinc C dX8_lineOf_134 (by decide +kernel) (Nat.le_of_ble_eq_true rfl) (fun _ _ _ _ _ _ h9 => h9))))))))))))))))
    (S_iload C dX8_lineOf_137 (S_iflt (tgt := 150) C dX8_lineOf_139 (by decide) (S_iload_n C dX8_lineOf_142 rfl (S_iload C dX8_lineOf_143 (S_iadd C dX8_lineOf_145 (S_istore_n C dX8_lineOf_146 rfl (Nat.le_of_ble_eq_true rfl) (S_iinc C dX8_lineOf_147 (by decide +kernel) (Nat.le_of_ble_eq_true rfl) (fun _ _ _ _ _ _ h9 => h9))))))))
    (S_lload C dX8_lineOf_150 (S_lconst C dX8_lineOf_152 (by decide +kernel) (S_bipush C dX8_lineOf_153 (by decide +kernel) (S_iload_n C dX8_lineOf_155 rfl (S_imul C dX8_lineOf_156 (S_iload_n C dX8_lineOf_157 rfl (S_iadd C dX8_lineOf_158 (S_lshl C dX8_lineOf_159 (S_lor C dX8_lineOf_160 (S_lstore C dX8_lineOf_161 (Nat.le_of_ble_eq_true rfl) (S_iinc C dX8_lineOf_163 (by decide +kernel) (Nat.le_of_ble_eq_true rfl) (S_goto (tgt := 90) C dX8_lineOf_166 (by decide)))))))))))))
    (S_lload C dX8_lineOf_169 (S_lret C hQ hr dX8_lineOf_171)))
theorem dX8_lookAround_0 : decode cX8_lookAround 0 = .ok (.aload_n 0, 1) := by decide +kernel
theorem dX8_lookAround_1 : decode cX8_lookAround 1 = .ok (.getfield 31, 3) := by decide +kernel
theorem dX8_lookAround_4 : decode cX8_lookAround 4 = .ok (.lconst 0, 1) := by decide +kernel
theorem dX8_lookAround_5 : decode cX8_lookAround 5 = .ok (.invokestatic 110, 3) := by decide +kernel
theorem dX8_lookAround_8 : decode cX8_lookAround 8 = .ok (.aload_n 0, 1) := by decide +kernel
theorem dX8_lookAround_9 : decode cX8_lookAround 9 = .ok (.getfield 35, 3) := by decide +kernel
theorem dX8_lookAround_12 : decode cX8_lookAround 12 = .ok (.lconst 0, 1) := by decide +kernel
theorem dX8_lookAround_13 : decode cX8_lookAround 13 = .ok (.invokestatic 110, 3) := by decide +kernel
theorem dX8_lookAround_16 : decode cX8_lookAround 16 = .ok (.iconst 0, 1) := by decide +kernel
theorem dX8_lookAround_17 : decode cX8_lookAround 17 = .ok (.istore_n 1, 1) := by decide +kernel
theorem dX8_lookAround_18 : decode cX8_lookAround 18 = .ok (.iload_n 1, 1) := by decide +kernel
theorem dX8_lookAround_19 : decode cX8_lookAround 19 = .ok (.bipush 81, 2) := by decide +kernel
theorem dX8_lookAround_21 : decode cX8_lookAround 21 = .ok (.if_icmp .ge 25, 3) := by decide +kernel
theorem dX8_lookAround_24 : decode cX8_lookAround 24 = .ok (.aload_n 0, 1) := by decide +kernel
theorem dX8_lookAround_25 : decode cX8_lookAround 25 = .ok (.getfield 9, 3) := by decide +kernel
theorem dX8_lookAround_28 : decode cX8_lookAround 28 = .ok (.iload_n 1, 1) := by decide +kernel
theorem dX8_lookAround_29 : decode cX8_lookAround 29 = .ok (.invokevirtual 113, 3) := by decide +kernel
theorem dX8_lookAround_32 : decode cX8_lookAround 32 = .ok (.ifCond .eq 8, 3) := by decide +kernel
theorem dX8_lookAround_35 : decode cX8_lookAround 35 = .ok (.aload_n 0, 1) := by decide +kernel
theorem dX8_lookAround_36 : decode cX8_lookAround 36 = .ok (.iload_n 1, 1) := by decide +kernel
theorem dX8_lookAround_37 : decode cX8_lookAround 37 = .ok (.invokevirtual 116, 3) := by decide +kernel
theorem dX8_lookAround_40 : decode cX8_lookAround 40 = .ok (.iinc 1 1, 3) := by decide +kernel
theorem dX8_lookAround_43 : decode cX8_lookAround 43 = .ok (.goto (-25), 3) := by decide +kernel
theorem dX8_lookAround_46 : decode cX8_lookAround 46 = .ok (.return_, 1) := by decide +kernel
def k_X8_lookAround_0 (F : FT) (Q : QT) : KT := o_aload 0 (o_getR 8 4 (o_lc (lN 0) (o_cS m_J7_fill_d0a16 2 (o_aload 0 (o_getR 8 5 (o_lc (lN 0) (o_cS m_J7_fill_d0a16 2 (o_ic (nI 0) (o_istore 1 (F 18))))))))))
def k_X8_lookAround_18 (F : FT) (Q : QT) : KT := o_iload 1 (o_ic (nI 81) (o_icge (F 46) (o_aload 0 (o_getR 8 0 (o_iload 1 (o_cV 9 m_X9_ownersAt 2 (o_ifeq (F 40) (o_aload 0 (o_iload 1 (o_cV 8 m_X8_lookAt 2 (F 40)))))))))))
def k_X8_lookAround_40 (F : FT) (Q : QT) : KT := o_iinc 1 (nI 1) (F 18)
def k_X8_lookAround_46 (F : FT) (Q : QT) : KT := o_vret Q
set_option maxRecDepth 20000 in
theorem r_X8_lookAround {a0 : Nat} {n : Nat} {R : RR} {I : II} {J : JJ} {Q : QT} (hn : n + 0 ≤ 90) (h : ∀ F : FT, al_Wk F → al_Ok F (k_X8_lookAround_0 F Q) 0 → al_Ok F (k_X8_lookAround_18 F Q) 18 → al_Ok F (k_X8_lookAround_40 F Q) 40 → al_Ok F (k_X8_lookAround_46 F Q) 46 → F 0 [some (.ref a0), none] [] n R I J) : CT m_X8_lookAround 0 [.ref a0] n R I J Q :=
  CT.of (by decide) hn (fun _ => rfl) (fun _ => Nat.le_of_ble_eq_true rfl) (fun F p l e s m args below meth c Rm t Q0 C hQ hr hm => h F (fun _ _ _ _ _ _ _ _ => S_wk C)
    (S_aload_n C dX8_lookAround_0 rfl (S_getR (ci := 8) (j := 4) C inG8 rfl (Nat.le_of_ble_eq_true rfl) rfl (al_at 213 (by decide +kernel) rfl) dX8_lookAround_1 (S_lconst C dX8_lookAround_4 (by decide +kernel) (S_cS C ok_J7_fill_d0a16 (al_at 614 (by decide +kernel) rfl) (Nat.le_of_ble_eq_true rfl) (Nat.le_of_ble_eq_true rfl) dX8_lookAround_5 (S_aload_n C dX8_lookAround_8 rfl (S_getR (ci := 8) (j := 5) C inG8 rfl (Nat.le_of_ble_eq_true rfl) rfl (al_at 214 (by decide +kernel) rfl) dX8_lookAround_9 (S_lconst C dX8_lookAround_12 (by decide +kernel) (S_cS C ok_J7_fill_d0a16 (al_at 614 (by decide +kernel) rfl) (Nat.le_of_ble_eq_true rfl) (Nat.le_of_ble_eq_true rfl) dX8_lookAround_13 (S_iconst C dX8_lookAround_16 (by decide +kernel) (S_istore_n C dX8_lookAround_17 rfl (Nat.le_of_ble_eq_true rfl) (fun _ _ _ _ _ _ h9 => h9)))))))))))
    (S_iload_n C dX8_lookAround_18 rfl (S_bipush C dX8_lookAround_19 (by decide +kernel) (S_icmpge (tgt := 46) C dX8_lookAround_21 (by decide) (S_aload_n C dX8_lookAround_24 rfl (S_getR (ci := 8) (j := 0) C inG8 rfl (Nat.le_of_ble_eq_true rfl) rfl (al_at 209 (by decide +kernel) rfl) dX8_lookAround_25 (S_iload_n C dX8_lookAround_28 rfl (S_cV (ci := 9) C ok_X9_ownersAt rfl (al_at 617 (by decide +kernel) rfl) (Nat.le_of_ble_eq_true rfl) (Nat.le_of_ble_eq_true rfl) dX8_lookAround_29 (S_ifeq (tgt := 40) C dX8_lookAround_32 (by decide) (S_aload_n C dX8_lookAround_35 rfl (S_iload_n C dX8_lookAround_36 rfl (S_cV (ci := 8) C ok_X8_lookAt rfl (al_at 618 (by decide +kernel) rfl) (Nat.le_of_ble_eq_true rfl) (Nat.le_of_ble_eq_true rfl) dX8_lookAround_37 (fun _ _ _ _ _ _ h9 => h9))))))))))))
    (S_iinc C dX8_lookAround_40 (by decide +kernel) (Nat.le_of_ble_eq_true rfl) (S_goto (tgt := 18) C dX8_lookAround_43 (by decide)))
    (S_vret C hQ hr dX8_lookAround_46))
theorem dX8_lookAt_0 : decode cX8_lookAt 0 = .ok (.iconst 0, 1) := by decide +kernel
theorem dX8_lookAt_1 : decode cX8_lookAt 1 = .ok (.istore_n 2, 1) := by decide +kernel
theorem dX8_lookAt_2 : decode cX8_lookAt 2 = .ok (.iload_n 2, 1) := by decide +kernel
theorem dX8_lookAt_3 : decode cX8_lookAt 3 = .ok (.bipush 64, 2) := by decide +kernel
theorem dX8_lookAt_5 : decode cX8_lookAt 5 = .ok (.if_icmp .ge 62, 3) := by decide +kernel
theorem dX8_lookAt_8 : decode cX8_lookAt 8 = .ok (.aload_n 0, 1) := by decide +kernel
theorem dX8_lookAt_9 : decode cX8_lookAt 9 = .ok (.iload_n 2, 1) := by decide +kernel
theorem dX8_lookAt_10 : decode cX8_lookAt 10 = .ok (.invokevirtual 64, 3) := by decide +kernel
theorem dX8_lookAt_13 : decode cX8_lookAt 13 = .ok (.ifCond .eq 48, 3) := by decide +kernel
theorem dX8_lookAt_16 : decode cX8_lookAt 16 = .ok (.aload_n 0, 1) := by decide +kernel
theorem dX8_lookAt_17 : decode cX8_lookAt 17 = .ok (.iload_n 2, 1) := by decide +kernel
theorem dX8_lookAt_18 : decode cX8_lookAt 18 = .ok (.iload_n 1, 1) := by decide +kernel
theorem dX8_lookAt_19 : decode cX8_lookAt 19 = .ok (.invokevirtual 68, 3) := by decide +kernel
theorem dX8_lookAt_22 : decode cX8_lookAt 22 = .ok (.ifCond .eq 39, 3) := by decide +kernel
theorem dX8_lookAt_25 : decode cX8_lookAt 25 = .ok (.iload_n 1, 1) := by decide +kernel
theorem dX8_lookAt_26 : decode cX8_lookAt 26 = .ok (.bipush 64, 2) := by decide +kernel
theorem dX8_lookAt_28 : decode cX8_lookAt 28 = .ok (.if_icmp .ge 18, 3) := by decide +kernel
theorem dX8_lookAt_31 : decode cX8_lookAt 31 = .ok (.aload_n 0, 1) := by decide +kernel
theorem dX8_lookAt_32 : decode cX8_lookAt 32 = .ok (.getfield 31, 3) := by decide +kernel
theorem dX8_lookAt_35 : decode cX8_lookAt 35 = .ok (.iload_n 2, 1) := by decide +kernel
theorem dX8_lookAt_36 : decode cX8_lookAt 36 = .ok (.dup2, 1) := by decide +kernel
theorem dX8_lookAt_37 : decode cX8_lookAt 37 = .ok (.laload, 1) := by decide +kernel
theorem dX8_lookAt_38 : decode cX8_lookAt 38 = .ok (.lconst 1, 1) := by decide +kernel
theorem dX8_lookAt_39 : decode cX8_lookAt 39 = .ok (.iload_n 1, 1) := by decide +kernel
theorem dX8_lookAt_40 : decode cX8_lookAt 40 = .ok (.lshl, 1) := by decide +kernel
theorem dX8_lookAt_41 : decode cX8_lookAt 41 = .ok (.lor, 1) := by decide +kernel
theorem dX8_lookAt_42 : decode cX8_lookAt 42 = .ok (.lastore, 1) := by decide +kernel
theorem dX8_lookAt_43 : decode cX8_lookAt 43 = .ok (.goto 18, 3) := by decide +kernel
theorem dX8_lookAt_46 : decode cX8_lookAt 46 = .ok (.aload_n 0, 1) := by decide +kernel
theorem dX8_lookAt_47 : decode cX8_lookAt 47 = .ok (.getfield 35, 3) := by decide +kernel
theorem dX8_lookAt_50 : decode cX8_lookAt 50 = .ok (.iload_n 2, 1) := by decide +kernel
theorem dX8_lookAt_51 : decode cX8_lookAt 51 = .ok (.dup2, 1) := by decide +kernel
theorem dX8_lookAt_52 : decode cX8_lookAt 52 = .ok (.laload, 1) := by decide +kernel
theorem dX8_lookAt_53 : decode cX8_lookAt 53 = .ok (.lconst 1, 1) := by decide +kernel
theorem dX8_lookAt_54 : decode cX8_lookAt 54 = .ok (.iload_n 1, 1) := by decide +kernel
theorem dX8_lookAt_55 : decode cX8_lookAt 55 = .ok (.bipush 64, 2) := by decide +kernel
theorem dX8_lookAt_57 : decode cX8_lookAt 57 = .ok (.isub, 1) := by decide +kernel
theorem dX8_lookAt_58 : decode cX8_lookAt 58 = .ok (.lshl, 1) := by decide +kernel
theorem dX8_lookAt_59 : decode cX8_lookAt 59 = .ok (.lor, 1) := by decide +kernel
theorem dX8_lookAt_60 : decode cX8_lookAt 60 = .ok (.lastore, 1) := by decide +kernel
theorem dX8_lookAt_61 : decode cX8_lookAt 61 = .ok (.iinc 2 1, 3) := by decide +kernel
theorem dX8_lookAt_64 : decode cX8_lookAt 64 = .ok (.goto (-62), 3) := by decide +kernel
theorem dX8_lookAt_67 : decode cX8_lookAt 67 = .ok (.return_, 1) := by decide +kernel
def k_X8_lookAt_0 (F : FT) (Q : QT) : KT := o_ic (nI 0) (o_istore 2 (F 2))
def k_X8_lookAt_2 (F : FT) (Q : QT) : KT := o_iload 2 (o_ic (nI 64) (o_icge (F 67) (o_aload 0 (o_iload 2 (o_cV 8 m_X8_isStreet 2 (o_ifeq (F 61) (o_aload 0 (o_iload 2 (o_iload 1 (o_cV 8 m_X8_reaches 3 (o_ifeq (F 61) (o_iload 1 (o_ic (nI 64) (o_icge (F 46) (o_aload 0 (o_getR 8 4 (o_iload 2 (o_dup2 (o_lald (o_lc (lN 1) (o_iload 1 (o_lshl (o_lor (o_last (F 61)))))))))))))))))))))))))
def k_X8_lookAt_46 (F : FT) (Q : QT) : KT := o_aload 0 (o_getR 8 5 (o_iload 2 (o_dup2 (o_lald (o_lc (lN 1) (o_iload 1 (o_ic (nI 64) (o_isub (o_lshl (o_lor (o_last (F 61))))))))))))
def k_X8_lookAt_61 (F : FT) (Q : QT) : KT := o_iinc 2 (nI 1) (F 2)
def k_X8_lookAt_67 (F : FT) (Q : QT) : KT := o_vret Q
set_option maxRecDepth 20000 in
theorem r_X8_lookAt {a0 : Nat} {a1 : Int32} {n : Nat} {R : RR} {I : II} {J : JJ} {Q : QT} (hn : n + 0 ≤ 90) (h : ∀ F : FT, al_Wk F → al_Ok F (k_X8_lookAt_0 F Q) 0 → al_Ok F (k_X8_lookAt_2 F Q) 2 → al_Ok F (k_X8_lookAt_46 F Q) 46 → al_Ok F (k_X8_lookAt_61 F Q) 61 → al_Ok F (k_X8_lookAt_67 F Q) 67 → F 0 [some (.ref a0), some (.int a1), none] [] n R I J) : CT m_X8_lookAt 0 [.ref a0, .int a1] n R I J Q :=
  CT.of (by decide) hn (fun _ => rfl) (fun _ => Nat.le_of_ble_eq_true rfl) (fun F p l e s m args below meth c Rm t Q0 C hQ hr hm => h F (fun _ _ _ _ _ _ _ _ => S_wk C)
    (S_iconst C dX8_lookAt_0 (by decide +kernel) (S_istore_n C dX8_lookAt_1 rfl (Nat.le_of_ble_eq_true rfl) (fun _ _ _ _ _ _ h9 => h9)))
    (S_iload_n C dX8_lookAt_2 rfl (S_bipush C dX8_lookAt_3 (by decide +kernel) (S_icmpge (tgt := 67) C dX8_lookAt_5 (by decide) (S_aload_n C dX8_lookAt_8 rfl (S_iload_n C dX8_lookAt_9 rfl (S_cV (ci := 8) C ok_X8_isStreet rfl (al_at 402 (by decide +kernel) rfl) (Nat.le_of_ble_eq_true rfl) (Nat.le_of_ble_eq_true rfl) dX8_lookAt_10 (S_ifeq (tgt := 61) C dX8_lookAt_13 (by decide) (S_aload_n C dX8_lookAt_16 rfl (S_iload_n C dX8_lookAt_17 rfl (S_iload_n C dX8_lookAt_18 rfl (S_cV (ci := 8) C ok_X8_reaches rfl (al_at 406 (by decide +kernel) rfl) (Nat.le_of_ble_eq_true rfl) (Nat.le_of_ble_eq_true rfl) dX8_lookAt_19 (S_ifeq (tgt := 61) C dX8_lookAt_22 (by decide) (S_iload_n C dX8_lookAt_25 rfl (S_bipush C dX8_lookAt_26 (by decide +kernel) (S_icmpge (tgt := 46) C dX8_lookAt_28 (by decide) (S_aload_n C dX8_lookAt_31 rfl (S_getR (ci := 8) (j := 4) C inG8 rfl (Nat.le_of_ble_eq_true rfl) rfl (al_at 213 (by decide +kernel) rfl) dX8_lookAt_32 (S_iload_n C dX8_lookAt_35 rfl (S_dup2 C dX8_lookAt_36 (S_lald C dX8_lookAt_37 (S_lconst C dX8_lookAt_38 (by decide +kernel) (S_iload_n C dX8_lookAt_39 rfl (S_lshl C dX8_lookAt_40 (S_lor C dX8_lookAt_41 (S_last C dX8_lookAt_42 (S_goto (tgt := 61) C dX8_lookAt_43 (by decide)))))))))))))))))))))))))))
    (S_aload_n C dX8_lookAt_46 rfl (S_getR (ci := 8) (j := 5) C inG8 rfl (Nat.le_of_ble_eq_true rfl) rfl (al_at 214 (by decide +kernel) rfl) dX8_lookAt_47 (S_iload_n C dX8_lookAt_50 rfl (S_dup2 C dX8_lookAt_51 (S_lald C dX8_lookAt_52 (S_lconst C dX8_lookAt_53 (by decide +kernel) (S_iload_n C dX8_lookAt_54 rfl (S_bipush C dX8_lookAt_55 (by decide +kernel) (S_isub C dX8_lookAt_57 (S_lshl C dX8_lookAt_58 (S_lor C dX8_lookAt_59 (S_last C dX8_lookAt_60 (fun _ _ _ _ _ _ h9 => h9)))))))))))))
    (S_iinc C dX8_lookAt_61 (by decide +kernel) (Nat.le_of_ble_eq_true rfl) (S_goto (tgt := 2) C dX8_lookAt_64 (by decide)))
    (S_vret C hQ hr dX8_lookAt_67))
theorem dX8_planTour_0 : decode cX8_planTour 0 = .ok (.aload_n 0, 1) := by decide +kernel
theorem dX8_planTour_1 : decode cX8_planTour 1 = .ok (.getfield 41, 3) := by decide +kernel
theorem dX8_planTour_4 : decode cX8_planTour 4 = .ok (.iconst (-1), 1) := by decide +kernel
theorem dX8_planTour_5 : decode cX8_planTour 5 = .ok (.if_icmp .eq 4, 3) := by decide +kernel
theorem dX8_planTour_8 : decode cX8_planTour 8 = .ok (.return_, 1) := by decide +kernel
theorem dX8_planTour_9 : decode cX8_planTour 9 = .ok (.aload_n 0, 1) := by decide +kernel
theorem dX8_planTour_10 : decode cX8_planTour 10 = .ok (.invokevirtual 101, 3) := by decide +kernel
theorem dX8_planTour_13 : decode cX8_planTour 13 = .ok (.lconst 0, 1) := by decide +kernel
theorem dX8_planTour_14 : decode cX8_planTour 14 = .ok (.lstore_n 1, 1) := by decide +kernel
theorem dX8_planTour_15 : decode cX8_planTour 15 = .ok (.lconst 0, 1) := by decide +kernel
theorem dX8_planTour_16 : decode cX8_planTour 16 = .ok (.lstore_n 3, 1) := by decide +kernel
theorem dX8_planTour_17 : decode cX8_planTour 17 = .ok (.iconst 0, 1) := by decide +kernel
theorem dX8_planTour_18 : decode cX8_planTour 18 = .ok (.istore 5, 2) := by decide +kernel
theorem dX8_planTour_20 : decode cX8_planTour 20 = .ok (.iload 5, 2) := by decide +kernel
theorem dX8_planTour_22 : decode cX8_planTour 22 = .ok (.bipush 64, 2) := by decide +kernel
theorem dX8_planTour_24 : decode cX8_planTour 24 = .ok (.if_icmp .ge 29, 3) := by decide +kernel
theorem dX8_planTour_27 : decode cX8_planTour 27 = .ok (.lload_n 1, 1) := by decide +kernel
theorem dX8_planTour_28 : decode cX8_planTour 28 = .ok (.aload_n 0, 1) := by decide +kernel
theorem dX8_planTour_29 : decode cX8_planTour 29 = .ok (.getfield 31, 3) := by decide +kernel
theorem dX8_planTour_32 : decode cX8_planTour 32 = .ok (.iload 5, 2) := by decide +kernel
theorem dX8_planTour_34 : decode cX8_planTour 34 = .ok (.laload, 1) := by decide +kernel
theorem dX8_planTour_35 : decode cX8_planTour 35 = .ok (.lor, 1) := by decide +kernel
theorem dX8_planTour_36 : decode cX8_planTour 36 = .ok (.lstore_n 1, 1) := by decide +kernel
theorem dX8_planTour_37 : decode cX8_planTour 37 = .ok (.lload_n 3, 1) := by decide +kernel
theorem dX8_planTour_38 : decode cX8_planTour 38 = .ok (.aload_n 0, 1) := by decide +kernel
theorem dX8_planTour_39 : decode cX8_planTour 39 = .ok (.getfield 35, 3) := by decide +kernel
theorem dX8_planTour_42 : decode cX8_planTour 42 = .ok (.iload 5, 2) := by decide +kernel
theorem dX8_planTour_44 : decode cX8_planTour 44 = .ok (.laload, 1) := by decide +kernel
theorem dX8_planTour_45 : decode cX8_planTour 45 = .ok (.lor, 1) := by decide +kernel
theorem dX8_planTour_46 : decode cX8_planTour 46 = .ok (.lstore_n 3, 1) := by decide +kernel
theorem dX8_planTour_47 : decode cX8_planTour 47 = .ok (.iinc 5 1, 3) := by decide +kernel
theorem dX8_planTour_50 : decode cX8_planTour 50 = .ok (.goto (-30), 3) := by decide +kernel
theorem dX8_planTour_53 : decode cX8_planTour 53 = .ok (.aload_n 0, 1) := by decide +kernel
theorem dX8_planTour_54 : decode cX8_planTour 54 = .ok (.iconst 0, 1) := by decide +kernel
theorem dX8_planTour_55 : decode cX8_planTour 55 = .ok (.putfield 41, 3) := by decide +kernel
theorem dX8_planTour_58 : decode cX8_planTour 58 = .ok (.iconst 0, 1) := by decide +kernel
theorem dX8_planTour_59 : decode cX8_planTour 59 = .ok (.istore 5, 2) := by decide +kernel
theorem dX8_planTour_61 : decode cX8_planTour 61 = .ok (.iload 5, 2) := by decide +kernel
theorem dX8_planTour_63 : decode cX8_planTour 63 = .ok (.bipush 64, 2) := by decide +kernel
theorem dX8_planTour_65 : decode cX8_planTour 65 = .ok (.if_icmp .ge 72, 3) := by decide +kernel
theorem dX8_planTour_68 : decode cX8_planTour 68 = .ok (.lload_n 1, 1) := by decide +kernel
theorem dX8_planTour_69 : decode cX8_planTour 69 = .ok (.lload_n 3, 1) := by decide +kernel
theorem dX8_planTour_70 : decode cX8_planTour 70 = .ok (.lor, 1) := by decide +kernel
theorem dX8_planTour_71 : decode cX8_planTour 71 = .ok (.lconst 0, 1) := by decide +kernel
theorem dX8_planTour_72 : decode cX8_planTour 72 = .ok (.lcmp, 1) := by decide +kernel
theorem dX8_planTour_73 : decode cX8_planTour 73 = .ok (.ifCond .eq 64, 3) := by decide +kernel
theorem dX8_planTour_76 : decode cX8_planTour 76 = .ok (.aload_n 0, 1) := by decide +kernel
theorem dX8_planTour_77 : decode cX8_planTour 77 = .ok (.lload_n 1, 1) := by decide +kernel
theorem dX8_planTour_78 : decode cX8_planTour 78 = .ok (.lload_n 3, 1) := by decide +kernel
theorem dX8_planTour_79 : decode cX8_planTour 79 = .ok (.invokevirtual 104, 3) := by decide +kernel
theorem dX8_planTour_82 : decode cX8_planTour 82 = .ok (.istore 6, 2) := by decide +kernel
theorem dX8_planTour_84 : decode cX8_planTour 84 = .ok (.aload_n 0, 1) := by decide +kernel
theorem dX8_planTour_85 : decode cX8_planTour 85 = .ok (.getfield 38, 3) := by decide +kernel
theorem dX8_planTour_88 : decode cX8_planTour 88 = .ok (.iload 5, 2) := by decide +kernel
theorem dX8_planTour_90 : decode cX8_planTour 90 = .ok (.iload 6, 2) := by decide +kernel
theorem dX8_planTour_92 : decode cX8_planTour 92 = .ok (.iastore, 1) := by decide +kernel
theorem dX8_planTour_93 : decode cX8_planTour 93 = .ok (.aload_n 0, 1) := by decide +kernel
theorem dX8_planTour_94 : decode cX8_planTour 94 = .ok (.dup, 1) := by decide +kernel
theorem dX8_planTour_95 : decode cX8_planTour 95 = .ok (.getfield 41, 3) := by decide +kernel
theorem dX8_planTour_98 : decode cX8_planTour 98 = .ok (.iconst 1, 1) := by decide +kernel
theorem dX8_planTour_99 : decode cX8_planTour 99 = .ok (.iadd, 1) := by decide +kernel
theorem dX8_planTour_100 : decode cX8_planTour 100 = .ok (.putfield 41, 3) := by decide +kernel
theorem dX8_planTour_103 : decode cX8_planTour 103 = .ok (.lload_n 1, 1) := by decide +kernel
theorem dX8_planTour_104 : decode cX8_planTour 104 = .ok (.aload_n 0, 1) := by decide +kernel
theorem dX8_planTour_105 : decode cX8_planTour 105 = .ok (.getfield 31, 3) := by decide +kernel
theorem dX8_planTour_108 : decode cX8_planTour 108 = .ok (.iload 6, 2) := by decide +kernel
theorem dX8_planTour_110 : decode cX8_planTour 110 = .ok (.laload, 1) := by decide +kernel
theorem dX8_planTour_111 : decode cX8_planTour 111 = .ok (.ldc2_w 108, 3) := by decide +kernel
theorem dX8_planTour_114 : decode cX8_planTour 114 = .ok (.lxor, 1) := by decide +kernel
theorem dX8_planTour_115 : decode cX8_planTour 115 = .ok (.land, 1) := by decide +kernel
theorem dX8_planTour_116 : decode cX8_planTour 116 = .ok (.lstore_n 1, 1) := by decide +kernel
theorem dX8_planTour_117 : decode cX8_planTour 117 = .ok (.lload_n 3, 1) := by decide +kernel
theorem dX8_planTour_118 : decode cX8_planTour 118 = .ok (.aload_n 0, 1) := by decide +kernel
theorem dX8_planTour_119 : decode cX8_planTour 119 = .ok (.getfield 35, 3) := by decide +kernel
theorem dX8_planTour_122 : decode cX8_planTour 122 = .ok (.iload 6, 2) := by decide +kernel
theorem dX8_planTour_124 : decode cX8_planTour 124 = .ok (.laload, 1) := by decide +kernel
theorem dX8_planTour_125 : decode cX8_planTour 125 = .ok (.ldc2_w 108, 3) := by decide +kernel
theorem dX8_planTour_128 : decode cX8_planTour 128 = .ok (.lxor, 1) := by decide +kernel
theorem dX8_planTour_129 : decode cX8_planTour 129 = .ok (.land, 1) := by decide +kernel
theorem dX8_planTour_130 : decode cX8_planTour 130 = .ok (.lstore_n 3, 1) := by decide +kernel
theorem dX8_planTour_131 : decode cX8_planTour 131 = .ok (.iinc 5 1, 3) := by decide +kernel
theorem dX8_planTour_134 : decode cX8_planTour 134 = .ok (.goto (-73), 3) := by decide +kernel
theorem dX8_planTour_137 : decode cX8_planTour 137 = .ok (.return_, 1) := by decide +kernel
def k_X8_planTour_0 (F : FT) (Q : QT) : KT := o_aload 0 (o_getI 8 7 (o_ic (-1) (o_iceq (F 9) (o_vret Q))))
def k_X8_planTour_9 (F : FT) (Q : QT) : KT := o_aload 0 (o_cV 8 m_X8_lookAround 1 (o_lc (lN 0) (o_lstore 1 (o_lc (lN 0) (o_lstore 3 (o_ic (nI 0) (o_istore 5 (F 20))))))))
def k_X8_planTour_20 (F : FT) (Q : QT) : KT := o_iload 5 (o_ic (nI 64) (o_icge (F 53) (o_lload 1 (o_aload 0 (o_getR 8 4 (o_iload 5 (o_lald (o_lor (o_lstore 1 (o_lload 3 (o_aload 0 (o_getR 8 5 (o_iload 5 (o_lald (o_lor (o_lstore 3 (o_iinc 5 (nI 1) (F 20))))))))))))))))))
def k_X8_planTour_53 (F : FT) (Q : QT) : KT := o_aload 0 (o_ic (nI 0) (o_putI 8 7 (o_ic (nI 0) (o_istore 5 (F 61)))))
def k_X8_planTour_61 (F : FT) (Q : QT) : KT := o_iload 5 (o_ic (nI 64) (o_icge (F 137) (o_lload 1 (o_lload 3 (o_lor (o_lc (lN 0) (o_lcmp (o_ifeq (F 137) (o_aload 0 (o_lload 1 (o_lload 3 (o_cV 8 m_X8_widestView 3 (o_istore 6 (o_aload 0 (o_getR 8 6 (o_iload 5 (o_iload 6 (o_iast (o_aload 0 (o_dup (o_getI 8 7 (o_ic (nI 1) (o_iadd (o_putI 8 7 (o_lload 1 (o_aload 0 (o_getR 8 4 (o_iload 6 (o_lald (o_lc (-1) (o_lxor (o_land (o_lstore 1 (o_lload 3 (o_aload 0 (o_getR 8 5 (o_iload 6 (o_lald (o_lc (-1) (o_lxor (o_land (o_lstore 3 (o_iinc 5 (nI 1) (F 61))))))))))))))))))))))))))))))))))))))))))))
def k_X8_planTour_137 (F : FT) (Q : QT) : KT := o_vret Q
set_option maxRecDepth 20000 in
theorem r_X8_planTour {a0 : Nat} {n : Nat} {R : RR} {I : II} {J : JJ} {Q : QT} (hn : n + 0 ≤ 90) (h : ∀ F : FT, al_Wk F → al_Ok F (k_X8_planTour_0 F Q) 0 → al_Ok F (k_X8_planTour_9 F Q) 9 → al_Ok F (k_X8_planTour_20 F Q) 20 → al_Ok F (k_X8_planTour_53 F Q) 53 → al_Ok F (k_X8_planTour_61 F Q) 61 → al_Ok F (k_X8_planTour_137 F Q) 137 → F 0 [some (.ref a0), none, none, none, none, none, none] [] n R I J) : CT m_X8_planTour 0 [.ref a0] n R I J Q :=
  CT.of (by decide) hn (fun _ => rfl) (fun _ => Nat.le_of_ble_eq_true rfl) (fun F p l e s m args below meth c Rm t Q0 C hQ hr hm => h F (fun _ _ _ _ _ _ _ _ => S_wk C)
    (S_aload_n C dX8_planTour_0 rfl (S_getI (ci := 8) (j := 7) C inG8 rfl (Nat.le_of_ble_eq_true rfl) rfl (al_at 217 (by decide +kernel) rfl) dX8_planTour_1 (S_iconst C dX8_planTour_4 (by decide +kernel) (S_icmpeq (tgt := 9) C dX8_planTour_5 (by decide) (S_vret C hQ hr dX8_planTour_8)))))
    (S_aload_n C dX8_planTour_9 rfl (S_cV (ci := 8) C ok_X8_lookAround rfl (al_at 610 (by decide +kernel) rfl) (Nat.le_of_ble_eq_true rfl) (Nat.le_of_ble_eq_true rfl) dX8_planTour_10 (S_lconst C dX8_planTour_13 (by decide +kernel) (S_lstore_n C dX8_planTour_14 rfl (Nat.le_of_ble_eq_true rfl) (S_lconst C dX8_planTour_15 (by decide +kernel) (S_lstore_n C dX8_planTour_16 rfl (Nat.le_of_ble_eq_true rfl) (S_iconst C dX8_planTour_17 (by decide +kernel) (S_istore C dX8_planTour_18 (Nat.le_of_ble_eq_true rfl) (fun _ _ _ _ _ _ h9 => h9)))))))))
    (S_iload C dX8_planTour_20 (S_bipush C dX8_planTour_22 (by decide +kernel) (S_icmpge (tgt := 53) C dX8_planTour_24 (by decide) (S_lload_n C dX8_planTour_27 rfl (S_aload_n C dX8_planTour_28 rfl (S_getR (ci := 8) (j := 4) C inG8 rfl (Nat.le_of_ble_eq_true rfl) rfl (al_at 213 (by decide +kernel) rfl) dX8_planTour_29 (S_iload C dX8_planTour_32 (S_lald C dX8_planTour_34 (S_lor C dX8_planTour_35 (S_lstore_n C dX8_planTour_36 rfl (Nat.le_of_ble_eq_true rfl) (S_lload_n C dX8_planTour_37 rfl (S_aload_n C dX8_planTour_38 rfl (S_getR (ci := 8) (j := 5) C inG8 rfl (Nat.le_of_ble_eq_true rfl) rfl (al_at 214 (by decide +kernel) rfl) dX8_planTour_39 (S_iload C dX8_planTour_42 (S_lald C dX8_planTour_44 (S_lor C dX8_planTour_45 (S_lstore_n C dX8_planTour_46 rfl (Nat.le_of_ble_eq_true rfl) (S_iinc C dX8_planTour_47 (by decide +kernel) (Nat.le_of_ble_eq_true rfl) (S_goto (tgt := 20) C dX8_planTour_50 (by decide))))))))))))))))))))
    (S_aload_n C dX8_planTour_53 rfl (S_iconst C dX8_planTour_54 (by decide +kernel) (S_putI (ci := 8) (j := 7) C inG8 rfl (Nat.le_of_ble_eq_true rfl) tyX8 tyX8_ok nmX8 rfl rfl (tyX8_ok 7 (Nat.le_of_ble_eq_true rfl)) (al_at 217 (by decide +kernel) rfl) dX8_planTour_55 (S_iconst C dX8_planTour_58 (by decide +kernel) (S_istore C dX8_planTour_59 (Nat.le_of_ble_eq_true rfl) (fun _ _ _ _ _ _ h9 => h9))))))
    (S_iload C dX8_planTour_61 (S_bipush C dX8_planTour_63 (by decide +kernel) (S_icmpge (tgt := 137) C dX8_planTour_65 (by decide) (S_lload_n C dX8_planTour_68 rfl (S_lload_n C dX8_planTour_69 rfl (S_lor C dX8_planTour_70 (S_lconst C dX8_planTour_71 (by decide +kernel) (S_lcmp C dX8_planTour_72 (S_ifeq (tgt := 137) C dX8_planTour_73 (by decide) (S_aload_n C dX8_planTour_76 rfl (S_lload_n C dX8_planTour_77 rfl (S_lload_n C dX8_planTour_78 rfl (S_cV (ci := 8) C ok_X8_widestView rfl (al_at 622 (by decide +kernel) rfl) (Nat.le_of_ble_eq_true rfl) (Nat.le_of_ble_eq_true rfl) dX8_planTour_79 (S_istore C dX8_planTour_82 (Nat.le_of_ble_eq_true rfl) (S_aload_n C dX8_planTour_84 rfl (S_getR (ci := 8) (j := 6) C inG8 rfl (Nat.le_of_ble_eq_true rfl) rfl (al_at 215 (by decide +kernel) rfl) dX8_planTour_85 (S_iload C dX8_planTour_88 (S_iload C dX8_planTour_90 (S_iast C dX8_planTour_92 (S_aload_n C dX8_planTour_93 rfl (S_dup C dX8_planTour_94 (S_getI (ci := 8) (j := 7) C inG8 rfl (Nat.le_of_ble_eq_true rfl) rfl (al_at 217 (by decide +kernel) rfl) dX8_planTour_95 (S_iconst C dX8_planTour_98 (by decide +kernel) (S_iadd C dX8_planTour_99 (S_putI (ci := 8) (j := 7) C inG8 rfl (Nat.le_of_ble_eq_true rfl) tyX8 tyX8_ok nmX8 rfl rfl (tyX8_ok 7 (Nat.le_of_ble_eq_true rfl)) (al_at 217 (by decide +kernel) rfl) dX8_planTour_100 (S_lload_n C dX8_planTour_103 rfl (S_aload_n C dX8_planTour_104 rfl (S_getR (ci := 8) (j := 4) C inG8 rfl (Nat.le_of_ble_eq_true rfl) rfl (al_at 213 (by decide +kernel) rfl) dX8_planTour_105 (S_iload C dX8_planTour_108 (S_lald C dX8_planTour_110 (S_ldc2 C dX8_planTour_111 (al_at 632 (by decide +kernel) rfl) (S_lxor C dX8_planTour_114 (S_land C dX8_planTour_115 (S_lstore_n C dX8_planTour_116 rfl (Nat.le_of_ble_eq_true rfl) (S_lload_n C dX8_planTour_117 rfl (S_aload_n C dX8_planTour_118 rfl (S_getR (ci := 8) (j := 5) C inG8 rfl (Nat.le_of_ble_eq_true rfl) rfl (al_at 214 (by decide +kernel) rfl) dX8_planTour_119 (S_iload C dX8_planTour_122 (S_lald C dX8_planTour_124 (S_ldc2 C dX8_planTour_125 (al_at 632 (by decide +kernel) rfl) (S_lxor C dX8_planTour_128 (S_land C dX8_planTour_129 (S_lstore_n C dX8_planTour_130 rfl (Nat.le_of_ble_eq_true rfl) (S_iinc C dX8_planTour_131 (by decide +kernel) (Nat.le_of_ble_eq_true rfl) (S_goto (tgt := 61) C dX8_planTour_134 (by decide))))))))))))))))))))))))))))))))))))))))))))))
    (S_vret C hQ hr dX8_planTour_137))
theorem dX8_reaches_0 : decode cX8_reaches 0 = .ok (.iload_n 1, 1) := by decide +kernel
theorem dX8_reaches_1 : decode cX8_reaches 1 = .ok (.iload_n 2, 1) := by decide +kernel
theorem dX8_reaches_2 : decode cX8_reaches 2 = .ok (.invokestatic 51, 3) := by decide +kernel
theorem dX8_reaches_5 : decode cX8_reaches 5 = .ok (.aload_n 0, 1) := by decide +kernel
theorem dX8_reaches_6 : decode cX8_reaches 6 = .ok (.getfield 9, 3) := by decide +kernel
theorem dX8_reaches_9 : decode cX8_reaches 9 = .ok (.getfield 55, 3) := by decide +kernel
theorem dX8_reaches_12 : decode cX8_reaches 12 = .ok (.land, 1) := by decide +kernel
theorem dX8_reaches_13 : decode cX8_reaches 13 = .ok (.lconst 0, 1) := by decide +kernel
theorem dX8_reaches_14 : decode cX8_reaches 14 = .ok (.lcmp, 1) := by decide +kernel
theorem dX8_reaches_15 : decode cX8_reaches 15 = .ok (.ifCond .ne 7, 3) := by decide +kernel
theorem dX8_reaches_18 : decode cX8_reaches 18 = .ok (.iconst 1, 1) := by decide +kernel
theorem dX8_reaches_19 : decode cX8_reaches 19 = .ok (.goto 4, 3) := by decide +kernel
theorem dX8_reaches_22 : decode cX8_reaches 22 = .ok (.iconst 0, 1) := by decide +kernel
theorem dX8_reaches_23 : decode cX8_reaches 23 = .ok (.ireturn, 1) := by decide +kernel
def k_X8_reaches_0 (F : FT) (Q : QT) : KT := o_iload 1 (o_iload 2 (o_cS m_X8_lineOf 2 (o_aload 0 (o_getR 8 0 (o_getJ 9 5 (o_land (o_lc (lN 0) (o_lcmp (o_ifne (F 22) (o_ic (nI 1) (F 23)))))))))))
def k_X8_reaches_22 (F : FT) (Q : QT) : KT := o_ic (nI 0) (F 23)
def k_X8_reaches_23 (F : FT) (Q : QT) : KT := o_zret Q
set_option maxRecDepth 20000 in
theorem r_X8_reaches {a0 : Nat} {a1 : Int32} {a2 : Int32} {n : Nat} {R : RR} {I : II} {J : JJ} {Q : QT} (hn : n + 0 ≤ 90) (h : ∀ F : FT, al_Wk F → al_Ok F (k_X8_reaches_0 F Q) 0 → al_Ok F (k_X8_reaches_22 F Q) 22 → al_Ok F (k_X8_reaches_23 F Q) 23 → F 0 [some (.ref a0), some (.int a1), some (.int a2)] [] n R I J) : CT m_X8_reaches 0 [.ref a0, .int a1, .int a2] n R I J Q :=
  CT.of (by decide) hn (fun _ => rfl) (fun _ => Nat.le_of_ble_eq_true rfl) (fun F p l e s m args below meth c Rm t Q0 C hQ hr hm => h F (fun _ _ _ _ _ _ _ _ => S_wk C)
    (S_iload_n C dX8_reaches_0 rfl (S_iload_n C dX8_reaches_1 rfl (S_cS C ok_X8_lineOf (al_at 410 (by decide +kernel) rfl) (Nat.le_of_ble_eq_true rfl) (Nat.le_of_ble_eq_true rfl) dX8_reaches_2 (S_aload_n C dX8_reaches_5 rfl (S_getR (ci := 8) (j := 0) C inG8 rfl (Nat.le_of_ble_eq_true rfl) rfl (al_at 209 (by decide +kernel) rfl) dX8_reaches_6 (S_getJ (ci := 9) (j := 5) C inG9 rfl (Nat.le_of_ble_eq_true rfl) rfl (al_at 186 (by decide +kernel) rfl) dX8_reaches_9 (S_land C dX8_reaches_12 (S_lconst C dX8_reaches_13 (by decide +kernel) (S_lcmp C dX8_reaches_14 (S_ifne (tgt := 22) C dX8_reaches_15 (by decide) (S_iconst C dX8_reaches_18 (by decide +kernel) (S_goto (tgt := 23) C dX8_reaches_19 (by decide)))))))))))))
    (S_iconst C dX8_reaches_22 (by decide +kernel) (fun _ _ _ _ _ _ h9 => h9))
    (S_zret C hQ hr dX8_reaches_23))
theorem dX8_seenFrom_0 : decode cX8_seenFrom 0 = .ok (.aload_n 0, 1) := by decide +kernel
theorem dX8_seenFrom_1 : decode cX8_seenFrom 1 = .ok (.getfield 15, 3) := by decide +kernel
theorem dX8_seenFrom_4 : decode cX8_seenFrom 4 = .ok (.iload_n 1, 1) := by decide +kernel
theorem dX8_seenFrom_5 : decode cX8_seenFrom 5 = .ok (.iaload, 1) := by decide +kernel
theorem dX8_seenFrom_6 : decode cX8_seenFrom 6 = .ok (.iconst (-1), 1) := by decide +kernel
theorem dX8_seenFrom_7 : decode cX8_seenFrom 7 = .ok (.if_icmp .ne 46, 3) := by decide +kernel
theorem dX8_seenFrom_10 : decode cX8_seenFrom 10 = .ok (.iconst 0, 1) := by decide +kernel
theorem dX8_seenFrom_11 : decode cX8_seenFrom 11 = .ok (.istore_n 2, 1) := by decide +kernel
theorem dX8_seenFrom_12 : decode cX8_seenFrom 12 = .ok (.iconst 0, 1) := by decide +kernel
theorem dX8_seenFrom_13 : decode cX8_seenFrom 13 = .ok (.istore_n 3, 1) := by decide +kernel
theorem dX8_seenFrom_14 : decode cX8_seenFrom 14 = .ok (.iload_n 3, 1) := by decide +kernel
theorem dX8_seenFrom_15 : decode cX8_seenFrom 15 = .ok (.bipush 64, 2) := by decide +kernel
theorem dX8_seenFrom_17 : decode cX8_seenFrom 17 = .ok (.if_icmp .ge 29, 3) := by decide +kernel
theorem dX8_seenFrom_20 : decode cX8_seenFrom 20 = .ok (.aload_n 0, 1) := by decide +kernel
theorem dX8_seenFrom_21 : decode cX8_seenFrom 21 = .ok (.iload_n 3, 1) := by decide +kernel
theorem dX8_seenFrom_22 : decode cX8_seenFrom 22 = .ok (.invokevirtual 64, 3) := by decide +kernel
theorem dX8_seenFrom_25 : decode cX8_seenFrom 25 = .ok (.ifCond .eq 15, 3) := by decide +kernel
theorem dX8_seenFrom_28 : decode cX8_seenFrom 28 = .ok (.aload_n 0, 1) := by decide +kernel
theorem dX8_seenFrom_29 : decode cX8_seenFrom 29 = .ok (.iload_n 3, 1) := by decide +kernel
theorem dX8_seenFrom_30 : decode cX8_seenFrom 30 = .ok (.iload_n 1, 1) := by decide +kernel
theorem dX8_seenFrom_31 : decode cX8_seenFrom 31 = .ok (.invokevirtual 68, 3) := by decide +kernel
theorem dX8_seenFrom_34 : decode cX8_seenFrom 34 = .ok (.ifCond .eq 6, 3) := by decide +kernel
theorem dX8_seenFrom_37 : decode cX8_seenFrom 37 = .ok (.iinc 2 1, 3) := by decide +kernel
theorem dX8_seenFrom_40 : decode cX8_seenFrom 40 = .ok (.iinc 3 1, 3) := by decide +kernel
theorem dX8_seenFrom_43 : decode cX8_seenFrom 43 = .ok (.goto (-29), 3) := by decide +kernel
theorem dX8_seenFrom_46 : decode cX8_seenFrom 46 = .ok (.aload_n 0, 1) := by decide +kernel
theorem dX8_seenFrom_47 : decode cX8_seenFrom 47 = .ok (.getfield 15, 3) := by decide +kernel
theorem dX8_seenFrom_50 : decode cX8_seenFrom 50 = .ok (.iload_n 1, 1) := by decide +kernel
theorem dX8_seenFrom_51 : decode cX8_seenFrom 51 = .ok (.iload_n 2, 1) := by decide +kernel
theorem dX8_seenFrom_52 : decode cX8_seenFrom 52 = .ok (.iastore, 1) := by decide +kernel
theorem dX8_seenFrom_53 : decode cX8_seenFrom 53 = .ok (.aload_n 0, 1) := by decide +kernel
theorem dX8_seenFrom_54 : decode cX8_seenFrom 54 = .ok (.getfield 15, 3) := by decide +kernel
theorem dX8_seenFrom_57 : decode cX8_seenFrom 57 = .ok (.iload_n 1, 1) := by decide +kernel
theorem dX8_seenFrom_58 : decode cX8_seenFrom 58 = .ok (.iaload, 1) := by decide +kernel
theorem dX8_seenFrom_59 : decode cX8_seenFrom 59 = .ok (.ireturn, 1) := by decide +kernel
def k_X8_seenFrom_0 (F : FT) (Q : QT) : KT := o_aload 0 (o_getR 8 1 (o_iload 1 (o_iald (o_ic (-1) (o_icne (F 53) (o_ic (nI 0) (o_istore 2 (o_ic (nI 0) (o_istore 3 (F 14))))))))))
def k_X8_seenFrom_14 (F : FT) (Q : QT) : KT := o_iload 3 (o_ic (nI 64) (o_icge (F 46) (o_aload 0 (o_iload 3 (o_cV 8 m_X8_isStreet 2 (o_ifeq (F 40) (o_aload 0 (o_iload 3 (o_iload 1 (o_cV 8 m_X8_reaches 3 (o_ifeq (F 40) (o_iinc 2 (nI 1) (F 40)))))))))))))
def k_X8_seenFrom_40 (F : FT) (Q : QT) : KT := o_iinc 3 (nI 1) (F 14)
def k_X8_seenFrom_46 (F : FT) (Q : QT) : KT := o_aload 0 (o_getR 8 1 (o_iload 1 (o_iload 2 (o_iast (F 53)))))
def k_X8_seenFrom_53 (F : FT) (Q : QT) : KT := o_aload 0 (o_getR 8 1 (o_iload 1 (o_iald (o_iret Q))))
set_option maxRecDepth 20000 in
theorem r_X8_seenFrom {a0 : Nat} {a1 : Int32} {n : Nat} {R : RR} {I : II} {J : JJ} {Q : QT} (hn : n + 0 ≤ 90) (h : ∀ F : FT, al_Wk F → al_Ok F (k_X8_seenFrom_0 F Q) 0 → al_Ok F (k_X8_seenFrom_14 F Q) 14 → al_Ok F (k_X8_seenFrom_40 F Q) 40 → al_Ok F (k_X8_seenFrom_46 F Q) 46 → al_Ok F (k_X8_seenFrom_53 F Q) 53 → F 0 [some (.ref a0), some (.int a1), none, none] [] n R I J) : CT m_X8_seenFrom 0 [.ref a0, .int a1] n R I J Q :=
  CT.of (by decide) hn (fun _ => rfl) (fun _ => Nat.le_of_ble_eq_true rfl) (fun F p l e s m args below meth c Rm t Q0 C hQ hr hm => h F (fun _ _ _ _ _ _ _ _ => S_wk C)
    (S_aload_n C dX8_seenFrom_0 rfl (S_getR (ci := 8) (j := 1) C inG8 rfl (Nat.le_of_ble_eq_true rfl) rfl (al_at 210 (by decide +kernel) rfl) dX8_seenFrom_1 (S_iload_n C dX8_seenFrom_4 rfl (S_iald C dX8_seenFrom_5 (S_iconst C dX8_seenFrom_6 (by decide +kernel) (S_icmpne (tgt := 53) C dX8_seenFrom_7 (by decide) (S_iconst C dX8_seenFrom_10 (by decide +kernel) (S_istore_n C dX8_seenFrom_11 rfl (Nat.le_of_ble_eq_true rfl) (S_iconst C dX8_seenFrom_12 (by decide +kernel) (S_istore_n C dX8_seenFrom_13 rfl (Nat.le_of_ble_eq_true rfl) (fun _ _ _ _ _ _ h9 => h9)))))))))))
    (S_iload_n C dX8_seenFrom_14 rfl (S_bipush C dX8_seenFrom_15 (by decide +kernel) (S_icmpge (tgt := 46) C dX8_seenFrom_17 (by decide) (S_aload_n C dX8_seenFrom_20 rfl (S_iload_n C dX8_seenFrom_21 rfl (S_cV (ci := 8) C ok_X8_isStreet rfl (al_at 402 (by decide +kernel) rfl) (Nat.le_of_ble_eq_true rfl) (Nat.le_of_ble_eq_true rfl) dX8_seenFrom_22 (S_ifeq (tgt := 40) C dX8_seenFrom_25 (by decide) (S_aload_n C dX8_seenFrom_28 rfl (S_iload_n C dX8_seenFrom_29 rfl (S_iload_n C dX8_seenFrom_30 rfl (S_cV (ci := 8) C ok_X8_reaches rfl (al_at 406 (by decide +kernel) rfl) (Nat.le_of_ble_eq_true rfl) (Nat.le_of_ble_eq_true rfl) dX8_seenFrom_31 (S_ifeq (tgt := 40) C dX8_seenFrom_34 (by decide) (S_iinc C dX8_seenFrom_37 (by decide +kernel) (Nat.le_of_ble_eq_true rfl) (fun _ _ _ _ _ _ h9 => h9))))))))))))))
    (S_iinc C dX8_seenFrom_40 (by decide +kernel) (Nat.le_of_ble_eq_true rfl) (S_goto (tgt := 14) C dX8_seenFrom_43 (by decide)))
    (S_aload_n C dX8_seenFrom_46 rfl (S_getR (ci := 8) (j := 1) C inG8 rfl (Nat.le_of_ble_eq_true rfl) rfl (al_at 210 (by decide +kernel) rfl) dX8_seenFrom_47 (S_iload_n C dX8_seenFrom_50 rfl (S_iload_n C dX8_seenFrom_51 rfl (S_iast C dX8_seenFrom_52 (fun _ _ _ _ _ _ h9 => h9))))))
    (S_aload_n C dX8_seenFrom_53 rfl (S_getR (ci := 8) (j := 1) C inG8 rfl (Nat.le_of_ble_eq_true rfl) rfl (al_at 210 (by decide +kernel) rfl) dX8_seenFrom_54 (S_iload_n C dX8_seenFrom_57 rfl (S_iald C dX8_seenFrom_58 (S_iret C hQ hr dX8_seenFrom_59))))))
theorem dX8_widestView_0 : decode cX8_widestView 0 = .ok (.iconst 0, 1) := by decide +kernel
theorem dX8_widestView_1 : decode cX8_widestView 1 = .ok (.istore 5, 2) := by decide +kernel
theorem dX8_widestView_3 : decode cX8_widestView 3 = .ok (.iconst 0, 1) := by decide +kernel
theorem dX8_widestView_4 : decode cX8_widestView 4 = .ok (.istore 6, 2) := by decide +kernel
theorem dX8_widestView_6 : decode cX8_widestView 6 = .ok (.iconst 0, 1) := by decide +kernel
theorem dX8_widestView_7 : decode cX8_widestView 7 = .ok (.istore 7, 2) := by decide +kernel
theorem dX8_widestView_9 : decode cX8_widestView 9 = .ok (.iload 7, 2) := by decide +kernel
theorem dX8_widestView_11 : decode cX8_widestView 11 = .ok (.bipush 64, 2) := by decide +kernel
theorem dX8_widestView_13 : decode cX8_widestView 13 = .ok (.if_icmp .ge 51, 3) := by decide +kernel
theorem dX8_widestView_16 : decode cX8_widestView 16 = .ok (.aload_n 0, 1) := by decide +kernel
theorem dX8_widestView_17 : decode cX8_widestView 17 = .ok (.getfield 31, 3) := by decide +kernel
theorem dX8_widestView_20 : decode cX8_widestView 20 = .ok (.iload 7, 2) := by decide +kernel
theorem dX8_widestView_22 : decode cX8_widestView 22 = .ok (.laload, 1) := by decide +kernel
theorem dX8_widestView_23 : decode cX8_widestView 23 = .ok (.lload_n 1, 1) := by decide +kernel
theorem dX8_widestView_24 : decode cX8_widestView 24 = .ok (.land, 1) := by decide +kernel
theorem dX8_widestView_25 : decode cX8_widestView 25 = .ok (.invokestatic 119, 3) := by decide +kernel
theorem dX8_widestView_28 : decode cX8_widestView 28 = .ok (.aload_n 0, 1) := by decide +kernel
theorem dX8_widestView_29 : decode cX8_widestView 29 = .ok (.getfield 35, 3) := by decide +kernel
theorem dX8_widestView_32 : decode cX8_widestView 32 = .ok (.iload 7, 2) := by decide +kernel
theorem dX8_widestView_34 : decode cX8_widestView 34 = .ok (.laload, 1) := by decide +kernel
theorem dX8_widestView_35 : decode cX8_widestView 35 = .ok (.lload_n 3, 1) := by decide +kernel
theorem dX8_widestView_36 : decode cX8_widestView 36 = .ok (.land, 1) := by decide +kernel
theorem dX8_widestView_37 : decode cX8_widestView 37 = .ok (.invokestatic 119, 3) := by decide +kernel
theorem dX8_widestView_40 : decode cX8_widestView 40 = .ok (.iadd, 1) := by decide +kernel
theorem dX8_widestView_41 : decode cX8_widestView 41 = .ok (.istore 8, 2) := by decide +kernel
theorem dX8_widestView_43 : decode cX8_widestView 43 = .ok (.iload 8, 2) := by decide +kernel
theorem dX8_widestView_45 : decode cX8_widestView 45 = .ok (.iload 6, 2) := by decide +kernel
theorem dX8_widestView_47 : decode cX8_widestView 47 = .ok (.if_icmp .le 11, 3) := by decide +kernel
theorem dX8_widestView_50 : decode cX8_widestView 50 = .ok (.iload 8, 2) := by decide +kernel
theorem dX8_widestView_52 : decode cX8_widestView 52 = .ok (.istore 6, 2) := by decide +kernel
theorem dX8_widestView_54 : decode cX8_widestView 54 = .ok (.iload 7, 2) := by decide +kernel
theorem dX8_widestView_56 : decode cX8_widestView 56 = .ok (.istore 5, 2) := by decide +kernel
theorem dX8_widestView_58 : decode cX8_widestView 58 = .ok (.iinc 7 1, 3) := by decide +kernel
theorem dX8_widestView_61 : decode cX8_widestView 61 = .ok (.goto (-52), 3) := by decide +kernel
theorem dX8_widestView_64 : decode cX8_widestView 64 = .ok (.iload 5, 2) := by decide +kernel
theorem dX8_widestView_66 : decode cX8_widestView 66 = .ok (.ireturn, 1) := by decide +kernel
def k_X8_widestView_0 (F : FT) (Q : QT) : KT := o_ic (nI 0) (o_istore 5 (o_ic (nI 0) (o_istore 6 (o_ic (nI 0) (o_istore 7 (F 9))))))
def k_X8_widestView_9 (F : FT) (Q : QT) : KT := o_iload 7 (o_ic (nI 64) (o_icge (F 64) (o_aload 0 (o_getR 8 4 (o_iload 7 (o_lald (o_lload 1 (o_land (o_cS m_J13_bitCount_95d88 1 (o_aload 0 (o_getR 8 5 (o_iload 7 (o_lald (o_lload 3 (o_land (o_cS m_J13_bitCount_95d88 1 (o_iadd (o_istore 8 (o_iload 8 (o_iload 6 (o_icle (F 58) (o_iload 8 (o_istore 6 (o_iload 7 (o_istore 5 (F 58))))))))))))))))))))))))))
def k_X8_widestView_58 (F : FT) (Q : QT) : KT := o_iinc 7 (nI 1) (F 9)
def k_X8_widestView_64 (F : FT) (Q : QT) : KT := o_iload 5 (o_iret Q)
set_option maxRecDepth 20000 in
theorem r_X8_widestView {a0 : Nat} {a1 : Int64} {a2 : Int64} {n : Nat} {R : RR} {I : II} {J : JJ} {Q : QT} (hn : n + 0 ≤ 90) (h : ∀ F : FT, al_Wk F → al_Ok F (k_X8_widestView_0 F Q) 0 → al_Ok F (k_X8_widestView_9 F Q) 9 → al_Ok F (k_X8_widestView_58 F Q) 58 → al_Ok F (k_X8_widestView_64 F Q) 64 → F 0 [some (.ref a0), some (.long a1), none, some (.long a2), none, none, none, none, none] [] n R I J) : CT m_X8_widestView 0 [.ref a0, .long a1, .long a2] n R I J Q :=
  CT.of (by decide) hn (fun _ => rfl) (fun _ => Nat.le_of_ble_eq_true rfl) (fun F p l e s m args below meth c Rm t Q0 C hQ hr hm => h F (fun _ _ _ _ _ _ _ _ => S_wk C)
    (S_iconst C dX8_widestView_0 (by decide +kernel) (S_istore C dX8_widestView_1 (Nat.le_of_ble_eq_true rfl) (S_iconst C dX8_widestView_3 (by decide +kernel) (S_istore C dX8_widestView_4 (Nat.le_of_ble_eq_true rfl) (S_iconst C dX8_widestView_6 (by decide +kernel) (S_istore C dX8_widestView_7 (Nat.le_of_ble_eq_true rfl) (fun _ _ _ _ _ _ h9 => h9)))))))
    (S_iload C dX8_widestView_9 (S_bipush C dX8_widestView_11 (by decide +kernel) (S_icmpge (tgt := 64) C dX8_widestView_13 (by decide) (S_aload_n C dX8_widestView_16 rfl (S_getR (ci := 8) (j := 4) C inG8 rfl (Nat.le_of_ble_eq_true rfl) rfl (al_at 213 (by decide +kernel) rfl) dX8_widestView_17 (S_iload C dX8_widestView_20 (S_lald C dX8_widestView_22 (S_lload_n C dX8_widestView_23 rfl (S_land C dX8_widestView_24 (S_cS C ok_J13_bitCount_95d88 (al_at 626 (by decide +kernel) rfl) (Nat.le_of_ble_eq_true rfl) (Nat.le_of_ble_eq_true rfl) dX8_widestView_25 (S_aload_n C dX8_widestView_28 rfl (S_getR (ci := 8) (j := 5) C inG8 rfl (Nat.le_of_ble_eq_true rfl) rfl (al_at 214 (by decide +kernel) rfl) dX8_widestView_29 (S_iload C dX8_widestView_32 (S_lald C dX8_widestView_34 (S_lload_n C dX8_widestView_35 rfl (S_land C dX8_widestView_36 (S_cS C ok_J13_bitCount_95d88 (al_at 626 (by decide +kernel) rfl) (Nat.le_of_ble_eq_true rfl) (Nat.le_of_ble_eq_true rfl) dX8_widestView_37 (S_iadd C dX8_widestView_40 (S_istore C dX8_widestView_41 (Nat.le_of_ble_eq_true rfl) (S_iload C dX8_widestView_43 (S_iload C dX8_widestView_45 (S_icmple (tgt := 58) C dX8_widestView_47 (by decide) (S_iload C dX8_widestView_50 (S_istore C dX8_widestView_52 (Nat.le_of_ble_eq_true rfl) (S_iload C dX8_widestView_54 (S_istore C dX8_widestView_56 (Nat.le_of_ble_eq_true rfl) (fun _ _ _ _ _ _ h9 => h9)))))))))))))))))))))))))))
    (S_iinc C dX8_widestView_58 (by decide +kernel) (Nat.le_of_ble_eq_true rfl) (S_goto (tgt := 9) C dX8_widestView_61 (by decide)))
    (S_iload C dX8_widestView_64 (S_iret C hQ hr dX8_widestView_66)))
theorem dX9_become_0 : decode cX9_become 0 = .ok (.aload_n 0, 1) := by decide +kernel
theorem dX9_become_1 : decode cX9_become 1 = .ok (.aload_n 1, 1) := by decide +kernel
theorem dX9_become_2 : decode cX9_become 2 = .ok (.getfield 26, 3) := by decide +kernel
theorem dX9_become_5 : decode cX9_become 5 = .ok (.putfield 26, 3) := by decide +kernel
theorem dX9_become_8 : decode cX9_become 8 = .ok (.aload_n 0, 1) := by decide +kernel
theorem dX9_become_9 : decode cX9_become 9 = .ok (.aload_n 1, 1) := by decide +kernel
theorem dX9_become_10 : decode cX9_become 10 = .ok (.getfield 30, 3) := by decide +kernel
theorem dX9_become_13 : decode cX9_become 13 = .ok (.putfield 30, 3) := by decide +kernel
theorem dX9_become_16 : decode cX9_become 16 = .ok (.aload_n 0, 1) := by decide +kernel
theorem dX9_become_17 : decode cX9_become 17 = .ok (.aload_n 1, 1) := by decide +kernel
theorem dX9_become_18 : decode cX9_become 18 = .ok (.getfield 36, 3) := by decide +kernel
theorem dX9_become_21 : decode cX9_become 21 = .ok (.putfield 36, 3) := by decide +kernel
theorem dX9_become_24 : decode cX9_become 24 = .ok (.aload_n 1, 1) := by decide +kernel
theorem dX9_become_25 : decode cX9_become 25 = .ok (.getfield 15, 3) := by decide +kernel
theorem dX9_become_28 : decode cX9_become 28 = .ok (.iconst 0, 1) := by decide +kernel
theorem dX9_become_29 : decode cX9_become 29 = .ok (.aload_n 0, 1) := by decide +kernel
theorem dX9_become_30 : decode cX9_become 30 = .ok (.getfield 15, 3) := by decide +kernel
theorem dX9_become_33 : decode cX9_become 33 = .ok (.iconst 0, 1) := by decide +kernel
theorem dX9_become_34 : decode cX9_become 34 = .ok (.bipush 64, 2) := by decide +kernel
theorem dX9_become_36 : decode cX9_become 36 = .ok (.invokestatic 72, 3) := by decide +kernel
theorem dX9_become_39 : decode cX9_become 39 = .ok (.iconst 0, 1) := by decide +kernel
theorem dX9_become_40 : decode cX9_become 40 = .ok (.istore_n 2, 1) := by decide +kernel
theorem dX9_become_41 : decode cX9_become 41 = .ok (.iload_n 2, 1) := by decide +kernel
theorem dX9_become_42 : decode cX9_become 42 = .ok (.bipush 6, 2) := by decide +kernel
theorem dX9_become_44 : decode cX9_become 44 = .ok (.if_icmp .ge 24, 3) := by decide +kernel
theorem dX9_become_47 : decode cX9_become 47 = .ok (.aload_n 0, 1) := by decide +kernel
theorem dX9_become_48 : decode cX9_become 48 = .ok (.getfield 21, 3) := by decide +kernel
theorem dX9_become_51 : decode cX9_become 51 = .ok (.iload_n 2, 1) := by decide +kernel
theorem dX9_become_52 : decode cX9_become 52 = .ok (.aaload, 1) := by decide +kernel
theorem dX9_become_53 : decode cX9_become 53 = .ok (.aload_n 1, 1) := by decide +kernel
theorem dX9_become_54 : decode cX9_become 54 = .ok (.getfield 21, 3) := by decide +kernel
theorem dX9_become_57 : decode cX9_become 57 = .ok (.iload_n 2, 1) := by decide +kernel
theorem dX9_become_58 : decode cX9_become 58 = .ok (.aaload, 1) := by decide +kernel
theorem dX9_become_59 : decode cX9_become 59 = .ok (.invokevirtual 78, 3) := by decide +kernel
theorem dX9_become_62 : decode cX9_become 62 = .ok (.iinc 2 1, 3) := by decide +kernel
theorem dX9_become_65 : decode cX9_become 65 = .ok (.goto (-24), 3) := by decide +kernel
theorem dX9_become_68 : decode cX9_become 68 = .ok (.return_, 1) := by decide +kernel
def k_X9_become_0 (F : FT) (Q : QT) : KT := o_aload 0 (o_aload 1 (o_getI 9 3 (o_putI 9 3 (o_aload 0 (o_aload 1 (o_getJ 9 4 (o_putJ 9 4 (o_aload 0 (o_aload 1 (o_getJ 9 5 (o_putJ 9 5 (o_aload 1 (o_getR 9 1 (o_ic (nI 0) (o_aload 0 (o_getR 9 1 (o_ic (nI 0) (o_ic (nI 64) (o_cpyI (o_ic (nI 0) (o_istore 2 (F 41))))))))))))))))))))))
def k_X9_become_41 (F : FT) (Q : QT) : KT := o_iload 2 (o_ic (nI 6) (o_icge (F 68) (o_aload 0 (o_getR 9 2 (o_iload 2 (o_aald 4 (o_aload 1 (o_getR 9 2 (o_iload 2 (o_aald 4 (o_cV 2 m_X2_become 2 (o_iinc 2 (nI 1) (F 41)))))))))))))
def k_X9_become_68 (F : FT) (Q : QT) : KT := o_vret Q
set_option maxRecDepth 20000 in
theorem r_X9_become {a0 : Nat} {a1 : Nat} {n : Nat} {R : RR} {I : II} {J : JJ} {Q : QT} (hn : n + 0 ≤ 90) (h90 : n = 90) (h : ∀ F : FT, al_Wk F → al_Ok F (k_X9_become_0 F Q) 0 → al_Ok F (k_X9_become_41 F Q) 41 → al_Ok F (k_X9_become_68 F Q) 68 → F 0 [some (.ref a0), some (.ref a1), none] [] n R I J) : CT m_X9_become 0 [.ref a0, .ref a1] n R I J Q :=
  CT.of (by decide) hn (fun _ => rfl) (fun _ => Nat.le_of_ble_eq_true rfl) (fun F p l e s m args below meth c Rm t Q0 C hQ hr hm => h F (fun _ _ _ _ _ _ _ _ => S_wk C)
    (S_aload_n C dX9_become_0 rfl (S_aload_n C dX9_become_1 rfl (S_getI (ci := 9) (j := 3) C inG9 rfl (Nat.le_of_ble_eq_true rfl) rfl (al_at 180 (by decide +kernel) rfl) dX9_become_2 (S_putI (ci := 9) (j := 3) C inG9 rfl (Nat.le_of_ble_eq_true rfl) tyX9 tyX9_ok nmX9 rfl rfl (tyX9_ok 3 (Nat.le_of_ble_eq_true rfl)) (al_at 180 (by decide +kernel) rfl) dX9_become_5 (S_aload_n C dX9_become_8 rfl (S_aload_n C dX9_become_9 rfl (S_getJ (ci := 9) (j := 4) C inG9 rfl (Nat.le_of_ble_eq_true rfl) rfl (al_at 183 (by decide +kernel) rfl) dX9_become_10 (S_putJ (ci := 9) (j := 4) C inG9 rfl (Nat.le_of_ble_eq_true rfl) tyX9 tyX9_ok nmX9 rfl rfl (tyX9_ok 4 (Nat.le_of_ble_eq_true rfl)) (al_at 183 (by decide +kernel) rfl) dX9_become_13 (S_aload_n C dX9_become_16 rfl (S_aload_n C dX9_become_17 rfl (S_getJ (ci := 9) (j := 5) C inG9 rfl (Nat.le_of_ble_eq_true rfl) rfl (al_at 185 (by decide +kernel) rfl) dX9_become_18 (S_putJ (ci := 9) (j := 5) C inG9 rfl (Nat.le_of_ble_eq_true rfl) tyX9 tyX9_ok nmX9 rfl rfl (tyX9_ok 5 (Nat.le_of_ble_eq_true rfl)) (al_at 185 (by decide +kernel) rfl) dX9_become_21 (S_aload_n C dX9_become_24 rfl (S_getR (ci := 9) (j := 1) C inG9 rfl (Nat.le_of_ble_eq_true rfl) rfl (al_at 174 (by decide +kernel) rfl) dX9_become_25 (S_iconst C dX9_become_28 (by decide +kernel) (S_aload_n C dX9_become_29 rfl (S_getR (ci := 9) (j := 1) C inG9 rfl (Nat.le_of_ble_eq_true rfl) rfl (al_at 174 (by decide +kernel) rfl) dX9_become_30 (S_iconst C dX9_become_33 (by decide +kernel) (S_bipush C dX9_become_34 (by decide +kernel) (S_cpyI C h90 (al_at 688 (by decide +kernel) rfl) (al_at 690 (by decide +kernel) rfl) (al_at 689 (by decide +kernel) rfl) (al_at 76 (by decide +kernel) rfl) (Nat.le_of_ble_eq_true rfl) (Nat.le_of_ble_eq_true rfl) dX9_become_36 (S_iconst C dX9_become_39 (by decide +kernel) (S_istore_n C dX9_become_40 rfl (Nat.le_of_ble_eq_true rfl) (fun _ _ _ _ _ _ h9 => h9)))))))))))))))))))))))
    (S_iload_n C dX9_become_41 rfl (S_bipush C dX9_become_42 (by decide +kernel) (S_icmpge (tgt := 68) C dX9_become_44 (by decide) (S_aload_n C dX9_become_47 rfl (S_getR (ci := 9) (j := 2) C inG9 rfl (Nat.le_of_ble_eq_true rfl) rfl (al_at 177 (by decide +kernel) rfl) dX9_become_48 (S_iload_n C dX9_become_51 rfl (S_aald (ak := 4) C (fun _ _ _ _ _ _ => rfl) (fun _ => rfl) dX9_become_52 (S_aload_n C dX9_become_53 rfl (S_getR (ci := 9) (j := 2) C inG9 rfl (Nat.le_of_ble_eq_true rfl) rfl (al_at 177 (by decide +kernel) rfl) dX9_become_54 (S_iload_n C dX9_become_57 rfl (S_aald (ak := 4) C (fun _ _ _ _ _ _ => rfl) (fun _ => rfl) dX9_become_58 (S_cV (ci := 2) C ok_X2_become rfl (al_at 691 (by decide +kernel) rfl) (Nat.le_of_ble_eq_true rfl) (Nat.le_of_ble_eq_true rfl) dX9_become_59 (S_iinc C dX9_become_62 (by decide +kernel) (Nat.le_of_ble_eq_true rfl) (S_goto (tgt := 41) C dX9_become_65 (by decide)))))))))))))))
    (S_vret C hQ hr dX9_become_68))
theorem dX9_build_0 : decode cX9_build 0 = .ok (.aload_n 0, 1) := by decide +kernel
theorem dX9_build_1 : decode cX9_build 1 = .ok (.getfield 26, 3) := by decide +kernel
theorem dX9_build_4 : decode cX9_build 4 = .ok (.istore_n 3, 1) := by decide +kernel
theorem dX9_build_5 : decode cX9_build 5 = .ok (.iload_n 3, 1) := by decide +kernel
theorem dX9_build_6 : decode cX9_build 6 = .ok (.bipush 6, 2) := by decide +kernel
theorem dX9_build_8 : decode cX9_build 8 = .ok (.if_icmp .ge 24, 3) := by decide +kernel
theorem dX9_build_11 : decode cX9_build 11 = .ok (.aload_n 0, 1) := by decide +kernel
theorem dX9_build_12 : decode cX9_build 12 = .ok (.getfield 21, 3) := by decide +kernel
theorem dX9_build_15 : decode cX9_build 15 = .ok (.iload_n 3, 1) := by decide +kernel
theorem dX9_build_16 : decode cX9_build 16 = .ok (.aaload, 1) := by decide +kernel
theorem dX9_build_17 : decode cX9_build 17 = .ok (.iload_n 1, 1) := by decide +kernel
theorem dX9_build_18 : decode cX9_build 18 = .ok (.iload_n 2, 1) := by decide +kernel
theorem dX9_build_19 : decode cX9_build 19 = .ok (.invokevirtual 39, 3) := by decide +kernel
theorem dX9_build_22 : decode cX9_build 22 = .ok (.aload_n 0, 1) := by decide +kernel
theorem dX9_build_23 : decode cX9_build 23 = .ok (.dup, 1) := by decide +kernel
theorem dX9_build_24 : decode cX9_build 24 = .ok (.getfield 26, 3) := by decide +kernel
theorem dX9_build_27 : decode cX9_build 27 = .ok (.iconst 1, 1) := by decide +kernel
theorem dX9_build_28 : decode cX9_build 28 = .ok (.iadd, 1) := by decide +kernel
theorem dX9_build_29 : decode cX9_build 29 = .ok (.putfield 26, 3) := by decide +kernel
theorem dX9_build_32 : decode cX9_build 32 = .ok (.iload_n 3, 1) := by decide +kernel
theorem dX9_build_33 : decode cX9_build 33 = .ok (.ireturn, 1) := by decide +kernel
def k_X9_build_0 (F : FT) (Q : QT) : KT := o_aload 0 (o_getI 9 3 (o_istore 3 (o_iload 3 (o_ic (nI 6) (o_icge (F 32) (o_aload 0 (o_getR 9 2 (o_iload 3 (o_aald 4 (o_iload 1 (o_iload 2 (o_cV 2 m_X2_begin 3 (o_aload 0 (o_dup (o_getI 9 3 (o_ic (nI 1) (o_iadd (o_putI 9 3 (F 32)))))))))))))))))))
def k_X9_build_32 (F : FT) (Q : QT) : KT := o_iload 3 (o_iret Q)
set_option maxRecDepth 20000 in
theorem r_X9_build {a0 : Nat} {a1 : Int32} {a2 : Int32} {n : Nat} {R : RR} {I : II} {J : JJ} {Q : QT} (hn : n + 0 ≤ 90) (h : ∀ F : FT, al_Wk F → al_Ok F (k_X9_build_0 F Q) 0 → al_Ok F (k_X9_build_32 F Q) 32 → F 0 [some (.ref a0), some (.int a1), some (.int a2), none] [] n R I J) : CT m_X9_build 0 [.ref a0, .int a1, .int a2] n R I J Q :=
  CT.of (by decide) hn (fun _ => rfl) (fun _ => Nat.le_of_ble_eq_true rfl) (fun F p l e s m args below meth c Rm t Q0 C hQ hr hm => h F (fun _ _ _ _ _ _ _ _ => S_wk C)
    (S_aload_n C dX9_build_0 rfl (S_getI (ci := 9) (j := 3) C inG9 rfl (Nat.le_of_ble_eq_true rfl) rfl (al_at 180 (by decide +kernel) rfl) dX9_build_1 (S_istore_n C dX9_build_4 rfl (Nat.le_of_ble_eq_true rfl) (S_iload_n C dX9_build_5 rfl (S_bipush C dX9_build_6 (by decide +kernel) (S_icmpge (tgt := 32) C dX9_build_8 (by decide) (S_aload_n C dX9_build_11 rfl (S_getR (ci := 9) (j := 2) C inG9 rfl (Nat.le_of_ble_eq_true rfl) rfl (al_at 177 (by decide +kernel) rfl) dX9_build_12 (S_iload_n C dX9_build_15 rfl (S_aald (ak := 4) C (fun _ _ _ _ _ _ => rfl) (fun _ => rfl) dX9_build_16 (S_iload_n C dX9_build_17 rfl (S_iload_n C dX9_build_18 rfl (S_cV (ci := 2) C ok_X2_begin rfl (al_at 361 (by decide +kernel) rfl) (Nat.le_of_ble_eq_true rfl) (Nat.le_of_ble_eq_true rfl) dX9_build_19 (S_aload_n C dX9_build_22 rfl (S_dup C dX9_build_23 (S_getI (ci := 9) (j := 3) C inG9 rfl (Nat.le_of_ble_eq_true rfl) rfl (al_at 180 (by decide +kernel) rfl) dX9_build_24 (S_iconst C dX9_build_27 (by decide +kernel) (S_iadd C dX9_build_28 (S_putI (ci := 9) (j := 3) C inG9 rfl (Nat.le_of_ble_eq_true rfl) tyX9 tyX9_ok nmX9 rfl rfl (tyX9_ok 3 (Nat.le_of_ble_eq_true rfl)) (al_at 180 (by decide +kernel) rfl) dX9_build_29 (fun _ _ _ _ _ _ h9 => h9))))))))))))))))))))
    (S_iload_n C dX9_build_32 rfl (S_iret C hQ hr dX9_build_33)))
theorem dX9_cornerBehind_0 : decode cX9_cornerBehind 0 = .ok (.iload_n 2, 1) := by decide +kernel
theorem dX9_cornerBehind_1 : decode cX9_cornerBehind 1 = .ok (.iconst 1, 1) := by decide +kernel
theorem dX9_cornerBehind_2 : decode cX9_cornerBehind 2 = .ok (.iadd, 1) := by decide +kernel
theorem dX9_cornerBehind_3 : decode cX9_cornerBehind 3 = .ok (.istore_n 3, 1) := by decide +kernel
theorem dX9_cornerBehind_4 : decode cX9_cornerBehind 4 = .ok (.iload_n 3, 1) := by decide +kernel
theorem dX9_cornerBehind_5 : decode cX9_cornerBehind 5 = .ok (.bipush 81, 2) := by decide +kernel
theorem dX9_cornerBehind_7 : decode cX9_cornerBehind 7 = .ok (.if_icmp .ge 20, 3) := by decide +kernel
theorem dX9_cornerBehind_10 : decode cX9_cornerBehind 10 = .ok (.aload_n 0, 1) := by decide +kernel
theorem dX9_cornerBehind_11 : decode cX9_cornerBehind 11 = .ok (.iload_n 1, 1) := by decide +kernel
theorem dX9_cornerBehind_12 : decode cX9_cornerBehind 12 = .ok (.iload_n 3, 1) := by decide +kernel
theorem dX9_cornerBehind_13 : decode cX9_cornerBehind 13 = .ok (.invokevirtual 50, 3) := by decide +kernel
theorem dX9_cornerBehind_16 : decode cX9_cornerBehind 16 = .ok (.ifCond .eq 5, 3) := by decide +kernel
theorem dX9_cornerBehind_19 : decode cX9_cornerBehind 19 = .ok (.iload_n 3, 1) := by decide +kernel
theorem dX9_cornerBehind_20 : decode cX9_cornerBehind 20 = .ok (.ireturn, 1) := by decide +kernel
theorem dX9_cornerBehind_21 : decode cX9_cornerBehind 21 = .ok (.iinc 3 1, 3) := by decide +kernel
theorem dX9_cornerBehind_24 : decode cX9_cornerBehind 24 = .ok (.goto (-20), 3) := by decide +kernel
theorem dX9_cornerBehind_27 : decode cX9_cornerBehind 27 = .ok (.bipush 81, 2) := by decide +kernel
theorem dX9_cornerBehind_29 : decode cX9_cornerBehind 29 = .ok (.ireturn, 1) := by decide +kernel
def k_X9_cornerBehind_0 (F : FT) (Q : QT) : KT := o_iload 2 (o_ic (nI 1) (o_iadd (o_istore 3 (F 4))))
def k_X9_cornerBehind_4 (F : FT) (Q : QT) : KT := o_iload 3 (o_ic (nI 81) (o_icge (F 27) (o_aload 0 (o_iload 1 (o_iload 3 (o_cV 9 m_X9_shapeAt 3 (o_ifeq (F 21) (o_iload 3 (o_iret Q)))))))))
def k_X9_cornerBehind_21 (F : FT) (Q : QT) : KT := o_iinc 3 (nI 1) (F 4)
def k_X9_cornerBehind_27 (F : FT) (Q : QT) : KT := o_ic (nI 81) (o_iret Q)
set_option maxRecDepth 20000 in
theorem r_X9_cornerBehind {a0 : Nat} {a1 : Int32} {a2 : Int32} {n : Nat} {R : RR} {I : II} {J : JJ} {Q : QT} (hn : n + 0 ≤ 90) (h : ∀ F : FT, al_Wk F → al_Ok F (k_X9_cornerBehind_0 F Q) 0 → al_Ok F (k_X9_cornerBehind_4 F Q) 4 → al_Ok F (k_X9_cornerBehind_21 F Q) 21 → al_Ok F (k_X9_cornerBehind_27 F Q) 27 → F 0 [some (.ref a0), some (.int a1), some (.int a2), none] [] n R I J) : CT m_X9_cornerBehind 0 [.ref a0, .int a1, .int a2] n R I J Q :=
  CT.of (by decide) hn (fun _ => rfl) (fun _ => Nat.le_of_ble_eq_true rfl) (fun F p l e s m args below meth c Rm t Q0 C hQ hr hm => h F (fun _ _ _ _ _ _ _ _ => S_wk C)
    (S_iload_n C dX9_cornerBehind_0 rfl (S_iconst C dX9_cornerBehind_1 (by decide +kernel) (S_iadd C dX9_cornerBehind_2 (S_istore_n C dX9_cornerBehind_3 rfl (Nat.le_of_ble_eq_true rfl) (fun _ _ _ _ _ _ h9 => h9)))))
    (S_iload_n C dX9_cornerBehind_4 rfl (S_bipush C dX9_cornerBehind_5 (by decide +kernel) (S_icmpge (tgt := 27) C dX9_cornerBehind_7 (by decide) (S_aload_n C dX9_cornerBehind_10 rfl (S_iload_n C dX9_cornerBehind_11 rfl (S_iload_n C dX9_cornerBehind_12 rfl (S_cV (ci := 9) C ok_X9_shapeAt rfl (al_at 381 (by decide +kernel) rfl) (Nat.le_of_ble_eq_true rfl) (Nat.le_of_ble_eq_true rfl) dX9_cornerBehind_13 (S_ifeq (tgt := 21) C dX9_cornerBehind_16 (by decide) (S_iload_n C dX9_cornerBehind_19 rfl (S_iret C hQ hr dX9_cornerBehind_20))))))))))
    (S_iinc C dX9_cornerBehind_21 (by decide +kernel) (Nat.le_of_ble_eq_true rfl) (S_goto (tgt := 4) C dX9_cornerBehind_24 (by decide)))
    (S_bipush C dX9_cornerBehind_27 (by decide +kernel) (S_iret C hQ hr dX9_cornerBehind_29)))
theorem dX9_cornersInCommon_0 : decode cX9_cornersInCommon 0 = .ok (.iconst 0, 1) := by decide +kernel
theorem dX9_cornersInCommon_1 : decode cX9_cornersInCommon 1 = .ok (.istore_n 3, 1) := by decide +kernel
theorem dX9_cornersInCommon_2 : decode cX9_cornersInCommon 2 = .ok (.iconst 0, 1) := by decide +kernel
theorem dX9_cornersInCommon_3 : decode cX9_cornersInCommon 3 = .ok (.istore 4, 2) := by decide +kernel
theorem dX9_cornersInCommon_5 : decode cX9_cornersInCommon 5 = .ok (.iload 4, 2) := by decide +kernel
theorem dX9_cornersInCommon_7 : decode cX9_cornersInCommon 7 = .ok (.bipush 81, 2) := by decide +kernel
theorem dX9_cornersInCommon_9 : decode cX9_cornersInCommon 9 = .ok (.if_icmp .ge 32, 3) := by decide +kernel
theorem dX9_cornersInCommon_12 : decode cX9_cornersInCommon 12 = .ok (.aload_n 0, 1) := by decide +kernel
theorem dX9_cornersInCommon_13 : decode cX9_cornersInCommon 13 = .ok (.iload_n 1, 1) := by decide +kernel
theorem dX9_cornersInCommon_14 : decode cX9_cornersInCommon 14 = .ok (.iload 4, 2) := by decide +kernel
theorem dX9_cornersInCommon_16 : decode cX9_cornersInCommon 16 = .ok (.invokevirtual 50, 3) := by decide +kernel
theorem dX9_cornersInCommon_19 : decode cX9_cornersInCommon 19 = .ok (.ifCond .eq 16, 3) := by decide +kernel
theorem dX9_cornersInCommon_22 : decode cX9_cornersInCommon 22 = .ok (.aload_n 0, 1) := by decide +kernel
theorem dX9_cornersInCommon_23 : decode cX9_cornersInCommon 23 = .ok (.iload_n 2, 1) := by decide +kernel
theorem dX9_cornersInCommon_24 : decode cX9_cornersInCommon 24 = .ok (.iload 4, 2) := by decide +kernel
theorem dX9_cornersInCommon_26 : decode cX9_cornersInCommon 26 = .ok (.invokevirtual 50, 3) := by decide +kernel
theorem dX9_cornersInCommon_29 : decode cX9_cornersInCommon 29 = .ok (.ifCond .eq 6, 3) := by decide +kernel
theorem dX9_cornersInCommon_32 : decode cX9_cornersInCommon 32 = .ok (.iinc 3 1, 3) := by decide +kernel
theorem dX9_cornersInCommon_35 : decode cX9_cornersInCommon 35 = .ok (.iinc 4 1, 3) := by decide +kernel
theorem dX9_cornersInCommon_38 : decode cX9_cornersInCommon 38 = .ok (.goto (-33), 3) := by decide +kernel
theorem dX9_cornersInCommon_41 : decode cX9_cornersInCommon 41 = .ok (.iload_n 3, 1) := by decide +kernel
theorem dX9_cornersInCommon_42 : decode cX9_cornersInCommon 42 = .ok (.ireturn, 1) := by decide +kernel
def k_X9_cornersInCommon_0 (F : FT) (Q : QT) : KT := o_ic (nI 0) (o_istore 3 (o_ic (nI 0) (o_istore 4 (F 5))))
def k_X9_cornersInCommon_5 (F : FT) (Q : QT) : KT := o_iload 4 (o_ic (nI 81) (o_icge (F 41) (o_aload 0 (o_iload 1 (o_iload 4 (o_cV 9 m_X9_shapeAt 3 (o_ifeq (F 35) (o_aload 0 (o_iload 2 (o_iload 4 (o_cV 9 m_X9_shapeAt 3 (o_ifeq (F 35) (o_iinc 3 (nI 1) (F 35))))))))))))))
def k_X9_cornersInCommon_35 (F : FT) (Q : QT) : KT := o_iinc 4 (nI 1) (F 5)
def k_X9_cornersInCommon_41 (F : FT) (Q : QT) : KT := o_iload 3 (o_iret Q)
set_option maxRecDepth 20000 in
theorem r_X9_cornersInCommon {a0 : Nat} {a1 : Int32} {a2 : Int32} {n : Nat} {R : RR} {I : II} {J : JJ} {Q : QT} (hn : n + 0 ≤ 90) (h : ∀ F : FT, al_Wk F → al_Ok F (k_X9_cornersInCommon_0 F Q) 0 → al_Ok F (k_X9_cornersInCommon_5 F Q) 5 → al_Ok F (k_X9_cornersInCommon_35 F Q) 35 → al_Ok F (k_X9_cornersInCommon_41 F Q) 41 → F 0 [some (.ref a0), some (.int a1), some (.int a2), none, none] [] n R I J) : CT m_X9_cornersInCommon 0 [.ref a0, .int a1, .int a2] n R I J Q :=
  CT.of (by decide) hn (fun _ => rfl) (fun _ => Nat.le_of_ble_eq_true rfl) (fun F p l e s m args below meth c Rm t Q0 C hQ hr hm => h F (fun _ _ _ _ _ _ _ _ => S_wk C)
    (S_iconst C dX9_cornersInCommon_0 (by decide +kernel) (S_istore_n C dX9_cornersInCommon_1 rfl (Nat.le_of_ble_eq_true rfl) (S_iconst C dX9_cornersInCommon_2 (by decide +kernel) (S_istore C dX9_cornersInCommon_3 (Nat.le_of_ble_eq_true rfl) (fun _ _ _ _ _ _ h9 => h9)))))
    (S_iload C dX9_cornersInCommon_5 (S_bipush C dX9_cornersInCommon_7 (by decide +kernel) (S_icmpge (tgt := 41) C dX9_cornersInCommon_9 (by decide) (S_aload_n C dX9_cornersInCommon_12 rfl (S_iload_n C dX9_cornersInCommon_13 rfl (S_iload C dX9_cornersInCommon_14 (S_cV (ci := 9) C ok_X9_shapeAt rfl (al_at 381 (by decide +kernel) rfl) (Nat.le_of_ble_eq_true rfl) (Nat.le_of_ble_eq_true rfl) dX9_cornersInCommon_16 (S_ifeq (tgt := 35) C dX9_cornersInCommon_19 (by decide) (S_aload_n C dX9_cornersInCommon_22 rfl (S_iload_n C dX9_cornersInCommon_23 rfl (S_iload C dX9_cornersInCommon_24 (S_cV (ci := 9) C ok_X9_shapeAt rfl (al_at 381 (by decide +kernel) rfl) (Nat.le_of_ble_eq_true rfl) (Nat.le_of_ble_eq_true rfl) dX9_cornersInCommon_26 (S_ifeq (tgt := 35) C dX9_cornersInCommon_29 (by decide) (S_iinc C dX9_cornersInCommon_32 (by decide +kernel) (Nat.le_of_ble_eq_true rfl) (fun _ _ _ _ _ _ h9 => h9)))))))))))))))
    (S_iinc C dX9_cornersInCommon_35 (by decide +kernel) (Nat.le_of_ble_eq_true rfl) (S_goto (tgt := 5) C dX9_cornersInCommon_38 (by decide)))
    (S_iload_n C dX9_cornersInCommon_41 rfl (S_iret C hQ hr dX9_cornersInCommon_42)))
theorem dX9_cornersOf_0 : decode cX9_cornersOf 0 = .ok (.iconst 0, 1) := by decide +kernel
theorem dX9_cornersOf_1 : decode cX9_cornersOf 1 = .ok (.istore_n 2, 1) := by decide +kernel
theorem dX9_cornersOf_2 : decode cX9_cornersOf 2 = .ok (.iconst 0, 1) := by decide +kernel
theorem dX9_cornersOf_3 : decode cX9_cornersOf 3 = .ok (.istore_n 3, 1) := by decide +kernel
theorem dX9_cornersOf_4 : decode cX9_cornersOf 4 = .ok (.iload_n 3, 1) := by decide +kernel
theorem dX9_cornersOf_5 : decode cX9_cornersOf 5 = .ok (.bipush 81, 2) := by decide +kernel
theorem dX9_cornersOf_7 : decode cX9_cornersOf 7 = .ok (.if_icmp .ge 21, 3) := by decide +kernel
theorem dX9_cornersOf_10 : decode cX9_cornersOf 10 = .ok (.aload_n 0, 1) := by decide +kernel
theorem dX9_cornersOf_11 : decode cX9_cornersOf 11 = .ok (.iload_n 1, 1) := by decide +kernel
theorem dX9_cornersOf_12 : decode cX9_cornersOf 12 = .ok (.iload_n 3, 1) := by decide +kernel
theorem dX9_cornersOf_13 : decode cX9_cornersOf 13 = .ok (.invokevirtual 50, 3) := by decide +kernel
theorem dX9_cornersOf_16 : decode cX9_cornersOf 16 = .ok (.ifCond .eq 6, 3) := by decide +kernel
theorem dX9_cornersOf_19 : decode cX9_cornersOf 19 = .ok (.iinc 2 1, 3) := by decide +kernel
theorem dX9_cornersOf_22 : decode cX9_cornersOf 22 = .ok (.iinc 3 1, 3) := by decide +kernel
theorem dX9_cornersOf_25 : decode cX9_cornersOf 25 = .ok (.goto (-21), 3) := by decide +kernel
theorem dX9_cornersOf_28 : decode cX9_cornersOf 28 = .ok (.iload_n 2, 1) := by decide +kernel
theorem dX9_cornersOf_29 : decode cX9_cornersOf 29 = .ok (.ireturn, 1) := by decide +kernel
def k_X9_cornersOf_0 (F : FT) (Q : QT) : KT := o_ic (nI 0) (o_istore 2 (o_ic (nI 0) (o_istore 3 (F 4))))
def k_X9_cornersOf_4 (F : FT) (Q : QT) : KT := o_iload 3 (o_ic (nI 81) (o_icge (F 28) (o_aload 0 (o_iload 1 (o_iload 3 (o_cV 9 m_X9_shapeAt 3 (o_ifeq (F 22) (o_iinc 2 (nI 1) (F 22)))))))))
def k_X9_cornersOf_22 (F : FT) (Q : QT) : KT := o_iinc 3 (nI 1) (F 4)
def k_X9_cornersOf_28 (F : FT) (Q : QT) : KT := o_iload 2 (o_iret Q)
set_option maxRecDepth 20000 in
theorem r_X9_cornersOf {a0 : Nat} {a1 : Int32} {n : Nat} {R : RR} {I : II} {J : JJ} {Q : QT} (hn : n + 0 ≤ 90) (h : ∀ F : FT, al_Wk F → al_Ok F (k_X9_cornersOf_0 F Q) 0 → al_Ok F (k_X9_cornersOf_4 F Q) 4 → al_Ok F (k_X9_cornersOf_22 F Q) 22 → al_Ok F (k_X9_cornersOf_28 F Q) 28 → F 0 [some (.ref a0), some (.int a1), none, none] [] n R I J) : CT m_X9_cornersOf 0 [.ref a0, .int a1] n R I J Q :=
  CT.of (by decide) hn (fun _ => rfl) (fun _ => Nat.le_of_ble_eq_true rfl) (fun F p l e s m args below meth c Rm t Q0 C hQ hr hm => h F (fun _ _ _ _ _ _ _ _ => S_wk C)
    (S_iconst C dX9_cornersOf_0 (by decide +kernel) (S_istore_n C dX9_cornersOf_1 rfl (Nat.le_of_ble_eq_true rfl) (S_iconst C dX9_cornersOf_2 (by decide +kernel) (S_istore_n C dX9_cornersOf_3 rfl (Nat.le_of_ble_eq_true rfl) (fun _ _ _ _ _ _ h9 => h9)))))
    (S_iload_n C dX9_cornersOf_4 rfl (S_bipush C dX9_cornersOf_5 (by decide +kernel) (S_icmpge (tgt := 28) C dX9_cornersOf_7 (by decide) (S_aload_n C dX9_cornersOf_10 rfl (S_iload_n C dX9_cornersOf_11 rfl (S_iload_n C dX9_cornersOf_12 rfl (S_cV (ci := 9) C ok_X9_shapeAt rfl (al_at 381 (by decide +kernel) rfl) (Nat.le_of_ble_eq_true rfl) (Nat.le_of_ble_eq_true rfl) dX9_cornersOf_13 (S_ifeq (tgt := 22) C dX9_cornersOf_16 (by decide) (S_iinc C dX9_cornersOf_19 (by decide +kernel) (Nat.le_of_ble_eq_true rfl) (fun _ _ _ _ _ _ h9 => h9))))))))))
    (S_iinc C dX9_cornersOf_22 (by decide +kernel) (Nat.le_of_ble_eq_true rfl) (S_goto (tgt := 4) C dX9_cornersOf_25 (by decide)))
    (S_iload_n C dX9_cornersOf_28 rfl (S_iret C hQ hr dX9_cornersOf_29)))
theorem dX9_countIfSeen_0 : decode cX9_countIfSeen 0 = .ok (.iload_n 3, 1) := by decide +kernel
theorem dX9_countIfSeen_1 : decode cX9_countIfSeen 1 = .ok (.ifCond .le 16, 3) := by decide +kernel
theorem dX9_countIfSeen_4 : decode cX9_countIfSeen 4 = .ok (.aload_n 0, 1) := by decide +kernel
theorem dX9_countIfSeen_5 : decode cX9_countIfSeen 5 = .ok (.getfield 21, 3) := by decide +kernel
theorem dX9_countIfSeen_8 : decode cX9_countIfSeen 8 = .ok (.iload_n 1, 1) := by decide +kernel
theorem dX9_countIfSeen_9 : decode cX9_countIfSeen 9 = .ok (.aaload, 1) := by decide +kernel
theorem dX9_countIfSeen_10 : decode cX9_countIfSeen 10 = .ok (.iload_n 2, 1) := by decide +kernel
theorem dX9_countIfSeen_11 : decode cX9_countIfSeen 11 = .ok (.invokevirtual 54, 3) := by decide +kernel
theorem dX9_countIfSeen_14 : decode cX9_countIfSeen 14 = .ok (.ifCond .eq 5, 3) := by decide +kernel
theorem dX9_countIfSeen_17 : decode cX9_countIfSeen 17 = .ok (.iconst 0, 1) := by decide +kernel
theorem dX9_countIfSeen_18 : decode cX9_countIfSeen 18 = .ok (.ireturn, 1) := by decide +kernel
theorem dX9_countIfSeen_19 : decode cX9_countIfSeen 19 = .ok (.aload_n 0, 1) := by decide +kernel
theorem dX9_countIfSeen_20 : decode cX9_countIfSeen 20 = .ok (.iload_n 1, 1) := by decide +kernel
theorem dX9_countIfSeen_21 : decode cX9_countIfSeen 21 = .ok (.iload_n 2, 1) := by decide +kernel
theorem dX9_countIfSeen_22 : decode cX9_countIfSeen 22 = .ok (.invokevirtual 50, 3) := by decide +kernel
theorem dX9_countIfSeen_25 : decode cX9_countIfSeen 25 = .ok (.istore 4, 2) := by decide +kernel
theorem dX9_countIfSeen_27 : decode cX9_countIfSeen 27 = .ok (.iload 4, 2) := by decide +kernel
theorem dX9_countIfSeen_29 : decode cX9_countIfSeen 29 = .ok (.ifCond .ne 5, 3) := by decide +kernel
theorem dX9_countIfSeen_32 : decode cX9_countIfSeen 32 = .ok (.iconst 0, 1) := by decide +kernel
theorem dX9_countIfSeen_33 : decode cX9_countIfSeen 33 = .ok (.ireturn, 1) := by decide +kernel
theorem dX9_countIfSeen_34 : decode cX9_countIfSeen 34 = .ok (.aload_n 0, 1) := by decide +kernel
theorem dX9_countIfSeen_35 : decode cX9_countIfSeen 35 = .ok (.iload_n 1, 1) := by decide +kernel
theorem dX9_countIfSeen_36 : decode cX9_countIfSeen 36 = .ok (.invokevirtual 58, 3) := by decide +kernel
theorem dX9_countIfSeen_39 : decode cX9_countIfSeen 39 = .ok (.iload 4, 2) := by decide +kernel
theorem dX9_countIfSeen_41 : decode cX9_countIfSeen 41 = .ok (.iconst 1, 1) := by decide +kernel
theorem dX9_countIfSeen_42 : decode cX9_countIfSeen 42 = .ok (.if_icmp .ne 7, 3) := by decide +kernel
theorem dX9_countIfSeen_45 : decode cX9_countIfSeen 45 = .ok (.iconst 1, 1) := by decide +kernel
theorem dX9_countIfSeen_46 : decode cX9_countIfSeen 46 = .ok (.goto 4, 3) := by decide +kernel
theorem dX9_countIfSeen_49 : decode cX9_countIfSeen 49 = .ok (.iconst 0, 1) := by decide +kernel
theorem dX9_countIfSeen_50 : decode cX9_countIfSeen 50 = .ok (.aload_n 0, 1) := by decide +kernel
theorem dX9_countIfSeen_51 : decode cX9_countIfSeen 51 = .ok (.iload_n 1, 1) := by decide +kernel
theorem dX9_countIfSeen_52 : decode cX9_countIfSeen 52 = .ok (.iload_n 2, 1) := by decide +kernel
theorem dX9_countIfSeen_53 : decode cX9_countIfSeen 53 = .ok (.invokevirtual 62, 3) := by decide +kernel
theorem dX9_countIfSeen_56 : decode cX9_countIfSeen 56 = .ok (.iload_n 3, 1) := by decide +kernel
theorem dX9_countIfSeen_57 : decode cX9_countIfSeen 57 = .ok (.invokevirtual 66, 3) := by decide +kernel
theorem dX9_countIfSeen_60 : decode cX9_countIfSeen 60 = .ok (.ireturn, 1) := by decide +kernel
def k_X9_countIfSeen_0 (F : FT) (Q : QT) : KT := o_iload 3 (o_ifle (F 17) (o_aload 0 (o_getR 9 2 (o_iload 1 (o_aald 4 (o_iload 2 (o_cV 2 m_X2_isRounded 2 (o_ifeq (F 19) (F 17)))))))))
def k_X9_countIfSeen_17 (F : FT) (Q : QT) : KT := o_ic (nI 0) (o_iret Q)
def k_X9_countIfSeen_19 (F : FT) (Q : QT) : KT := o_aload 0 (o_iload 1 (o_iload 2 (o_cV 9 m_X9_shapeAt 3 (o_istore 4 (o_iload 4 (o_ifne (F 34) (o_ic (nI 0) (o_iret Q))))))))
def k_X9_countIfSeen_34 (F : FT) (Q : QT) : KT := o_aload 0 (o_iload 1 (o_cV 9 m_X9_lawOf 2 (o_iload 4 (o_ic (nI 1) (o_icne (F 49) (o_ic (nI 1) (F 50)))))))
def k_X9_countIfSeen_49 (F : FT) (Q : QT) : KT := o_ic (nI 0) (F 50)
def k_X9_countIfSeen_50 (F : FT) (Q : QT) : KT := o_aload 0 (o_iload 1 (o_iload 2 (o_cV 9 m_X9_isLessersCorner 3 (o_iload 3 (o_cU f_weigh 4 (o_iret Q))))))
set_option maxRecDepth 20000 in
theorem r_X9_countIfSeen {a0 : Nat} {a1 : Int32} {a2 : Int32} {a3 : Int32} {n : Nat} {R : RR} {I : II} {J : JJ} {Q : QT} (hn : n + 0 ≤ 90) (h : ∀ F : FT, al_Wk F → al_Ok F (k_X9_countIfSeen_0 F Q) 0 → al_Ok F (k_X9_countIfSeen_17 F Q) 17 → al_Ok F (k_X9_countIfSeen_19 F Q) 19 → al_Ok F (k_X9_countIfSeen_34 F Q) 34 → al_Ok F (k_X9_countIfSeen_49 F Q) 49 → al_Ok F (k_X9_countIfSeen_50 F Q) 50 → F 0 [some (.ref a0), some (.int a1), some (.int a2), some (.int a3), none] [] n R I J) : CT m_X9_countIfSeen 0 [.ref a0, .int a1, .int a2, .int a3] n R I J Q :=
  CT.of (by decide) hn (fun _ => rfl) (fun _ => Nat.le_of_ble_eq_true rfl) (fun F p l e s m args below meth c Rm t Q0 C hQ hr hm => h F (fun _ _ _ _ _ _ _ _ => S_wk C)
    (S_iload_n C dX9_countIfSeen_0 rfl (S_ifle (tgt := 17) C dX9_countIfSeen_1 (by decide) (S_aload_n C dX9_countIfSeen_4 rfl (S_getR (ci := 9) (j := 2) C inG9 rfl (Nat.le_of_ble_eq_true rfl) rfl (al_at 177 (by decide +kernel) rfl) dX9_countIfSeen_5 (S_iload_n C dX9_countIfSeen_8 rfl (S_aald (ak := 4) C (fun _ _ _ _ _ _ => rfl) (fun _ => rfl) dX9_countIfSeen_9 (S_iload_n C dX9_countIfSeen_10 rfl (S_cV (ci := 2) C ok_X2_isRounded rfl (al_at 420 (by decide +kernel) rfl) (Nat.le_of_ble_eq_true rfl) (Nat.le_of_ble_eq_true rfl) dX9_countIfSeen_11 (S_ifeq (tgt := 19) C dX9_countIfSeen_14 (by decide) (fun _ _ _ _ _ _ h9 => h9))))))))))
    (S_iconst C dX9_countIfSeen_17 (by decide +kernel) (S_iret C hQ hr dX9_countIfSeen_18))
    (S_aload_n C dX9_countIfSeen_19 rfl (S_iload_n C dX9_countIfSeen_20 rfl (S_iload_n C dX9_countIfSeen_21 rfl (S_cV (ci := 9) C ok_X9_shapeAt rfl (al_at 381 (by decide +kernel) rfl) (Nat.le_of_ble_eq_true rfl) (Nat.le_of_ble_eq_true rfl) dX9_countIfSeen_22 (S_istore C dX9_countIfSeen_25 (Nat.le_of_ble_eq_true rfl) (S_iload C dX9_countIfSeen_27 (S_ifne (tgt := 34) C dX9_countIfSeen_29 (by decide) (S_iconst C dX9_countIfSeen_32 (by decide +kernel) (S_iret C hQ hr dX9_countIfSeen_33)))))))))
    (S_aload_n C dX9_countIfSeen_34 rfl (S_iload_n C dX9_countIfSeen_35 rfl (S_cV (ci := 9) C ok_X9_lawOf rfl (al_at 424 (by decide +kernel) rfl) (Nat.le_of_ble_eq_true rfl) (Nat.le_of_ble_eq_true rfl) dX9_countIfSeen_36 (S_iload C dX9_countIfSeen_39 (S_iconst C dX9_countIfSeen_41 (by decide +kernel) (S_icmpne (tgt := 49) C dX9_countIfSeen_42 (by decide) (S_iconst C dX9_countIfSeen_45 (by decide +kernel) (S_goto (tgt := 50) C dX9_countIfSeen_46 (by decide)))))))))
    (S_iconst C dX9_countIfSeen_49 (by decide +kernel) (fun _ _ _ _ _ _ h9 => h9))
    (S_aload_n C dX9_countIfSeen_50 rfl (S_iload_n C dX9_countIfSeen_51 rfl (S_iload_n C dX9_countIfSeen_52 rfl (S_cV (ci := 9) C ok_X9_isLessersCorner rfl (al_at 428 (by decide +kernel) rfl) (Nat.le_of_ble_eq_true rfl) (Nat.le_of_ble_eq_true rfl) dX9_countIfSeen_53 (S_iload_n C dX9_countIfSeen_56 rfl (S_cU (b0 := cX3_weigh) (m0 := 4) (r0 := (some .int)) C okU_weigh (al_at 435 (by decide +kernel) rfl) (al_at 433 (by decide +kernel) rfl) (al_at 458 (by decide +kernel) rfl) ⟨by decide, by decide⟩ (al_at 432 (by decide +kernel) rfl) (Nat.le_of_ble_eq_true rfl) (Nat.le_of_ble_eq_true rfl) dX9_countIfSeen_57 (S_iret C hQ hr dX9_countIfSeen_60))))))))
theorem dX9_init_0 : decode cX9_init 0 = .ok (.aload_n 0, 1) := by decide +kernel
theorem dX9_init_1 : decode cX9_init 1 = .ok (.invokespecial 3, 3) := by decide +kernel
theorem dX9_init_4 : decode cX9_init 4 = .ok (.aload_n 0, 1) := by decide +kernel
theorem dX9_init_5 : decode cX9_init 5 = .ok (.aload_n 1, 1) := by decide +kernel
theorem dX9_init_6 : decode cX9_init 6 = .ok (.putfield 9, 3) := by decide +kernel
theorem dX9_init_9 : decode cX9_init 9 = .ok (.aload_n 0, 1) := by decide +kernel
theorem dX9_init_10 : decode cX9_init 10 = .ok (.bipush 64, 2) := by decide +kernel
theorem dX9_init_12 : decode cX9_init 12 = .ok (.newarray .int, 2) := by decide +kernel
theorem dX9_init_14 : decode cX9_init 14 = .ok (.putfield 15, 3) := by decide +kernel
theorem dX9_init_17 : decode cX9_init 17 = .ok (.aload_n 0, 1) := by decide +kernel
theorem dX9_init_18 : decode cX9_init 18 = .ok (.bipush 6, 2) := by decide +kernel
theorem dX9_init_20 : decode cX9_init 20 = .ok (.anewarray 19, 3) := by decide +kernel
theorem dX9_init_23 : decode cX9_init 23 = .ok (.putfield 21, 3) := by decide +kernel
theorem dX9_init_26 : decode cX9_init 26 = .ok (.iconst 0, 1) := by decide +kernel
theorem dX9_init_27 : decode cX9_init 27 = .ok (.istore_n 2, 1) := by decide +kernel
theorem dX9_init_28 : decode cX9_init 28 = .ok (.iload_n 2, 1) := by decide +kernel
theorem dX9_init_29 : decode cX9_init 29 = .ok (.bipush 6, 2) := by decide +kernel
theorem dX9_init_31 : decode cX9_init 31 = .ok (.if_icmp .ge 22, 3) := by decide +kernel
theorem dX9_init_34 : decode cX9_init 34 = .ok (.aload_n 0, 1) := by decide +kernel
theorem dX9_init_35 : decode cX9_init 35 = .ok (.getfield 21, 3) := by decide +kernel
theorem dX9_init_38 : decode cX9_init 38 = .ok (.iload_n 2, 1) := by decide +kernel
theorem dX9_init_39 : decode cX9_init 39 = .ok (.new 19, 3) := by decide +kernel
theorem dX9_init_42 : decode cX9_init 42 = .ok (.dup, 1) := by decide +kernel
theorem dX9_init_43 : decode cX9_init 43 = .ok (.invokespecial 25, 3) := by decide +kernel
theorem dX9_init_46 : decode cX9_init 46 = .ok (.aastore, 1) := by decide +kernel
theorem dX9_init_47 : decode cX9_init 47 = .ok (.iinc 2 1, 3) := by decide +kernel
theorem dX9_init_50 : decode cX9_init 50 = .ok (.goto (-22), 3) := by decide +kernel
theorem dX9_init_53 : decode cX9_init 53 = .ok (.return_, 1) := by decide +kernel
def k_X9_init_0 (F : FT) (Q : QT) (ne : Nat) : KT := o_aload 0 (o_oinit (o_aload 0 (o_aload 1 (o_putR 9 0 (o_aload 0 (o_ic (nI 64) (o_newa ne 0 64 (o_putR 9 1 (o_aload 0 (o_ic (nI 6) (o_newa ne 4 6 (o_putR 9 2 (o_ic (nI 0) (o_istore 2 (F 28)))))))))))))))
def k_X9_init_28 (F : FT) (Q : QT) (ne : Nat) : KT := o_iload 2 (o_ic (nI 6) (o_icge (F 53) (o_aload 0 (o_getR 9 2 (o_iload 2 (o_new ne 2 (o_dup (o_cI ne m_X2_init 1 1 (o_aast 4 2 (o_iinc 2 (nI 1) (F 28)))))))))))
def k_X9_init_53 (F : FT) (Q : QT) (ne : Nat) : KT := o_cret ne Q
set_option maxRecDepth 20000 in
theorem r_X9_init {a0 : Nat} {a1 : Nat} {n : Nat} {R : RR} {I : II} {J : JJ} {Q : QT} (hn : n + 14 ≤ 90) (h : ∀ F : FT, al_Wk F → al_Ok F (k_X9_init_0 F Q (n + 14)) 0 → al_Ok F (k_X9_init_28 F Q (n + 14)) 28 → al_Ok F (k_X9_init_53 F Q (n + 14)) 53 → F 0 [some (.ref a0), some (.ref a1), none] [] n R I J) : CT m_X9_init 14 [.ref a0, .ref a1] n R I J Q :=
  CT.of (by decide) hn (fun _ => rfl) (fun _ => Nat.le_of_ble_eq_true rfl) (fun F p l e s m args below meth c Rm t Q0 C hQ hr hm => h F (fun _ _ _ _ _ _ _ _ => S_wk C)
    (S_aload_n C dX9_init_0 rfl (S_oinit C (al_at 137 (by decide +kernel) rfl) (al_at 87 (by decide +kernel) rfl) (al_at 88 (by decide +kernel) rfl) (Nat.le_of_ble_eq_true rfl) (Nat.le_of_ble_eq_true rfl) dX9_init_1 (S_aload_n C dX9_init_4 rfl (S_aload_n C dX9_init_5 rfl (S_putR (ci := 9) (j := 0) C inG9 rfl (Nat.le_of_ble_eq_true rfl) tyX9 tyX9_ok nmX9 rfl rfl (tyX9_ok 0 (Nat.le_of_ble_eq_true rfl)) (Or.inr ⟨_, rfl⟩) hm rfl (al_at 172 (by decide +kernel) rfl) dX9_init_6 (S_aload_n C dX9_init_9 rfl (S_bipush C dX9_init_10 (by decide +kernel) (S_newa0 C (al_at 171 (by decide +kernel) rfl) dX9_init_12 (S_putR (ci := 9) (j := 1) C inG9 rfl (Nat.le_of_ble_eq_true rfl) tyX9 tyX9_ok nmX9 rfl rfl (tyX9_ok 1 (Nat.le_of_ble_eq_true rfl)) (Or.inr ⟨_, rfl⟩) hm rfl (al_at 174 (by decide +kernel) rfl) dX9_init_14 (S_aload_n C dX9_init_17 rfl (S_bipush C dX9_init_18 (by decide +kernel) (S_anewa (ak := 4) C (fun _ _ _ _ _ _ => rfl) (fun _ => rfl) (al_at 138 (by decide +kernel) rfl) (by decide) dX9_init_20 (S_putR (ci := 9) (j := 2) C inG9 rfl (Nat.le_of_ble_eq_true rfl) tyX9 tyX9_ok nmX9 rfl rfl (tyX9_ok 2 (Nat.le_of_ble_eq_true rfl)) (Or.inr ⟨_, rfl⟩) hm rfl (al_at 177 (by decide +kernel) rfl) dX9_init_23 (S_iconst C dX9_init_26 (by decide +kernel) (S_istore_n C dX9_init_27 rfl (Nat.le_of_ble_eq_true rfl) (fun _ _ _ _ _ _ h9 => h9))))))))))))))))
    (S_iload_n C dX9_init_28 rfl (S_bipush C dX9_init_29 (by decide +kernel) (S_icmpge (tgt := 53) C dX9_init_31 (by decide) (S_aload_n C dX9_init_34 rfl (S_getR (ci := 9) (j := 2) C inG9 rfl (Nat.le_of_ble_eq_true rfl) rfl (al_at 177 (by decide +kernel) rfl) dX9_init_35 (S_iload_n C dX9_init_38 rfl (S_new (ci := 2) C inG2 rfl rfl tyX2 tyX2_ok (by decide +kernel) (al_at 138 (by decide +kernel) rfl) (al_at 140 (by decide +kernel) rfl) (al_at 67 (by decide +kernel) rfl) dX9_init_39 (S_dup C dX9_init_42 (S_cI C ok_X2_init (al_at 141 (by decide +kernel) rfl) (Nat.le_of_ble_eq_true rfl) (Nat.le_of_ble_eq_true rfl) dX9_init_43 (S_aast (ak := 4) (ci := 2) C (fun _ _ _ _ _ _ => rfl) (fun _ => rfl) rfl (fun _ _ _ e1 e2 => al_same e1 e2) dX9_init_46 (S_iinc C dX9_init_47 (by decide +kernel) (Nat.le_of_ble_eq_true rfl) (S_goto (tgt := 28) C dX9_init_50 (by decide)))))))))))))
    (S_cret C hQ hr dX9_init_53))
theorem dX9_isLessersCorner_0 : decode cX9_isLessersCorner 0 = .ok (.iconst 0, 1) := by decide +kernel
theorem dX9_isLessersCorner_1 : decode cX9_isLessersCorner 1 = .ok (.istore_n 3, 1) := by decide +kernel
theorem dX9_isLessersCorner_2 : decode cX9_isLessersCorner 2 = .ok (.iload_n 3, 1) := by decide +kernel
theorem dX9_isLessersCorner_3 : decode cX9_isLessersCorner 3 = .ok (.iload_n 1, 1) := by decide +kernel
theorem dX9_isLessersCorner_4 : decode cX9_isLessersCorner 4 = .ok (.if_icmp .ge 20, 3) := by decide +kernel
theorem dX9_isLessersCorner_7 : decode cX9_isLessersCorner 7 = .ok (.aload_n 0, 1) := by decide +kernel
theorem dX9_isLessersCorner_8 : decode cX9_isLessersCorner 8 = .ok (.iload_n 3, 1) := by decide +kernel
theorem dX9_isLessersCorner_9 : decode cX9_isLessersCorner 9 = .ok (.iload_n 2, 1) := by decide +kernel
theorem dX9_isLessersCorner_10 : decode cX9_isLessersCorner 10 = .ok (.invokevirtual 50, 3) := by decide +kernel
theorem dX9_isLessersCorner_13 : decode cX9_isLessersCorner 13 = .ok (.ifCond .eq 5, 3) := by decide +kernel
theorem dX9_isLessersCorner_16 : decode cX9_isLessersCorner 16 = .ok (.iconst 1, 1) := by decide +kernel
theorem dX9_isLessersCorner_17 : decode cX9_isLessersCorner 17 = .ok (.ireturn, 1) := by decide +kernel
theorem dX9_isLessersCorner_18 : decode cX9_isLessersCorner 18 = .ok (.iinc 3 1, 3) := by decide +kernel
theorem dX9_isLessersCorner_21 : decode cX9_isLessersCorner 21 = .ok (.goto (-19), 3) := by decide +kernel
theorem dX9_isLessersCorner_24 : decode cX9_isLessersCorner 24 = .ok (.iconst 0, 1) := by decide +kernel
theorem dX9_isLessersCorner_25 : decode cX9_isLessersCorner 25 = .ok (.ireturn, 1) := by decide +kernel
def k_X9_isLessersCorner_0 (F : FT) (Q : QT) : KT := o_ic (nI 0) (o_istore 3 (F 2))
def k_X9_isLessersCorner_2 (F : FT) (Q : QT) : KT := o_iload 3 (o_iload 1 (o_icge (F 24) (o_aload 0 (o_iload 3 (o_iload 2 (o_cV 9 m_X9_shapeAt 3 (o_ifeq (F 18) (o_ic (nI 1) (o_zret Q)))))))))
def k_X9_isLessersCorner_18 (F : FT) (Q : QT) : KT := o_iinc 3 (nI 1) (F 2)
def k_X9_isLessersCorner_24 (F : FT) (Q : QT) : KT := o_ic (nI 0) (o_zret Q)
set_option maxRecDepth 20000 in
theorem r_X9_isLessersCorner {a0 : Nat} {a1 : Int32} {a2 : Int32} {n : Nat} {R : RR} {I : II} {J : JJ} {Q : QT} (hn : n + 0 ≤ 90) (h : ∀ F : FT, al_Wk F → al_Ok F (k_X9_isLessersCorner_0 F Q) 0 → al_Ok F (k_X9_isLessersCorner_2 F Q) 2 → al_Ok F (k_X9_isLessersCorner_18 F Q) 18 → al_Ok F (k_X9_isLessersCorner_24 F Q) 24 → F 0 [some (.ref a0), some (.int a1), some (.int a2), none] [] n R I J) : CT m_X9_isLessersCorner 0 [.ref a0, .int a1, .int a2] n R I J Q :=
  CT.of (by decide) hn (fun _ => rfl) (fun _ => Nat.le_of_ble_eq_true rfl) (fun F p l e s m args below meth c Rm t Q0 C hQ hr hm => h F (fun _ _ _ _ _ _ _ _ => S_wk C)
    (S_iconst C dX9_isLessersCorner_0 (by decide +kernel) (S_istore_n C dX9_isLessersCorner_1 rfl (Nat.le_of_ble_eq_true rfl) (fun _ _ _ _ _ _ h9 => h9)))
    (S_iload_n C dX9_isLessersCorner_2 rfl (S_iload_n C dX9_isLessersCorner_3 rfl (S_icmpge (tgt := 24) C dX9_isLessersCorner_4 (by decide) (S_aload_n C dX9_isLessersCorner_7 rfl (S_iload_n C dX9_isLessersCorner_8 rfl (S_iload_n C dX9_isLessersCorner_9 rfl (S_cV (ci := 9) C ok_X9_shapeAt rfl (al_at 381 (by decide +kernel) rfl) (Nat.le_of_ble_eq_true rfl) (Nat.le_of_ble_eq_true rfl) dX9_isLessersCorner_10 (S_ifeq (tgt := 18) C dX9_isLessersCorner_13 (by decide) (S_iconst C dX9_isLessersCorner_16 (by decide +kernel) (S_zret C hQ hr dX9_isLessersCorner_17))))))))))
    (S_iinc C dX9_isLessersCorner_18 (by decide +kernel) (Nat.le_of_ble_eq_true rfl) (S_goto (tgt := 2) C dX9_isLessersCorner_21 (by decide)))
    (S_iconst C dX9_isLessersCorner_24 (by decide +kernel) (S_zret C hQ hr dX9_isLessersCorner_25)))
theorem dX9_isOf_0 : decode cX9_isOf 0 = .ok (.iload_n 2, 1) := by decide +kernel
theorem dX9_isOf_1 : decode cX9_isOf 1 = .ok (.ifCond .lt 41, 3) := by decide +kernel
theorem dX9_isOf_4 : decode cX9_isOf 4 = .ok (.iload_n 2, 1) := by decide +kernel
theorem dX9_isOf_5 : decode cX9_isOf 5 = .ok (.bipush 8, 2) := by decide +kernel
theorem dX9_isOf_7 : decode cX9_isOf 7 = .ok (.if_icmp .ge 35, 3) := by decide +kernel
theorem dX9_isOf_10 : decode cX9_isOf 10 = .ok (.iload_n 3, 1) := by decide +kernel
theorem dX9_isOf_11 : decode cX9_isOf 11 = .ok (.ifCond .lt 31, 3) := by decide +kernel
theorem dX9_isOf_14 : decode cX9_isOf 14 = .ok (.iload_n 3, 1) := by decide +kernel
theorem dX9_isOf_15 : decode cX9_isOf 15 = .ok (.bipush 8, 2) := by decide +kernel
theorem dX9_isOf_17 : decode cX9_isOf 17 = .ok (.if_icmp .ge 25, 3) := by decide +kernel
theorem dX9_isOf_20 : decode cX9_isOf 20 = .ok (.aload_n 0, 1) := by decide +kernel
theorem dX9_isOf_21 : decode cX9_isOf 21 = .ok (.getfield 15, 3) := by decide +kernel
theorem dX9_isOf_24 : decode cX9_isOf 24 = .ok (.bipush 8, 2) := by decide +kernel
theorem dX9_isOf_26 : decode cX9_isOf 26 = .ok (.iload_n 2, 1) := by decide +kernel
theorem dX9_isOf_27 : decode cX9_isOf 27 = .ok (.imul, 1) := by decide +kernel
theorem dX9_isOf_28 : decode cX9_isOf 28 = .ok (.iload_n 3, 1) := by decide +kernel
theorem dX9_isOf_29 : decode cX9_isOf 29 = .ok (.iadd, 1) := by decide +kernel
theorem dX9_isOf_30 : decode cX9_isOf 30 = .ok (.iaload, 1) := by decide +kernel
theorem dX9_isOf_31 : decode cX9_isOf 31 = .ok (.bipush 10, 2) := by decide +kernel
theorem dX9_isOf_33 : decode cX9_isOf 33 = .ok (.iload_n 1, 1) := by decide +kernel
theorem dX9_isOf_34 : decode cX9_isOf 34 = .ok (.iadd, 1) := by decide +kernel
theorem dX9_isOf_35 : decode cX9_isOf 35 = .ok (.if_icmp .ne 7, 3) := by decide +kernel
theorem dX9_isOf_38 : decode cX9_isOf 38 = .ok (.iconst 1, 1) := by decide +kernel
theorem dX9_isOf_39 : decode cX9_isOf 39 = .ok (.goto 4, 3) := by decide +kernel
theorem dX9_isOf_42 : decode cX9_isOf 42 = .ok (.iconst 0, 1) := by decide +kernel
theorem dX9_isOf_43 : decode cX9_isOf 43 = .ok (.ireturn, 1) := by decide +kernel
def k_X9_isOf_0 (F : FT) (Q : QT) : KT := o_iload 2 (o_iflt (F 42) (o_iload 2 (o_ic (nI 8) (o_icge (F 42) (o_iload 3 (o_iflt (F 42) (o_iload 3 (o_ic (nI 8) (o_icge (F 42) (o_aload 0 (o_getR 9 1 (o_ic (nI 8) (o_iload 2 (o_imul (o_iload 3 (o_iadd (o_iald (o_ic (nI 10) (o_iload 1 (o_iadd (o_icne (F 42) (o_ic (nI 1) (F 43)))))))))))))))))))))))
def k_X9_isOf_42 (F : FT) (Q : QT) : KT := o_ic (nI 0) (F 43)
def k_X9_isOf_43 (F : FT) (Q : QT) : KT := o_zret Q
set_option maxRecDepth 20000 in
theorem r_X9_isOf {a0 : Nat} {a1 : Int32} {a2 : Int32} {a3 : Int32} {n : Nat} {R : RR} {I : II} {J : JJ} {Q : QT} (hn : n + 0 ≤ 90) (h : ∀ F : FT, al_Wk F → al_Ok F (k_X9_isOf_0 F Q) 0 → al_Ok F (k_X9_isOf_42 F Q) 42 → al_Ok F (k_X9_isOf_43 F Q) 43 → F 0 [some (.ref a0), some (.int a1), some (.int a2), some (.int a3)] [] n R I J) : CT m_X9_isOf 0 [.ref a0, .int a1, .int a2, .int a3] n R I J Q :=
  CT.of (by decide) hn (fun _ => rfl) (fun _ => Nat.le_of_ble_eq_true rfl) (fun F p l e s m args below meth c Rm t Q0 C hQ hr hm => h F (fun _ _ _ _ _ _ _ _ => S_wk C)
    (S_iload_n C dX9_isOf_0 rfl (S_iflt (tgt := 42) C dX9_isOf_1 (by decide) (S_iload_n C dX9_isOf_4 rfl (S_bipush C dX9_isOf_5 (by decide +kernel) (S_icmpge (tgt := 42) C dX9_isOf_7 (by decide) (S_iload_n C dX9_isOf_10 rfl (S_iflt (tgt := 42) C dX9_isOf_11 (by decide) (S_iload_n C dX9_isOf_14 rfl (S_bipush C dX9_isOf_15 (by decide +kernel) (S_icmpge (tgt := 42) C dX9_isOf_17 (by decide) (S_aload_n C dX9_isOf_20 rfl (S_getR (ci := 9) (j := 1) C inG9 rfl (Nat.le_of_ble_eq_true rfl) rfl (al_at 174 (by decide +kernel) rfl) dX9_isOf_21 (S_bipush C dX9_isOf_24 (by decide +kernel) (S_iload_n C dX9_isOf_26 rfl (S_imul C dX9_isOf_27 (S_iload_n C dX9_isOf_28 rfl (S_iadd C dX9_isOf_29 (S_iald C dX9_isOf_30 (S_bipush C dX9_isOf_31 (by decide +kernel) (S_iload_n C dX9_isOf_33 rfl (S_iadd C dX9_isOf_34 (S_icmpne (tgt := 42) C dX9_isOf_35 (by decide) (S_iconst C dX9_isOf_38 (by decide +kernel) (S_goto (tgt := 43) C dX9_isOf_39 (by decide)))))))))))))))))))))))))
    (S_iconst C dX9_isOf_42 (by decide +kernel) (fun _ _ _ _ _ _ h9 => h9))
    (S_zret C hQ hr dX9_isOf_43))
theorem dX9_lawOf_0 : decode cX9_lawOf 0 = .ok (.aload_n 0, 1) := by decide +kernel
theorem dX9_lawOf_1 : decode cX9_lawOf 1 = .ok (.getfield 9, 3) := by decide +kernel
theorem dX9_lawOf_4 : decode cX9_lawOf 4 = .ok (.aload_n 0, 1) := by decide +kernel
theorem dX9_lawOf_5 : decode cX9_lawOf 5 = .ok (.getfield 21, 3) := by decide +kernel
theorem dX9_lawOf_8 : decode cX9_lawOf 8 = .ok (.iload_n 1, 1) := by decide +kernel
theorem dX9_lawOf_9 : decode cX9_lawOf 9 = .ok (.aaload, 1) := by decide +kernel
theorem dX9_lawOf_10 : decode cX9_lawOf 10 = .ok (.getfield 43, 3) := by decide +kernel
theorem dX9_lawOf_13 : decode cX9_lawOf 13 = .ok (.aaload, 1) := by decide +kernel
theorem dX9_lawOf_14 : decode cX9_lawOf 14 = .ok (.areturn, 1) := by decide +kernel
def k_X9_lawOf_0 (F : FT) (Q : QT) : KT := o_aload 0 (o_getR 9 0 (o_aload 0 (o_getR 9 2 (o_iload 1 (o_aald 4 (o_getI 2 0 (o_aald 3 (o_aret Q))))))))
set_option maxRecDepth 20000 in
theorem r_X9_lawOf {a0 : Nat} {a1 : Int32} {n : Nat} {R : RR} {I : II} {J : JJ} {Q : QT} (hn : n + 0 ≤ 90) (h : ∀ F : FT, al_Wk F → al_Ok F (k_X9_lawOf_0 F Q) 0 → F 0 [some (.ref a0), some (.int a1)] [] n R I J) : CT m_X9_lawOf 0 [.ref a0, .int a1] n R I J Q :=
  CT.of (by decide) hn (fun _ => rfl) (fun _ => Nat.le_of_ble_eq_true rfl) (fun F p l e s m args below meth c Rm t Q0 C hQ hr hm => h F (fun _ _ _ _ _ _ _ _ => S_wk C)
    (S_aload_n C dX9_lawOf_0 rfl (S_getR (ci := 9) (j := 0) C inG9 rfl (Nat.le_of_ble_eq_true rfl) rfl (al_at 172 (by decide +kernel) rfl) dX9_lawOf_1 (S_aload_n C dX9_lawOf_4 rfl (S_getR (ci := 9) (j := 2) C inG9 rfl (Nat.le_of_ble_eq_true rfl) rfl (al_at 177 (by decide +kernel) rfl) dX9_lawOf_5 (S_iload_n C dX9_lawOf_8 rfl (S_aald (ak := 4) C (fun _ _ _ _ _ _ => rfl) (fun _ => rfl) dX9_lawOf_9 (S_getI (ci := 2) (j := 0) C inG2 rfl (Nat.le_of_ble_eq_true rfl) rfl (al_at 146 (by decide +kernel) rfl) dX9_lawOf_10 (S_aald (ak := 3) C (fun _ _ _ _ _ _ => rfl) (fun _ => rfl) dX9_lawOf_13 (S_aret C hQ hr dX9_lawOf_14))))))))))
theorem dX9_lay_0 : decode cX9_lay 0 = .ok (.lconst 1, 1) := by decide +kernel
theorem dX9_lay_1 : decode cX9_lay 1 = .ok (.iload_n 1, 1) := by decide +kernel
theorem dX9_lay_2 : decode cX9_lay 2 = .ok (.lshl, 1) := by decide +kernel
theorem dX9_lay_3 : decode cX9_lay 3 = .ok (.lstore_n 3, 1) := by decide +kernel
theorem dX9_lay_4 : decode cX9_lay 4 = .ok (.aload_n 0, 1) := by decide +kernel
theorem dX9_lay_5 : decode cX9_lay 5 = .ok (.getfield 15, 3) := by decide +kernel
theorem dX9_lay_8 : decode cX9_lay 8 = .ok (.iload_n 1, 1) := by decide +kernel
theorem dX9_lay_9 : decode cX9_lay 9 = .ok (.iload_n 2, 1) := by decide +kernel
theorem dX9_lay_10 : decode cX9_lay 10 = .ok (.iastore, 1) := by decide +kernel
theorem dX9_lay_11 : decode cX9_lay 11 = .ok (.aload_n 0, 1) := by decide +kernel
theorem dX9_lay_12 : decode cX9_lay 12 = .ok (.iload_n 2, 1) := by decide +kernel
theorem dX9_lay_13 : decode cX9_lay 13 = .ok (.iconst 1, 1) := by decide +kernel
theorem dX9_lay_14 : decode cX9_lay 14 = .ok (.if_icmp .ne 12, 3) := by decide +kernel
theorem dX9_lay_17 : decode cX9_lay 17 = .ok (.aload_n 0, 1) := by decide +kernel
theorem dX9_lay_18 : decode cX9_lay 18 = .ok (.getfield 30, 3) := by decide +kernel
theorem dX9_lay_21 : decode cX9_lay 21 = .ok (.lload_n 3, 1) := by decide +kernel
theorem dX9_lay_22 : decode cX9_lay 22 = .ok (.lor, 1) := by decide +kernel
theorem dX9_lay_23 : decode cX9_lay 23 = .ok (.goto 13, 3) := by decide +kernel
theorem dX9_lay_26 : decode cX9_lay 26 = .ok (.aload_n 0, 1) := by decide +kernel
theorem dX9_lay_27 : decode cX9_lay 27 = .ok (.getfield 30, 3) := by decide +kernel
theorem dX9_lay_30 : decode cX9_lay 30 = .ok (.lload_n 3, 1) := by decide +kernel
theorem dX9_lay_31 : decode cX9_lay 31 = .ok (.ldc2_w 34, 3) := by decide +kernel
theorem dX9_lay_34 : decode cX9_lay 34 = .ok (.lxor, 1) := by decide +kernel
theorem dX9_lay_35 : decode cX9_lay 35 = .ok (.land, 1) := by decide +kernel
theorem dX9_lay_36 : decode cX9_lay 36 = .ok (.putfield 30, 3) := by decide +kernel
theorem dX9_lay_39 : decode cX9_lay 39 = .ok (.aload_n 0, 1) := by decide +kernel
theorem dX9_lay_40 : decode cX9_lay 40 = .ok (.iload_n 2, 1) := by decide +kernel
theorem dX9_lay_41 : decode cX9_lay 41 = .ok (.ifCond .eq 8, 3) := by decide +kernel
theorem dX9_lay_44 : decode cX9_lay 44 = .ok (.iload_n 2, 1) := by decide +kernel
theorem dX9_lay_45 : decode cX9_lay 45 = .ok (.iconst 1, 1) := by decide +kernel
theorem dX9_lay_46 : decode cX9_lay 46 = .ok (.if_icmp .ne 16, 3) := by decide +kernel
theorem dX9_lay_49 : decode cX9_lay 49 = .ok (.aload_n 0, 1) := by decide +kernel
theorem dX9_lay_50 : decode cX9_lay 50 = .ok (.getfield 36, 3) := by decide +kernel
theorem dX9_lay_53 : decode cX9_lay 53 = .ok (.lload_n 3, 1) := by decide +kernel
theorem dX9_lay_54 : decode cX9_lay 54 = .ok (.ldc2_w 34, 3) := by decide +kernel
theorem dX9_lay_57 : decode cX9_lay 57 = .ok (.lxor, 1) := by decide +kernel
theorem dX9_lay_58 : decode cX9_lay 58 = .ok (.land, 1) := by decide +kernel
theorem dX9_lay_59 : decode cX9_lay 59 = .ok (.goto 9, 3) := by decide +kernel
theorem dX9_lay_62 : decode cX9_lay 62 = .ok (.aload_n 0, 1) := by decide +kernel
theorem dX9_lay_63 : decode cX9_lay 63 = .ok (.getfield 36, 3) := by decide +kernel
theorem dX9_lay_66 : decode cX9_lay 66 = .ok (.lload_n 3, 1) := by decide +kernel
theorem dX9_lay_67 : decode cX9_lay 67 = .ok (.lor, 1) := by decide +kernel
theorem dX9_lay_68 : decode cX9_lay 68 = .ok (.putfield 36, 3) := by decide +kernel
theorem dX9_lay_71 : decode cX9_lay 71 = .ok (.return_, 1) := by decide +kernel
def k_X9_lay_0 (F : FT) (Q : QT) : KT := o_lc (lN 1) (o_iload 1 (o_lshl (o_lstore 3 (o_aload 0 (o_getR 9 1 (o_iload 1 (o_iload 2 (o_iast (o_aload 0 (o_iload 2 (o_ic (nI 1) (o_icne (F 26) (o_aload 0 (o_getJ 9 4 (o_lload 3 (o_lor (F 36)))))))))))))))))
def k_X9_lay_26 (F : FT) (Q : QT) : KT := o_aload 0 (o_getJ 9 4 (o_lload 3 (o_lc (-1) (o_lxor (o_land (F 36))))))
def k_X9_lay_36 (F : FT) (Q : QT) : KT := o_putJ 9 4 (o_aload 0 (o_iload 2 (o_ifeq (F 49) (o_iload 2 (o_ic (nI 1) (o_icne (F 62) (F 49)))))))
def k_X9_lay_49 (F : FT) (Q : QT) : KT := o_aload 0 (o_getJ 9 5 (o_lload 3 (o_lc (-1) (o_lxor (o_land (F 68))))))
def k_X9_lay_62 (F : FT) (Q : QT) : KT := o_aload 0 (o_getJ 9 5 (o_lload 3 (o_lor (F 68))))
def k_X9_lay_68 (F : FT) (Q : QT) : KT := o_putJ 9 5 (o_vret Q)
set_option maxRecDepth 20000 in
theorem r_X9_lay {a0 : Nat} {a1 : Int32} {a2 : Int32} {n : Nat} {R : RR} {I : II} {J : JJ} {Q : QT} (hn : n + 0 ≤ 90) (h : ∀ F : FT, al_Wk F → al_Ok F (k_X9_lay_0 F Q) 0 → al_Ok F (k_X9_lay_26 F Q) 26 → al_Ok F (k_X9_lay_36 F Q) 36 → al_Ok F (k_X9_lay_49 F Q) 49 → al_Ok F (k_X9_lay_62 F Q) 62 → al_Ok F (k_X9_lay_68 F Q) 68 → F 0 [some (.ref a0), some (.int a1), some (.int a2), none, none] [] n R I J) : CT m_X9_lay 0 [.ref a0, .int a1, .int a2] n R I J Q :=
  CT.of (by decide) hn (fun _ => rfl) (fun _ => Nat.le_of_ble_eq_true rfl) (fun F p l e s m args below meth c Rm t Q0 C hQ hr hm => h F (fun _ _ _ _ _ _ _ _ => S_wk C)
    (S_lconst C dX9_lay_0 (by decide +kernel) (S_iload_n C dX9_lay_1 rfl (S_lshl C dX9_lay_2 (S_lstore_n C dX9_lay_3 rfl (Nat.le_of_ble_eq_true rfl) (S_aload_n C dX9_lay_4 rfl (S_getR (ci := 9) (j := 1) C inG9 rfl (Nat.le_of_ble_eq_true rfl) rfl (al_at 174 (by decide +kernel) rfl) dX9_lay_5 (S_iload_n C dX9_lay_8 rfl (S_iload_n C dX9_lay_9 rfl (S_iast C dX9_lay_10 (S_aload_n C dX9_lay_11 rfl (S_iload_n C dX9_lay_12 rfl (S_iconst C dX9_lay_13 (by decide +kernel) (S_icmpne (tgt := 26) C dX9_lay_14 (by decide) (S_aload_n C dX9_lay_17 rfl (S_getJ (ci := 9) (j := 4) C inG9 rfl (Nat.le_of_ble_eq_true rfl) rfl (al_at 183 (by decide +kernel) rfl) dX9_lay_18 (S_lload_n C dX9_lay_21 rfl (S_lor C dX9_lay_22 (S_goto (tgt := 36) C dX9_lay_23 (by decide)))))))))))))))))))
    (S_aload_n C dX9_lay_26 rfl (S_getJ (ci := 9) (j := 4) C inG9 rfl (Nat.le_of_ble_eq_true rfl) rfl (al_at 183 (by decide +kernel) rfl) dX9_lay_27 (S_lload_n C dX9_lay_30 rfl (S_ldc2 C dX9_lay_31 (al_at 337 (by decide +kernel) rfl) (S_lxor C dX9_lay_34 (S_land C dX9_lay_35 (fun _ _ _ _ _ _ h9 => h9)))))))
    (S_putJ (ci := 9) (j := 4) C inG9 rfl (Nat.le_of_ble_eq_true rfl) tyX9 tyX9_ok nmX9 rfl rfl (tyX9_ok 4 (Nat.le_of_ble_eq_true rfl)) (al_at 183 (by decide +kernel) rfl) dX9_lay_36 (S_aload_n C dX9_lay_39 rfl (S_iload_n C dX9_lay_40 rfl (S_ifeq (tgt := 49) C dX9_lay_41 (by decide) (S_iload_n C dX9_lay_44 rfl (S_iconst C dX9_lay_45 (by decide +kernel) (S_icmpne (tgt := 62) C dX9_lay_46 (by decide) (fun _ _ _ _ _ _ h9 => h9))))))))
    (S_aload_n C dX9_lay_49 rfl (S_getJ (ci := 9) (j := 5) C inG9 rfl (Nat.le_of_ble_eq_true rfl) rfl (al_at 185 (by decide +kernel) rfl) dX9_lay_50 (S_lload_n C dX9_lay_53 rfl (S_ldc2 C dX9_lay_54 (al_at 337 (by decide +kernel) rfl) (S_lxor C dX9_lay_57 (S_land C dX9_lay_58 (S_goto (tgt := 68) C dX9_lay_59 (by decide))))))))
    (S_aload_n C dX9_lay_62 rfl (S_getJ (ci := 9) (j := 5) C inG9 rfl (Nat.le_of_ble_eq_true rfl) rfl (al_at 185 (by decide +kernel) rfl) dX9_lay_63 (S_lload_n C dX9_lay_66 rfl (S_lor C dX9_lay_67 (fun _ _ _ _ _ _ h9 => h9)))))
    (S_putJ (ci := 9) (j := 5) C inG9 rfl (Nat.le_of_ble_eq_true rfl) tyX9 tyX9_ok nmX9 rfl rfl (tyX9_ok 5 (Nat.le_of_ble_eq_true rfl)) (al_at 185 (by decide +kernel) rfl) dX9_lay_68 (S_vret C hQ hr dX9_lay_71)))
theorem dX9_mayBe_0 : decode cX9_mayBe 0 = .ok (.iload_n 1, 1) := by decide +kernel
theorem dX9_mayBe_1 : decode cX9_mayBe 1 = .ok (.ifCond .lt 8, 3) := by decide +kernel
theorem dX9_mayBe_4 : decode cX9_mayBe 4 = .ok (.iload_n 1, 1) := by decide +kernel
theorem dX9_mayBe_5 : decode cX9_mayBe 5 = .ok (.iconst 3, 1) := by decide +kernel
theorem dX9_mayBe_6 : decode cX9_mayBe 6 = .ok (.if_icmp .le 20, 3) := by decide +kernel
theorem dX9_mayBe_9 : decode cX9_mayBe 9 = .ok (.iload_n 1, 1) := by decide +kernel
theorem dX9_mayBe_10 : decode cX9_mayBe 10 = .ok (.bipush 10, 2) := by decide +kernel
theorem dX9_mayBe_12 : decode cX9_mayBe 12 = .ok (.if_icmp .lt 18, 3) := by decide +kernel
theorem dX9_mayBe_15 : decode cX9_mayBe 15 = .ok (.iload_n 1, 1) := by decide +kernel
theorem dX9_mayBe_16 : decode cX9_mayBe 16 = .ok (.bipush 10, 2) := by decide +kernel
theorem dX9_mayBe_18 : decode cX9_mayBe 18 = .ok (.aload_n 0, 1) := by decide +kernel
theorem dX9_mayBe_19 : decode cX9_mayBe 19 = .ok (.getfield 26, 3) := by decide +kernel
theorem dX9_mayBe_22 : decode cX9_mayBe 22 = .ok (.iadd, 1) := by decide +kernel
theorem dX9_mayBe_23 : decode cX9_mayBe 23 = .ok (.if_icmp .ge 7, 3) := by decide +kernel
theorem dX9_mayBe_26 : decode cX9_mayBe 26 = .ok (.iconst 1, 1) := by decide +kernel
theorem dX9_mayBe_27 : decode cX9_mayBe 27 = .ok (.goto 4, 3) := by decide +kernel
theorem dX9_mayBe_30 : decode cX9_mayBe 30 = .ok (.iconst 0, 1) := by decide +kernel
theorem dX9_mayBe_31 : decode cX9_mayBe 31 = .ok (.ireturn, 1) := by decide +kernel
def k_X9_mayBe_0 (F : FT) (Q : QT) : KT := o_iload 1 (o_iflt (F 9) (o_iload 1 (o_ic (nI 3) (o_icle (F 26) (F 9)))))
def k_X9_mayBe_9 (F : FT) (Q : QT) : KT := o_iload 1 (o_ic (nI 10) (o_iclt (F 30) (o_iload 1 (o_ic (nI 10) (o_aload 0 (o_getI 9 3 (o_iadd (o_icge (F 30) (F 26)))))))))
def k_X9_mayBe_26 (F : FT) (Q : QT) : KT := o_ic (nI 1) (F 31)
def k_X9_mayBe_30 (F : FT) (Q : QT) : KT := o_ic (nI 0) (F 31)
def k_X9_mayBe_31 (F : FT) (Q : QT) : KT := o_zret Q
set_option maxRecDepth 20000 in
theorem r_X9_mayBe {a0 : Nat} {a1 : Int32} {n : Nat} {R : RR} {I : II} {J : JJ} {Q : QT} (hn : n + 0 ≤ 90) (h : ∀ F : FT, al_Wk F → al_Ok F (k_X9_mayBe_0 F Q) 0 → al_Ok F (k_X9_mayBe_9 F Q) 9 → al_Ok F (k_X9_mayBe_26 F Q) 26 → al_Ok F (k_X9_mayBe_30 F Q) 30 → al_Ok F (k_X9_mayBe_31 F Q) 31 → F 0 [some (.ref a0), some (.int a1)] [] n R I J) : CT m_X9_mayBe 0 [.ref a0, .int a1] n R I J Q :=
  CT.of (by decide) hn (fun _ => rfl) (fun _ => Nat.le_of_ble_eq_true rfl) (fun F p l e s m args below meth c Rm t Q0 C hQ hr hm => h F (fun _ _ _ _ _ _ _ _ => S_wk C)
    (S_iload_n C dX9_mayBe_0 rfl (S_iflt (tgt := 9) C dX9_mayBe_1 (by decide) (S_iload_n C dX9_mayBe_4 rfl (S_iconst C dX9_mayBe_5 (by decide +kernel) (S_icmple (tgt := 26) C dX9_mayBe_6 (by decide) (fun _ _ _ _ _ _ h9 => h9))))))
    (S_iload_n C dX9_mayBe_9 rfl (S_bipush C dX9_mayBe_10 (by decide +kernel) (S_icmplt (tgt := 30) C dX9_mayBe_12 (by decide) (S_iload_n C dX9_mayBe_15 rfl (S_bipush C dX9_mayBe_16 (by decide +kernel) (S_aload_n C dX9_mayBe_18 rfl (S_getI (ci := 9) (j := 3) C inG9 rfl (Nat.le_of_ble_eq_true rfl) rfl (al_at 180 (by decide +kernel) rfl) dX9_mayBe_19 (S_iadd C dX9_mayBe_22 (S_icmpge (tgt := 30) C dX9_mayBe_23 (by decide) (fun _ _ _ _ _ _ h9 => h9))))))))))
    (S_iconst C dX9_mayBe_26 (by decide +kernel) (S_goto (tgt := 31) C dX9_mayBe_27 (by decide)))
    (S_iconst C dX9_mayBe_30 (by decide +kernel) (fun _ _ _ _ _ _ h9 => h9))
    (S_zret C hQ hr dX9_mayBe_31))
theorem dX9_ownersAt_0 : decode cX9_ownersAt 0 = .ok (.iconst 0, 1) := by decide +kernel
theorem dX9_ownersAt_1 : decode cX9_ownersAt 1 = .ok (.istore_n 2, 1) := by decide +kernel
theorem dX9_ownersAt_2 : decode cX9_ownersAt 2 = .ok (.iconst 0, 1) := by decide +kernel
theorem dX9_ownersAt_3 : decode cX9_ownersAt 3 = .ok (.istore_n 3, 1) := by decide +kernel
theorem dX9_ownersAt_4 : decode cX9_ownersAt 4 = .ok (.iload_n 3, 1) := by decide +kernel
theorem dX9_ownersAt_5 : decode cX9_ownersAt 5 = .ok (.aload_n 0, 1) := by decide +kernel
theorem dX9_ownersAt_6 : decode cX9_ownersAt 6 = .ok (.getfield 26, 3) := by decide +kernel
theorem dX9_ownersAt_9 : decode cX9_ownersAt 9 = .ok (.if_icmp .ge 24, 3) := by decide +kernel
theorem dX9_ownersAt_12 : decode cX9_ownersAt 12 = .ok (.aload_n 0, 1) := by decide +kernel
theorem dX9_ownersAt_13 : decode cX9_ownersAt 13 = .ok (.iload_n 3, 1) := by decide +kernel
theorem dX9_ownersAt_14 : decode cX9_ownersAt 14 = .ok (.iload_n 1, 1) := by decide +kernel
theorem dX9_ownersAt_15 : decode cX9_ownersAt 15 = .ok (.invokevirtual 50, 3) := by decide +kernel
theorem dX9_ownersAt_18 : decode cX9_ownersAt 18 = .ok (.ifCond .eq 9, 3) := by decide +kernel
theorem dX9_ownersAt_21 : decode cX9_ownersAt 21 = .ok (.iload_n 2, 1) := by decide +kernel
theorem dX9_ownersAt_22 : decode cX9_ownersAt 22 = .ok (.iconst 1, 1) := by decide +kernel
theorem dX9_ownersAt_23 : decode cX9_ownersAt 23 = .ok (.iload_n 3, 1) := by decide +kernel
theorem dX9_ownersAt_24 : decode cX9_ownersAt 24 = .ok (.ishl, 1) := by decide +kernel
theorem dX9_ownersAt_25 : decode cX9_ownersAt 25 = .ok (.ior, 1) := by decide +kernel
theorem dX9_ownersAt_26 : decode cX9_ownersAt 26 = .ok (.istore_n 2, 1) := by decide +kernel
theorem dX9_ownersAt_27 : decode cX9_ownersAt 27 = .ok (.iinc 3 1, 3) := by decide +kernel
theorem dX9_ownersAt_30 : decode cX9_ownersAt 30 = .ok (.goto (-26), 3) := by decide +kernel
theorem dX9_ownersAt_33 : decode cX9_ownersAt 33 = .ok (.iload_n 2, 1) := by decide +kernel
theorem dX9_ownersAt_34 : decode cX9_ownersAt 34 = .ok (.ireturn, 1) := by decide +kernel
def k_X9_ownersAt_0 (F : FT) (Q : QT) : KT := o_ic (nI 0) (o_istore 2 (o_ic (nI 0) (o_istore 3 (F 4))))
def k_X9_ownersAt_4 (F : FT) (Q : QT) : KT := o_iload 3 (o_aload 0 (o_getI 9 3 (o_icge (F 33) (o_aload 0 (o_iload 3 (o_iload 1 (o_cV 9 m_X9_shapeAt 3 (o_ifeq (F 27) (o_iload 2 (o_ic (nI 1) (o_iload 3 (o_ishl (o_ior (o_istore 2 (F 27)))))))))))))))
def k_X9_ownersAt_27 (F : FT) (Q : QT) : KT := o_iinc 3 (nI 1) (F 4)
def k_X9_ownersAt_33 (F : FT) (Q : QT) : KT := o_iload 2 (o_iret Q)
set_option maxRecDepth 20000 in
theorem r_X9_ownersAt {a0 : Nat} {a1 : Int32} {n : Nat} {R : RR} {I : II} {J : JJ} {Q : QT} (hn : n + 0 ≤ 90) (h : ∀ F : FT, al_Wk F → al_Ok F (k_X9_ownersAt_0 F Q) 0 → al_Ok F (k_X9_ownersAt_4 F Q) 4 → al_Ok F (k_X9_ownersAt_27 F Q) 27 → al_Ok F (k_X9_ownersAt_33 F Q) 33 → F 0 [some (.ref a0), some (.int a1), none, none] [] n R I J) : CT m_X9_ownersAt 0 [.ref a0, .int a1] n R I J Q :=
  CT.of (by decide) hn (fun _ => rfl) (fun _ => Nat.le_of_ble_eq_true rfl) (fun F p l e s m args below meth c Rm t Q0 C hQ hr hm => h F (fun _ _ _ _ _ _ _ _ => S_wk C)
    (S_iconst C dX9_ownersAt_0 (by decide +kernel) (S_istore_n C dX9_ownersAt_1 rfl (Nat.le_of_ble_eq_true rfl) (S_iconst C dX9_ownersAt_2 (by decide +kernel) (S_istore_n C dX9_ownersAt_3 rfl (Nat.le_of_ble_eq_true rfl) (fun _ _ _ _ _ _ h9 => h9)))))
    (S_iload_n C dX9_ownersAt_4 rfl (S_aload_n C dX9_ownersAt_5 rfl (S_getI (ci := 9) (j := 3) C inG9 rfl (Nat.le_of_ble_eq_true rfl) rfl (al_at 180 (by decide +kernel) rfl) dX9_ownersAt_6 (S_icmpge (tgt := 33) C dX9_ownersAt_9 (by decide) (S_aload_n C dX9_ownersAt_12 rfl (S_iload_n C dX9_ownersAt_13 rfl (S_iload_n C dX9_ownersAt_14 rfl (S_cV (ci := 9) C ok_X9_shapeAt rfl (al_at 381 (by decide +kernel) rfl) (Nat.le_of_ble_eq_true rfl) (Nat.le_of_ble_eq_true rfl) dX9_ownersAt_15 (S_ifeq (tgt := 27) C dX9_ownersAt_18 (by decide) (S_iload_n C dX9_ownersAt_21 rfl (S_iconst C dX9_ownersAt_22 (by decide +kernel) (S_iload_n C dX9_ownersAt_23 rfl (S_ishl C dX9_ownersAt_24 (S_ior C dX9_ownersAt_25 (S_istore_n C dX9_ownersAt_26 rfl (Nat.le_of_ble_eq_true rfl) (fun _ _ _ _ _ _ h9 => h9))))))))))))))))
    (S_iinc C dX9_ownersAt_27 (by decide +kernel) (Nat.le_of_ble_eq_true rfl) (S_goto (tgt := 4) C dX9_ownersAt_30 (by decide)))
    (S_iload_n C dX9_ownersAt_33 rfl (S_iret C hQ hr dX9_ownersAt_34)))
theorem dX9_shapeAt_0 : decode cX9_shapeAt 0 = .ok (.iload_n 2, 1) := by decide +kernel
theorem dX9_shapeAt_1 : decode cX9_shapeAt 1 = .ok (.bipush 9, 2) := by decide +kernel
theorem dX9_shapeAt_3 : decode cX9_shapeAt 3 = .ok (.idiv, 1) := by decide +kernel
theorem dX9_shapeAt_4 : decode cX9_shapeAt 4 = .ok (.istore_n 3, 1) := by decide +kernel
theorem dX9_shapeAt_5 : decode cX9_shapeAt 5 = .ok (.iload_n 2, 1) := by decide +kernel
theorem dX9_shapeAt_6 : decode cX9_shapeAt 6 = .ok (.bipush 9, 2) := by decide +kernel
theorem dX9_shapeAt_8 : decode cX9_shapeAt 8 = .ok (.irem, 1) := by decide +kernel
theorem dX9_shapeAt_9 : decode cX9_shapeAt 9 = .ok (.istore 4, 2) := by decide +kernel
theorem dX9_shapeAt_11 : decode cX9_shapeAt 11 = .ok (.aload_n 0, 1) := by decide +kernel
theorem dX9_shapeAt_12 : decode cX9_shapeAt 12 = .ok (.iload_n 1, 1) := by decide +kernel
theorem dX9_shapeAt_13 : decode cX9_shapeAt 13 = .ok (.iload_n 3, 1) := by decide +kernel
theorem dX9_shapeAt_14 : decode cX9_shapeAt 14 = .ok (.iconst 1, 1) := by decide +kernel
theorem dX9_shapeAt_15 : decode cX9_shapeAt 15 = .ok (.isub, 1) := by decide +kernel
theorem dX9_shapeAt_16 : decode cX9_shapeAt 16 = .ok (.iload 4, 2) := by decide +kernel
theorem dX9_shapeAt_18 : decode cX9_shapeAt 18 = .ok (.iconst 1, 1) := by decide +kernel
theorem dX9_shapeAt_19 : decode cX9_shapeAt 19 = .ok (.isub, 1) := by decide +kernel
theorem dX9_shapeAt_20 : decode cX9_shapeAt 20 = .ok (.invokevirtual 46, 3) := by decide +kernel
theorem dX9_shapeAt_23 : decode cX9_shapeAt 23 = .ok (.istore 5, 2) := by decide +kernel
theorem dX9_shapeAt_25 : decode cX9_shapeAt 25 = .ok (.aload_n 0, 1) := by decide +kernel
theorem dX9_shapeAt_26 : decode cX9_shapeAt 26 = .ok (.iload_n 1, 1) := by decide +kernel
theorem dX9_shapeAt_27 : decode cX9_shapeAt 27 = .ok (.iload_n 3, 1) := by decide +kernel
theorem dX9_shapeAt_28 : decode cX9_shapeAt 28 = .ok (.iconst 1, 1) := by decide +kernel
theorem dX9_shapeAt_29 : decode cX9_shapeAt 29 = .ok (.isub, 1) := by decide +kernel
theorem dX9_shapeAt_30 : decode cX9_shapeAt 30 = .ok (.iload 4, 2) := by decide +kernel
theorem dX9_shapeAt_32 : decode cX9_shapeAt 32 = .ok (.invokevirtual 46, 3) := by decide +kernel
theorem dX9_shapeAt_35 : decode cX9_shapeAt 35 = .ok (.istore 6, 2) := by decide +kernel
theorem dX9_shapeAt_37 : decode cX9_shapeAt 37 = .ok (.aload_n 0, 1) := by decide +kernel
theorem dX9_shapeAt_38 : decode cX9_shapeAt 38 = .ok (.iload_n 1, 1) := by decide +kernel
theorem dX9_shapeAt_39 : decode cX9_shapeAt 39 = .ok (.iload_n 3, 1) := by decide +kernel
theorem dX9_shapeAt_40 : decode cX9_shapeAt 40 = .ok (.iload 4, 2) := by decide +kernel
theorem dX9_shapeAt_42 : decode cX9_shapeAt 42 = .ok (.iconst 1, 1) := by decide +kernel
theorem dX9_shapeAt_43 : decode cX9_shapeAt 43 = .ok (.isub, 1) := by decide +kernel
theorem dX9_shapeAt_44 : decode cX9_shapeAt 44 = .ok (.invokevirtual 46, 3) := by decide +kernel
theorem dX9_shapeAt_47 : decode cX9_shapeAt 47 = .ok (.istore 7, 2) := by decide +kernel
theorem dX9_shapeAt_49 : decode cX9_shapeAt 49 = .ok (.aload_n 0, 1) := by decide +kernel
theorem dX9_shapeAt_50 : decode cX9_shapeAt 50 = .ok (.iload_n 1, 1) := by decide +kernel
theorem dX9_shapeAt_51 : decode cX9_shapeAt 51 = .ok (.iload_n 3, 1) := by decide +kernel
theorem dX9_shapeAt_52 : decode cX9_shapeAt 52 = .ok (.iload 4, 2) := by decide +kernel
theorem dX9_shapeAt_54 : decode cX9_shapeAt 54 = .ok (.invokevirtual 46, 3) := by decide +kernel
theorem dX9_shapeAt_57 : decode cX9_shapeAt 57 = .ok (.istore 8, 2) := by decide +kernel
theorem dX9_shapeAt_59 : decode cX9_shapeAt 59 = .ok (.iload 5, 2) := by decide +kernel
theorem dX9_shapeAt_61 : decode cX9_shapeAt 61 = .ok (.ifCond .eq 7, 3) := by decide +kernel
theorem dX9_shapeAt_64 : decode cX9_shapeAt 64 = .ok (.iconst 1, 1) := by decide +kernel
theorem dX9_shapeAt_65 : decode cX9_shapeAt 65 = .ok (.goto 4, 3) := by decide +kernel
theorem dX9_shapeAt_68 : decode cX9_shapeAt 68 = .ok (.iconst 0, 1) := by decide +kernel
theorem dX9_shapeAt_69 : decode cX9_shapeAt 69 = .ok (.iload 6, 2) := by decide +kernel
theorem dX9_shapeAt_71 : decode cX9_shapeAt 71 = .ok (.ifCond .eq 7, 3) := by decide +kernel
theorem dX9_shapeAt_74 : decode cX9_shapeAt 74 = .ok (.iconst 1, 1) := by decide +kernel
theorem dX9_shapeAt_75 : decode cX9_shapeAt 75 = .ok (.goto 4, 3) := by decide +kernel
theorem dX9_shapeAt_78 : decode cX9_shapeAt 78 = .ok (.iconst 0, 1) := by decide +kernel
theorem dX9_shapeAt_79 : decode cX9_shapeAt 79 = .ok (.iadd, 1) := by decide +kernel
theorem dX9_shapeAt_80 : decode cX9_shapeAt 80 = .ok (.iload 7, 2) := by decide +kernel
theorem dX9_shapeAt_82 : decode cX9_shapeAt 82 = .ok (.ifCond .eq 7, 3) := by decide +kernel
theorem dX9_shapeAt_85 : decode cX9_shapeAt 85 = .ok (.iconst 1, 1) := by decide +kernel
theorem dX9_shapeAt_86 : decode cX9_shapeAt 86 = .ok (.goto 4, 3) := by decide +kernel
theorem dX9_shapeAt_89 : decode cX9_shapeAt 89 = .ok (.iconst 0, 1) := by decide +kernel
theorem dX9_shapeAt_90 : decode cX9_shapeAt 90 = .ok (.iadd, 1) := by decide +kernel
theorem dX9_shapeAt_91 : decode cX9_shapeAt 91 = .ok (.iload 8, 2) := by decide +kernel
theorem dX9_shapeAt_93 : decode cX9_shapeAt 93 = .ok (.ifCond .eq 7, 3) := by decide +kernel
theorem dX9_shapeAt_96 : decode cX9_shapeAt 96 = .ok (.iconst 1, 1) := by decide +kernel
theorem dX9_shapeAt_97 : decode cX9_shapeAt 97 = .ok (.goto 4, 3) := by decide +kernel
theorem dX9_shapeAt_100 : decode cX9_shapeAt 100 = .ok (.iconst 0, 1) := by decide +kernel
theorem dX9_shapeAt_101 : decode cX9_shapeAt 101 = .ok (.iadd, 1) := by decide +kernel
theorem dX9_shapeAt_102 : decode cX9_shapeAt 102 = .ok (.istore 9, 2) := by decide +kernel
theorem dX9_shapeAt_104 : decode cX9_shapeAt 104 = .ok (.iload 9, 2) := by decide +kernel
theorem dX9_shapeAt_106 : decode cX9_shapeAt 106 = .ok (.iconst 1, 1) := by decide +kernel
theorem dX9_shapeAt_107 : decode cX9_shapeAt 107 = .ok (.if_icmp .ne 5, 3) := by decide +kernel
theorem dX9_shapeAt_110 : decode cX9_shapeAt 110 = .ok (.iconst 1, 1) := by decide +kernel
theorem dX9_shapeAt_111 : decode cX9_shapeAt 111 = .ok (.ireturn, 1) := by decide +kernel
theorem dX9_shapeAt_112 : decode cX9_shapeAt 112 = .ok (.iload 9, 2) := by decide +kernel
theorem dX9_shapeAt_114 : decode cX9_shapeAt 114 = .ok (.iconst 3, 1) := by decide +kernel
theorem dX9_shapeAt_115 : decode cX9_shapeAt 115 = .ok (.if_icmp .ne 5, 3) := by decide +kernel
theorem dX9_shapeAt_118 : decode cX9_shapeAt 118 = .ok (.iconst 3, 1) := by decide +kernel
theorem dX9_shapeAt_119 : decode cX9_shapeAt 119 = .ok (.ireturn, 1) := by decide +kernel
theorem dX9_shapeAt_120 : decode cX9_shapeAt 120 = .ok (.iload 9, 2) := by decide +kernel
theorem dX9_shapeAt_122 : decode cX9_shapeAt 122 = .ok (.iconst 2, 1) := by decide +kernel
theorem dX9_shapeAt_123 : decode cX9_shapeAt 123 = .ok (.if_icmp .ne 14, 3) := by decide +kernel
theorem dX9_shapeAt_126 : decode cX9_shapeAt 126 = .ok (.iload 5, 2) := by decide +kernel
theorem dX9_shapeAt_128 : decode cX9_shapeAt 128 = .ok (.iload 8, 2) := by decide +kernel
theorem dX9_shapeAt_130 : decode cX9_shapeAt 130 = .ok (.if_icmp .ne 7, 3) := by decide +kernel
theorem dX9_shapeAt_133 : decode cX9_shapeAt 133 = .ok (.iconst 2, 1) := by decide +kernel
theorem dX9_shapeAt_134 : decode cX9_shapeAt 134 = .ok (.goto 4, 3) := by decide +kernel
theorem dX9_shapeAt_137 : decode cX9_shapeAt 137 = .ok (.iconst 0, 1) := by decide +kernel
theorem dX9_shapeAt_138 : decode cX9_shapeAt 138 = .ok (.ireturn, 1) := by decide +kernel
def k_X9_shapeAt_0 (F : FT) (Q : QT) : KT := o_iload 2 (o_ic (nI 9) (o_idiv (o_istore 3 (o_iload 2 (o_ic (nI 9) (o_irem (o_istore 4 (o_aload 0 (o_iload 1 (o_iload 3 (o_ic (nI 1) (o_isub (o_iload 4 (o_ic (nI 1) (o_isub (o_cV 9 m_X9_isOf 4 (o_istore 5 (o_aload 0 (o_iload 1 (o_iload 3 (o_ic (nI 1) (o_isub (o_iload 4 (o_cV 9 m_X9_isOf 4 (o_istore 6 (o_aload 0 (o_iload 1 (o_iload 3 (o_iload 4 (o_ic (nI 1) (o_isub (o_cV 9 m_X9_isOf 4 (o_istore 7 (o_aload 0 (o_iload 1 (o_iload 3 (o_iload 4 (o_cV 9 m_X9_isOf 4 (o_istore 8 (o_iload 5 (o_ifeq (F 68) (o_ic (nI 1) (F 69)))))))))))))))))))))))))))))))))))))))))))
def k_X9_shapeAt_68 (F : FT) (Q : QT) : KT := o_ic (nI 0) (F 69)
def k_X9_shapeAt_69 (F : FT) (Q : QT) : KT := o_iload 6 (o_ifeq (F 78) (o_ic (nI 1) (F 79)))
def k_X9_shapeAt_78 (F : FT) (Q : QT) : KT := o_ic (nI 0) (F 79)
def k_X9_shapeAt_79 (F : FT) (Q : QT) : KT := o_iadd (o_iload 7 (o_ifeq (F 89) (o_ic (nI 1) (F 90))))
def k_X9_shapeAt_89 (F : FT) (Q : QT) : KT := o_ic (nI 0) (F 90)
def k_X9_shapeAt_90 (F : FT) (Q : QT) : KT := o_iadd (o_iload 8 (o_ifeq (F 100) (o_ic (nI 1) (F 101))))
def k_X9_shapeAt_100 (F : FT) (Q : QT) : KT := o_ic (nI 0) (F 101)
def k_X9_shapeAt_101 (F : FT) (Q : QT) : KT := o_iadd (o_istore 9 (o_iload 9 (o_ic (nI 1) (o_icne (F 112) (o_ic (nI 1) (o_iret Q))))))
def k_X9_shapeAt_112 (F : FT) (Q : QT) : KT := o_iload 9 (o_ic (nI 3) (o_icne (F 120) (o_ic (nI 3) (o_iret Q))))
def k_X9_shapeAt_120 (F : FT) (Q : QT) : KT := o_iload 9 (o_ic (nI 2) (o_icne (F 137) (o_iload 5 (o_iload 8 (o_icne (F 137) (o_ic (nI 2) (F 138)))))))
def k_X9_shapeAt_137 (F : FT) (Q : QT) : KT := o_ic (nI 0) (F 138)
def k_X9_shapeAt_138 (F : FT) (Q : QT) : KT := o_iret Q
set_option maxRecDepth 20000 in
theorem r_X9_shapeAt {a0 : Nat} {a1 : Int32} {a2 : Int32} {n : Nat} {R : RR} {I : II} {J : JJ} {Q : QT} (hn : n + 0 ≤ 90) (h : ∀ F : FT, al_Wk F → al_Ok F (k_X9_shapeAt_0 F Q) 0 → al_Ok F (k_X9_shapeAt_68 F Q) 68 → al_Ok F (k_X9_shapeAt_69 F Q) 69 → al_Ok F (k_X9_shapeAt_78 F Q) 78 → al_Ok F (k_X9_shapeAt_79 F Q) 79 → al_Ok F (k_X9_shapeAt_89 F Q) 89 → al_Ok F (k_X9_shapeAt_90 F Q) 90 → al_Ok F (k_X9_shapeAt_100 F Q) 100 → al_Ok F (k_X9_shapeAt_101 F Q) 101 → al_Ok F (k_X9_shapeAt_112 F Q) 112 → al_Ok F (k_X9_shapeAt_120 F Q) 120 → al_Ok F (k_X9_shapeAt_137 F Q) 137 → al_Ok F (k_X9_shapeAt_138 F Q) 138 → F 0 [some (.ref a0), some (.int a1), some (.int a2), none, none, none, none, none, none, none] [] n R I J) : CT m_X9_shapeAt 0 [.ref a0, .int a1, .int a2] n R I J Q :=
  CT.of (by decide) hn (fun _ => rfl) (fun _ => Nat.le_of_ble_eq_true rfl) (fun F p l e s m args below meth c Rm t Q0 C hQ hr hm => h F (fun _ _ _ _ _ _ _ _ => S_wk C)
    (S_iload_n C dX9_shapeAt_0 rfl (S_bipush C dX9_shapeAt_1 (by decide +kernel) (S_idiv C dX9_shapeAt_3 (S_istore_n C dX9_shapeAt_4 rfl (Nat.le_of_ble_eq_true rfl) (S_iload_n C dX9_shapeAt_5 rfl (S_bipush C dX9_shapeAt_6 (by decide +kernel) (S_irem C dX9_shapeAt_8 (S_istore C dX9_shapeAt_9 (Nat.le_of_ble_eq_true rfl) (S_aload_n C dX9_shapeAt_11 rfl (S_iload_n C dX9_shapeAt_12 rfl (S_iload_n C dX9_shapeAt_13 rfl (S_iconst C dX9_shapeAt_14 (by decide +kernel) (S_isub C dX9_shapeAt_15 (S_iload C dX9_shapeAt_16 (S_iconst C dX9_shapeAt_18 (by decide +kernel) (S_isub C dX9_shapeAt_19 (S_cV (ci := 9) C ok_X9_isOf rfl (al_at 385 (by decide +kernel) rfl) (Nat.le_of_ble_eq_true rfl) (Nat.le_of_ble_eq_true rfl) dX9_shapeAt_20 (S_istore C dX9_shapeAt_23 (Nat.le_of_ble_eq_true rfl) (S_aload_n C dX9_shapeAt_25 rfl (S_iload_n C dX9_shapeAt_26 rfl (S_iload_n C dX9_shapeAt_27 rfl (S_iconst C dX9_shapeAt_28 (by decide +kernel) (S_isub C dX9_shapeAt_29 (S_iload C dX9_shapeAt_30 (S_cV (ci := 9) C ok_X9_isOf rfl (al_at 385 (by decide +kernel) rfl) (Nat.le_of_ble_eq_true rfl) (Nat.le_of_ble_eq_true rfl) dX9_shapeAt_32 (S_istore C dX9_shapeAt_35 (Nat.le_of_ble_eq_true rfl) (S_aload_n C dX9_shapeAt_37 rfl (S_iload_n C dX9_shapeAt_38 rfl (S_iload_n C dX9_shapeAt_39 rfl (S_iload C dX9_shapeAt_40 (S_iconst C dX9_shapeAt_42 (by decide +kernel) (S_isub C dX9_shapeAt_43 (S_cV (ci := 9) C ok_X9_isOf rfl (al_at 385 (by decide +kernel) rfl) (Nat.le_of_ble_eq_true rfl) (Nat.le_of_ble_eq_true rfl) dX9_shapeAt_44 (S_istore C dX9_shapeAt_47 (Nat.le_of_ble_eq_true rfl) (S_aload_n C dX9_shapeAt_49 rfl (S_iload_n C dX9_shapeAt_50 rfl (S_iload_n C dX9_shapeAt_51 rfl (S_iload C dX9_shapeAt_52 (S_cV (ci := 9) C ok_X9_isOf rfl (al_at 385 (by decide +kernel) rfl) (Nat.le_of_ble_eq_true rfl) (Nat.le_of_ble_eq_true rfl) dX9_shapeAt_54 (S_istore C dX9_shapeAt_57 (Nat.le_of_ble_eq_true rfl) (S_iload C dX9_shapeAt_59 (S_ifeq (tgt := 68) C dX9_shapeAt_61 (by decide) (S_iconst C dX9_shapeAt_64 (by decide +kernel) (S_goto (tgt := 69) C dX9_shapeAt_65 (by decide)))))))))))))))))))))))))))))))))))))))))))))
    (S_iconst C dX9_shapeAt_68 (by decide +kernel) (fun _ _ _ _ _ _ h9 => h9))
    (S_iload C dX9_shapeAt_69 (S_ifeq (tgt := 78) C dX9_shapeAt_71 (by decide) (S_iconst C dX9_shapeAt_74 (by decide +kernel) (S_goto (tgt := 79) C dX9_shapeAt_75 (by decide)))))
    (S_iconst C dX9_shapeAt_78 (by decide +kernel) (fun _ _ _ _ _ _ h9 => h9))
    (S_iadd C dX9_shapeAt_79 (S_iload C dX9_shapeAt_80 (S_ifeq (tgt := 89) C dX9_shapeAt_82 (by decide) (S_iconst C dX9_shapeAt_85 (by decide +kernel) (S_goto (tgt := 90) C dX9_shapeAt_86 (by decide))))))
    (S_iconst C dX9_shapeAt_89 (by decide +kernel) (fun _ _ _ _ _ _ h9 => h9))
    (S_iadd C dX9_shapeAt_90 (S_iload C dX9_shapeAt_91 (S_ifeq (tgt := 100) C dX9_shapeAt_93 (by decide) (S_iconst C dX9_shapeAt_96 (by decide +kernel) (S_goto (tgt := 101) C dX9_shapeAt_97 (by decide))))))
    (S_iconst C dX9_shapeAt_100 (by decide +kernel) (fun _ _ _ _ _ _ h9 => h9))
    (S_iadd C dX9_shapeAt_101 (S_istore C dX9_shapeAt_102 (Nat.le_of_ble_eq_true rfl) (S_iload C dX9_shapeAt_104 (S_iconst C dX9_shapeAt_106 (by decide +kernel) (S_icmpne (tgt := 112) C dX9_shapeAt_107 (by decide) (S_iconst C dX9_shapeAt_110 (by decide +kernel) (S_iret C hQ hr dX9_shapeAt_111)))))))
    (S_iload C dX9_shapeAt_112 (S_iconst C dX9_shapeAt_114 (by decide +kernel) (S_icmpne (tgt := 120) C dX9_shapeAt_115 (by decide) (S_iconst C dX9_shapeAt_118 (by decide +kernel) (S_iret C hQ hr dX9_shapeAt_119)))))
    (S_iload C dX9_shapeAt_120 (S_iconst C dX9_shapeAt_122 (by decide +kernel) (S_icmpne (tgt := 137) C dX9_shapeAt_123 (by decide) (S_iload C dX9_shapeAt_126 (S_iload C dX9_shapeAt_128 (S_icmpne (tgt := 137) C dX9_shapeAt_130 (by decide) (S_iconst C dX9_shapeAt_133 (by decide +kernel) (S_goto (tgt := 138) C dX9_shapeAt_134 (by decide)))))))))
    (S_iconst C dX9_shapeAt_137 (by decide +kernel) (fun _ _ _ _ _ _ h9 => h9))
    (S_iret C hQ hr dX9_shapeAt_138))
theorem dX9_squaresOfHouses_0 : decode cX9_squaresOfHouses 0 = .ok (.iconst 0, 1) := by decide +kernel
theorem dX9_squaresOfHouses_1 : decode cX9_squaresOfHouses 1 = .ok (.istore_n 1, 1) := by decide +kernel
theorem dX9_squaresOfHouses_2 : decode cX9_squaresOfHouses 2 = .ok (.iconst 0, 1) := by decide +kernel
theorem dX9_squaresOfHouses_3 : decode cX9_squaresOfHouses 3 = .ok (.istore_n 2, 1) := by decide +kernel
theorem dX9_squaresOfHouses_4 : decode cX9_squaresOfHouses 4 = .ok (.iload_n 2, 1) := by decide +kernel
theorem dX9_squaresOfHouses_5 : decode cX9_squaresOfHouses 5 = .ok (.bipush 64, 2) := by decide +kernel
theorem dX9_squaresOfHouses_7 : decode cX9_squaresOfHouses 7 = .ok (.if_icmp .ge 23, 3) := by decide +kernel
theorem dX9_squaresOfHouses_10 : decode cX9_squaresOfHouses 10 = .ok (.aload_n 0, 1) := by decide +kernel
theorem dX9_squaresOfHouses_11 : decode cX9_squaresOfHouses 11 = .ok (.getfield 15, 3) := by decide +kernel
theorem dX9_squaresOfHouses_14 : decode cX9_squaresOfHouses 14 = .ok (.iload_n 2, 1) := by decide +kernel
theorem dX9_squaresOfHouses_15 : decode cX9_squaresOfHouses 15 = .ok (.iaload, 1) := by decide +kernel
theorem dX9_squaresOfHouses_16 : decode cX9_squaresOfHouses 16 = .ok (.bipush 10, 2) := by decide +kernel
theorem dX9_squaresOfHouses_18 : decode cX9_squaresOfHouses 18 = .ok (.if_icmp .lt 6, 3) := by decide +kernel
theorem dX9_squaresOfHouses_21 : decode cX9_squaresOfHouses 21 = .ok (.iinc 1 1, 3) := by decide +kernel
theorem dX9_squaresOfHouses_24 : decode cX9_squaresOfHouses 24 = .ok (.iinc 2 1, 3) := by decide +kernel
theorem dX9_squaresOfHouses_27 : decode cX9_squaresOfHouses 27 = .ok (.goto (-23), 3) := by decide +kernel
theorem dX9_squaresOfHouses_30 : decode cX9_squaresOfHouses 30 = .ok (.iload_n 1, 1) := by decide +kernel
theorem dX9_squaresOfHouses_31 : decode cX9_squaresOfHouses 31 = .ok (.ireturn, 1) := by decide +kernel
def k_X9_squaresOfHouses_0 (F : FT) (Q : QT) : KT := o_ic (nI 0) (o_istore 1 (o_ic (nI 0) (o_istore 2 (F 4))))
def k_X9_squaresOfHouses_4 (F : FT) (Q : QT) : KT := o_iload 2 (o_ic (nI 64) (o_icge (F 30) (o_aload 0 (o_getR 9 1 (o_iload 2 (o_iald (o_ic (nI 10) (o_iclt (F 24) (o_iinc 1 (nI 1) (F 24))))))))))
def k_X9_squaresOfHouses_24 (F : FT) (Q : QT) : KT := o_iinc 2 (nI 1) (F 4)
def k_X9_squaresOfHouses_30 (F : FT) (Q : QT) : KT := o_iload 1 (o_iret Q)
set_option maxRecDepth 20000 in
theorem r_X9_squaresOfHouses {a0 : Nat} {n : Nat} {R : RR} {I : II} {J : JJ} {Q : QT} (hn : n + 0 ≤ 90) (h : ∀ F : FT, al_Wk F → al_Ok F (k_X9_squaresOfHouses_0 F Q) 0 → al_Ok F (k_X9_squaresOfHouses_4 F Q) 4 → al_Ok F (k_X9_squaresOfHouses_24 F Q) 24 → al_Ok F (k_X9_squaresOfHouses_30 F Q) 30 → F 0 [some (.ref a0), none, none] [] n R I J) : CT m_X9_squaresOfHouses 0 [.ref a0] n R I J Q :=
  CT.of (by decide) hn (fun _ => rfl) (fun _ => Nat.le_of_ble_eq_true rfl) (fun F p l e s m args below meth c Rm t Q0 C hQ hr hm => h F (fun _ _ _ _ _ _ _ _ => S_wk C)
    (S_iconst C dX9_squaresOfHouses_0 (by decide +kernel) (S_istore_n C dX9_squaresOfHouses_1 rfl (Nat.le_of_ble_eq_true rfl) (S_iconst C dX9_squaresOfHouses_2 (by decide +kernel) (S_istore_n C dX9_squaresOfHouses_3 rfl (Nat.le_of_ble_eq_true rfl) (fun _ _ _ _ _ _ h9 => h9)))))
    (S_iload_n C dX9_squaresOfHouses_4 rfl (S_bipush C dX9_squaresOfHouses_5 (by decide +kernel) (S_icmpge (tgt := 30) C dX9_squaresOfHouses_7 (by decide) (S_aload_n C dX9_squaresOfHouses_10 rfl (S_getR (ci := 9) (j := 1) C inG9 rfl (Nat.le_of_ble_eq_true rfl) rfl (al_at 174 (by decide +kernel) rfl) dX9_squaresOfHouses_11 (S_iload_n C dX9_squaresOfHouses_14 rfl (S_iald C dX9_squaresOfHouses_15 (S_bipush C dX9_squaresOfHouses_16 (by decide +kernel) (S_icmplt (tgt := 24) C dX9_squaresOfHouses_18 (by decide) (S_iinc C dX9_squaresOfHouses_21 (by decide +kernel) (Nat.le_of_ble_eq_true rfl) (fun _ _ _ _ _ _ h9 => h9)))))))))))
    (S_iinc C dX9_squaresOfHouses_24 (by decide +kernel) (Nat.le_of_ble_eq_true rfl) (S_goto (tgt := 4) C dX9_squaresOfHouses_27 (by decide)))
    (S_iload_n C dX9_squaresOfHouses_30 rfl (S_iret C hQ hr dX9_squaresOfHouses_31)))
theorem dX9_squaresThatAre_0 : decode cX9_squaresThatAre 0 = .ok (.iconst 0, 1) := by decide +kernel
theorem dX9_squaresThatAre_1 : decode cX9_squaresThatAre 1 = .ok (.istore_n 2, 1) := by decide +kernel
theorem dX9_squaresThatAre_2 : decode cX9_squaresThatAre 2 = .ok (.iconst 0, 1) := by decide +kernel
theorem dX9_squaresThatAre_3 : decode cX9_squaresThatAre 3 = .ok (.istore_n 3, 1) := by decide +kernel
theorem dX9_squaresThatAre_4 : decode cX9_squaresThatAre 4 = .ok (.iload_n 3, 1) := by decide +kernel
theorem dX9_squaresThatAre_5 : decode cX9_squaresThatAre 5 = .ok (.bipush 64, 2) := by decide +kernel
theorem dX9_squaresThatAre_7 : decode cX9_squaresThatAre 7 = .ok (.if_icmp .ge 22, 3) := by decide +kernel
theorem dX9_squaresThatAre_10 : decode cX9_squaresThatAre 10 = .ok (.aload_n 0, 1) := by decide +kernel
theorem dX9_squaresThatAre_11 : decode cX9_squaresThatAre 11 = .ok (.getfield 15, 3) := by decide +kernel
theorem dX9_squaresThatAre_14 : decode cX9_squaresThatAre 14 = .ok (.iload_n 3, 1) := by decide +kernel
theorem dX9_squaresThatAre_15 : decode cX9_squaresThatAre 15 = .ok (.iaload, 1) := by decide +kernel
theorem dX9_squaresThatAre_16 : decode cX9_squaresThatAre 16 = .ok (.iload_n 1, 1) := by decide +kernel
theorem dX9_squaresThatAre_17 : decode cX9_squaresThatAre 17 = .ok (.if_icmp .ne 6, 3) := by decide +kernel
theorem dX9_squaresThatAre_20 : decode cX9_squaresThatAre 20 = .ok (.iinc 2 1, 3) := by decide +kernel
theorem dX9_squaresThatAre_23 : decode cX9_squaresThatAre 23 = .ok (.iinc 3 1, 3) := by decide +kernel
theorem dX9_squaresThatAre_26 : decode cX9_squaresThatAre 26 = .ok (.goto (-22), 3) := by decide +kernel
theorem dX9_squaresThatAre_29 : decode cX9_squaresThatAre 29 = .ok (.iload_n 2, 1) := by decide +kernel
theorem dX9_squaresThatAre_30 : decode cX9_squaresThatAre 30 = .ok (.ireturn, 1) := by decide +kernel
def k_X9_squaresThatAre_0 (F : FT) (Q : QT) : KT := o_ic (nI 0) (o_istore 2 (o_ic (nI 0) (o_istore 3 (F 4))))
def k_X9_squaresThatAre_4 (F : FT) (Q : QT) : KT := o_iload 3 (o_ic (nI 64) (o_icge (F 29) (o_aload 0 (o_getR 9 1 (o_iload 3 (o_iald (o_iload 1 (o_icne (F 23) (o_iinc 2 (nI 1) (F 23))))))))))
def k_X9_squaresThatAre_23 (F : FT) (Q : QT) : KT := o_iinc 3 (nI 1) (F 4)
def k_X9_squaresThatAre_29 (F : FT) (Q : QT) : KT := o_iload 2 (o_iret Q)
set_option maxRecDepth 20000 in
theorem r_X9_squaresThatAre {a0 : Nat} {a1 : Int32} {n : Nat} {R : RR} {I : II} {J : JJ} {Q : QT} (hn : n + 0 ≤ 90) (h : ∀ F : FT, al_Wk F → al_Ok F (k_X9_squaresThatAre_0 F Q) 0 → al_Ok F (k_X9_squaresThatAre_4 F Q) 4 → al_Ok F (k_X9_squaresThatAre_23 F Q) 23 → al_Ok F (k_X9_squaresThatAre_29 F Q) 29 → F 0 [some (.ref a0), some (.int a1), none, none] [] n R I J) : CT m_X9_squaresThatAre 0 [.ref a0, .int a1] n R I J Q :=
  CT.of (by decide) hn (fun _ => rfl) (fun _ => Nat.le_of_ble_eq_true rfl) (fun F p l e s m args below meth c Rm t Q0 C hQ hr hm => h F (fun _ _ _ _ _ _ _ _ => S_wk C)
    (S_iconst C dX9_squaresThatAre_0 (by decide +kernel) (S_istore_n C dX9_squaresThatAre_1 rfl (Nat.le_of_ble_eq_true rfl) (S_iconst C dX9_squaresThatAre_2 (by decide +kernel) (S_istore_n C dX9_squaresThatAre_3 rfl (Nat.le_of_ble_eq_true rfl) (fun _ _ _ _ _ _ h9 => h9)))))
    (S_iload_n C dX9_squaresThatAre_4 rfl (S_bipush C dX9_squaresThatAre_5 (by decide +kernel) (S_icmpge (tgt := 29) C dX9_squaresThatAre_7 (by decide) (S_aload_n C dX9_squaresThatAre_10 rfl (S_getR (ci := 9) (j := 1) C inG9 rfl (Nat.le_of_ble_eq_true rfl) rfl (al_at 174 (by decide +kernel) rfl) dX9_squaresThatAre_11 (S_iload_n C dX9_squaresThatAre_14 rfl (S_iald C dX9_squaresThatAre_15 (S_iload_n C dX9_squaresThatAre_16 rfl (S_icmpne (tgt := 23) C dX9_squaresThatAre_17 (by decide) (S_iinc C dX9_squaresThatAre_20 (by decide +kernel) (Nat.le_of_ble_eq_true rfl) (fun _ _ _ _ _ _ h9 => h9)))))))))))
    (S_iinc C dX9_squaresThatAre_23 (by decide +kernel) (Nat.le_of_ble_eq_true rfl) (S_goto (tgt := 4) C dX9_squaresThatAre_26 (by decide)))
    (S_iload_n C dX9_squaresThatAre_29 rfl (S_iret C hQ hr dX9_squaresThatAre_30)))
