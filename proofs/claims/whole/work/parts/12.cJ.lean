theorem dJ3_checkIndex_8e157_0 : decode cJ3_checkIndex_8e157 0 = .ok (.iload_n 0, 1) := by decide +kernel
theorem dJ3_checkIndex_8e157_1 : decode cJ3_checkIndex_8e157 1 = .ok (.ifCond .lt 8, 3) := by decide +kernel
theorem dJ3_checkIndex_8e157_4 : decode cJ3_checkIndex_8e157 4 = .ok (.iload_n 0, 1) := by decide +kernel
theorem dJ3_checkIndex_8e157_5 : decode cJ3_checkIndex_8e157 5 = .ok (.iload_n 1, 1) := by decide +kernel
theorem dJ3_checkIndex_8e157_6 : decode cJ3_checkIndex_8e157 6 = .ok (.if_icmp .lt 10, 3) := by decide +kernel
theorem dJ3_checkIndex_8e157_9 : decode cJ3_checkIndex_8e157 9 = .ok (.aload_n 2, 1) := by decide +kernel
theorem dJ3_checkIndex_8e157_10 : decode cJ3_checkIndex_8e157 10 = .ok (.iload_n 0, 1) := by decide +kernel
theorem dJ3_checkIndex_8e157_11 : decode cJ3_checkIndex_8e157 11 = .ok (.iload_n 1, 1) := by decide +kernel
theorem dJ3_checkIndex_8e157_12 : decode cJ3_checkIndex_8e157 12 = .ok (.invokestatic 95, 3) := by decide +kernel
theorem dJ3_checkIndex_8e157_15 : decode cJ3_checkIndex_8e157 15 = .ok (.athrow, 1) := by decide +kernel
theorem dJ3_checkIndex_8e157_16 : decode cJ3_checkIndex_8e157 16 = .ok (.iload_n 0, 1) := by decide +kernel
theorem dJ3_checkIndex_8e157_17 : decode cJ3_checkIndex_8e157 17 = .ok (.ireturn, 1) := by decide +kernel
def k_J3_checkIndex_8e157_0 (F : FT) (Q : QT) : KT := o_iload 0 (o_iflt (F 9) (o_iload 0 (o_iload 1 (o_iclt (F 16) (F 9)))))
def k_J3_checkIndex_8e157_9 (F : FT) (Q : QT) : KT := o_aload 2 (o_iload 0 (o_iload 1 (o_bad)))
def k_J3_checkIndex_8e157_16 (F : FT) (Q : QT) : KT := o_iload 0 (o_iret Q)
set_option maxRecDepth 20000 in
theorem r_J3_checkIndex_8e157 {a0 : Int32} {a1 : Int32} {a2 : Nat} {n : Nat} {R : RR} {I : II} {J : JJ} {Q : QT} (hn : n + 0 ≤ 90) (h : ∀ F : FT, al_Wk F → al_Ok F (k_J3_checkIndex_8e157_0 F Q) 0 → al_Ok F (k_J3_checkIndex_8e157_9 F Q) 9 → al_Ok F (k_J3_checkIndex_8e157_16 F Q) 16 → F 0 [some (.int a0), some (.int a1), some (.ref a2)] [] n R I J) : CT m_J3_checkIndex_8e157 0 [.int a0, .int a1, .ref a2] n R I J Q :=
  CT.of (by decide) hn (fun _ => rfl) (fun _ => Nat.le_of_ble_eq_true rfl) (fun F p l e s m args below meth c Rm t Q0 C hQ hr hm => h F (fun _ _ _ _ _ _ _ _ => S_wk C)
    (S_iload_n C dJ3_checkIndex_8e157_0 rfl (S_iflt (tgt := 9) C dJ3_checkIndex_8e157_1 (by decide) (S_iload_n C dJ3_checkIndex_8e157_4 rfl (S_iload_n C dJ3_checkIndex_8e157_5 rfl (S_icmplt (tgt := 16) C dJ3_checkIndex_8e157_6 (by decide) (fun _ _ _ _ _ _ h9 => h9))))))
    (S_aload_n C dJ3_checkIndex_8e157_9 rfl (S_iload_n C dJ3_checkIndex_8e157_10 rfl (S_iload_n C dJ3_checkIndex_8e157_11 rfl (S_bad 12))))
    (S_iload_n C dJ3_checkIndex_8e157_16 rfl (S_iret C hQ hr dJ3_checkIndex_8e157_17)))
theorem dJ0_checkIndex_df160_0 : decode cJ0_checkIndex_df160 0 = .ok (.iload_n 0, 1) := by decide +kernel
theorem dJ0_checkIndex_df160_1 : decode cJ0_checkIndex_df160 1 = .ok (.iload_n 1, 1) := by decide +kernel
theorem dJ0_checkIndex_df160_2 : decode cJ0_checkIndex_df160 2 = .ok (.getstatic 1053, 3) := by decide +kernel
theorem dJ0_checkIndex_df160_5 : decode cJ0_checkIndex_df160 5 = .ok (.invokestatic 1059, 3) := by decide +kernel
theorem dJ0_checkIndex_df160_8 : decode cJ0_checkIndex_df160 8 = .ok (.pop, 1) := by decide +kernel
theorem dJ0_checkIndex_df160_9 : decode cJ0_checkIndex_df160 9 = .ok (.return_, 1) := by decide +kernel
def k_J0_checkIndex_df160_0 (F : FT) (Q : QT) : KT := o_iload 0 (o_iload 1 (o_gF (o_cS m_J3_checkIndex_8e157 3 (o_pop (o_vret Q)))))
set_option maxRecDepth 20000 in
theorem r_J0_checkIndex_df160 {a0 : Int32} {a1 : Int32} {n : Nat} {R : RR} {I : II} {J : JJ} {Q : QT} (hn : n + 0 ≤ 90) (h : ∀ F : FT, al_Wk F → al_Ok F (k_J0_checkIndex_df160_0 F Q) 0 → F 0 [some (.int a0), some (.int a1)] [] n R I J) : CT m_J0_checkIndex_df160 0 [.int a0, .int a1] n R I J Q :=
  CT.of (by decide) hn (fun _ => rfl) (fun _ => Nat.le_of_ble_eq_true rfl) (fun F p l e s m args below meth c Rm t Q0 C hQ hr hm => h F (fun _ _ _ _ _ _ _ _ => S_wk C)
    (S_iload_n C dJ0_checkIndex_df160_0 rfl (S_iload_n C dJ0_checkIndex_df160_1 rfl (S_gF C (al_at 748 (by decide +kernel) rfl) dJ0_checkIndex_df160_2 (S_cS C ok_J3_checkIndex_8e157 (al_at 750 (by decide +kernel) rfl) (Nat.le_of_ble_eq_true rfl) (Nat.le_of_ble_eq_true rfl) dJ0_checkIndex_df160_5 (S_pop C dJ0_checkIndex_df160_8 (S_vret C hQ hr dJ0_checkIndex_df160_9)))))))
theorem dJ1_charAt_3b067_0 : decode cJ1_charAt_3b067 0 = .ok (.iload_n 1, 1) := by decide +kernel
theorem dJ1_charAt_3b067_1 : decode cJ1_charAt_3b067 1 = .ok (.aload_n 0, 1) := by decide +kernel
theorem dJ1_charAt_3b067_2 : decode cJ1_charAt_3b067 2 = .ok (.arraylength, 1) := by decide +kernel
theorem dJ1_charAt_3b067_3 : decode cJ1_charAt_3b067 3 = .ok (.invokestatic 9, 3) := by decide +kernel
theorem dJ1_charAt_3b067_6 : decode cJ1_charAt_3b067 6 = .ok (.aload_n 0, 1) := by decide +kernel
theorem dJ1_charAt_3b067_7 : decode cJ1_charAt_3b067 7 = .ok (.iload_n 1, 1) := by decide +kernel
theorem dJ1_charAt_3b067_8 : decode cJ1_charAt_3b067 8 = .ok (.baload, 1) := by decide +kernel
theorem dJ1_charAt_3b067_9 : decode cJ1_charAt_3b067 9 = .ok (.sipush 255, 3) := by decide +kernel
theorem dJ1_charAt_3b067_12 : decode cJ1_charAt_3b067 12 = .ok (.iand, 1) := by decide +kernel
theorem dJ1_charAt_3b067_13 : decode cJ1_charAt_3b067 13 = .ok (.i2c, 1) := by decide +kernel
theorem dJ1_charAt_3b067_14 : decode cJ1_charAt_3b067 14 = .ok (.ireturn, 1) := by decide +kernel
def k_J1_charAt_3b067_0 (F : FT) (Q : QT) : KT := o_iload 1 (o_aload 0 (o_bl (o_cS m_J0_checkIndex_df160 2 (o_aload 0 (o_iload 1 (o_bb (o_ic (nI 255) (o_iand (o_i2c (o_nret .char Q))))))))))
set_option maxRecDepth 20000 in
theorem r_J1_charAt_3b067 {a0 : Nat} {a1 : Int32} {n : Nat} {R : RR} {I : II} {J : JJ} {Q : QT} (hn : n + 0 ≤ 90) (h : ∀ F : FT, al_Wk F → al_Ok F (k_J1_charAt_3b067_0 F Q) 0 → F 0 [some (.ref a0), some (.int a1)] [] n R I J) : CT m_J1_charAt_3b067 0 [.ref a0, .int a1] n R I J Q :=
  CT.of (by decide) hn (fun _ => rfl) (fun _ => Nat.le_of_ble_eq_true rfl) (fun F p l e s m args below meth c Rm t Q0 C hQ hr hm => h F (fun _ _ _ _ _ _ _ _ => S_wk C)
    (S_iload_n C dJ1_charAt_3b067_0 rfl (S_aload_n C dJ1_charAt_3b067_1 rfl (S_bl C dJ1_charAt_3b067_2 (S_cS C ok_J0_checkIndex_df160 (al_at 745 (by decide +kernel) rfl) (Nat.le_of_ble_eq_true rfl) (Nat.le_of_ble_eq_true rfl) dJ1_charAt_3b067_3 (S_aload_n C dJ1_charAt_3b067_6 rfl (S_iload_n C dJ1_charAt_3b067_7 rfl (S_bb C dJ1_charAt_3b067_8 (S_sipush C dJ1_charAt_3b067_9 (by decide +kernel) (S_iand C dJ1_charAt_3b067_12 (S_i2c C dJ1_charAt_3b067_13 (S_nret C hQ hr dJ1_charAt_3b067_14))))))))))))
theorem dJ0_isLatin1_aae02_0 : decode cJ0_isLatin1_aae02 0 = .ok (.getstatic 38, 3) := by decide +kernel
theorem dJ0_isLatin1_aae02_3 : decode cJ0_isLatin1_aae02 3 = .ok (.ifCond .eq 14, 3) := by decide +kernel
theorem dJ0_isLatin1_aae02_6 : decode cJ0_isLatin1_aae02 6 = .ok (.aload_n 0, 1) := by decide +kernel
theorem dJ0_isLatin1_aae02_7 : decode cJ0_isLatin1_aae02 7 = .ok (.getfield 15, 3) := by decide +kernel
theorem dJ0_isLatin1_aae02_10 : decode cJ0_isLatin1_aae02 10 = .ok (.ifCond .ne 7, 3) := by decide +kernel
theorem dJ0_isLatin1_aae02_13 : decode cJ0_isLatin1_aae02 13 = .ok (.iconst 1, 1) := by decide +kernel
theorem dJ0_isLatin1_aae02_14 : decode cJ0_isLatin1_aae02 14 = .ok (.goto 4, 3) := by decide +kernel
theorem dJ0_isLatin1_aae02_17 : decode cJ0_isLatin1_aae02 17 = .ok (.iconst 0, 1) := by decide +kernel
theorem dJ0_isLatin1_aae02_18 : decode cJ0_isLatin1_aae02 18 = .ok (.ireturn, 1) := by decide +kernel
def k_J0_isLatin1_aae02_0 (F : FT) (Q : QT) : KT := o_gC (o_ifeq (F 17) (o_aload 0 (o_sC (o_ifne (F 17) (o_ic (nI 1) (F 18))))))
def k_J0_isLatin1_aae02_17 (F : FT) (Q : QT) : KT := o_ic (nI 0) (F 18)
def k_J0_isLatin1_aae02_18 (F : FT) (Q : QT) : KT := o_zret Q
set_option maxRecDepth 20000 in
theorem r_J0_isLatin1_aae02 {a0 : Nat} {n : Nat} {R : RR} {I : II} {J : JJ} {Q : QT} (hn : n + 0 ≤ 90) (h : ∀ F : FT, al_Wk F → al_Ok F (k_J0_isLatin1_aae02_0 F Q) 0 → al_Ok F (k_J0_isLatin1_aae02_17 F Q) 17 → al_Ok F (k_J0_isLatin1_aae02_18 F Q) 18 → F 0 [some (.ref a0)] [] n R I J) : CT m_J0_isLatin1_aae02 0 [.ref a0] n R I J Q :=
  CT.of (by decide) hn (fun _ => rfl) (fun _ => Nat.le_of_ble_eq_true rfl) (fun F p l e s m args below meth c Rm t Q0 C hQ hr hm => h F (fun _ _ _ _ _ _ _ _ => S_wk C)
    (S_gC C (al_at 732 (by decide +kernel) rfl) dJ0_isLatin1_aae02_0 (S_ifeq (tgt := 17) C dJ0_isLatin1_aae02_3 (by decide) (S_aload_n C dJ0_isLatin1_aae02_6 rfl (S_sC C (al_at 1353 (by decide +kernel) rfl) dJ0_isLatin1_aae02_7 (S_ifne (tgt := 17) C dJ0_isLatin1_aae02_10 (by decide) (S_iconst C dJ0_isLatin1_aae02_13 (by decide +kernel) (S_goto (tgt := 18) C dJ0_isLatin1_aae02_14 (by decide))))))))
    (S_iconst C dJ0_isLatin1_aae02_17 (by decide +kernel) (fun _ _ _ _ _ _ h9 => h9))
    (S_zret C hQ hr dJ0_isLatin1_aae02_18))
theorem dJ0_coder_7d493_0 : decode cJ0_coder_7d493 0 = .ok (.getstatic 38, 3) := by decide +kernel
theorem dJ0_coder_7d493_3 : decode cJ0_coder_7d493 3 = .ok (.ifCond .eq 10, 3) := by decide +kernel
theorem dJ0_coder_7d493_6 : decode cJ0_coder_7d493 6 = .ok (.aload_n 0, 1) := by decide +kernel
theorem dJ0_coder_7d493_7 : decode cJ0_coder_7d493 7 = .ok (.getfield 15, 3) := by decide +kernel
theorem dJ0_coder_7d493_10 : decode cJ0_coder_7d493 10 = .ok (.goto 4, 3) := by decide +kernel
theorem dJ0_coder_7d493_13 : decode cJ0_coder_7d493 13 = .ok (.iconst 1, 1) := by decide +kernel
theorem dJ0_coder_7d493_14 : decode cJ0_coder_7d493 14 = .ok (.ireturn, 1) := by decide +kernel
def k_J0_coder_7d493_0 (F : FT) (Q : QT) : KT := o_gC (o_ifeq (F 13) (o_aload 0 (o_sC (F 14))))
def k_J0_coder_7d493_13 (F : FT) (Q : QT) : KT := o_ic (nI 1) (F 14)
def k_J0_coder_7d493_14 (F : FT) (Q : QT) : KT := o_nret .byte Q
set_option maxRecDepth 20000 in
theorem r_J0_coder_7d493 {a0 : Nat} {n : Nat} {R : RR} {I : II} {J : JJ} {Q : QT} (hn : n + 0 ≤ 90) (h : ∀ F : FT, al_Wk F → al_Ok F (k_J0_coder_7d493_0 F Q) 0 → al_Ok F (k_J0_coder_7d493_13 F Q) 13 → al_Ok F (k_J0_coder_7d493_14 F Q) 14 → F 0 [some (.ref a0)] [] n R I J) : CT m_J0_coder_7d493 0 [.ref a0] n R I J Q :=
  CT.of (by decide) hn (fun _ => rfl) (fun _ => Nat.le_of_ble_eq_true rfl) (fun F p l e s m args below meth c Rm t Q0 C hQ hr hm => h F (fun _ _ _ _ _ _ _ _ => S_wk C)
    (S_gC C (al_at 732 (by decide +kernel) rfl) dJ0_coder_7d493_0 (S_ifeq (tgt := 13) C dJ0_coder_7d493_3 (by decide) (S_aload_n C dJ0_coder_7d493_6 rfl (S_sC C (al_at 1353 (by decide +kernel) rfl) dJ0_coder_7d493_7 (S_goto (tgt := 14) C dJ0_coder_7d493_10 (by decide))))))
    (S_iconst C dJ0_coder_7d493_13 (by decide +kernel) (fun _ _ _ _ _ _ h9 => h9))
    (S_nret C hQ hr dJ0_coder_7d493_14))
theorem dJ0_charAt_5068e_0 : decode cJ0_charAt_5068e 0 = .ok (.aload_n 0, 1) := by decide +kernel
theorem dJ0_charAt_5068e_1 : decode cJ0_charAt_5068e 1 = .ok (.invokevirtual 492, 3) := by decide +kernel
theorem dJ0_charAt_5068e_4 : decode cJ0_charAt_5068e 4 = .ok (.ifCond .eq 12, 3) := by decide +kernel
theorem dJ0_charAt_5068e_7 : decode cJ0_charAt_5068e 7 = .ok (.aload_n 0, 1) := by decide +kernel
theorem dJ0_charAt_5068e_8 : decode cJ0_charAt_5068e 8 = .ok (.getfield 9, 3) := by decide +kernel
theorem dJ0_charAt_5068e_11 : decode cJ0_charAt_5068e 11 = .ok (.iload_n 1, 1) := by decide +kernel
theorem dJ0_charAt_5068e_12 : decode cJ0_charAt_5068e 12 = .ok (.invokestatic 495, 3) := by decide +kernel
theorem dJ0_charAt_5068e_15 : decode cJ0_charAt_5068e 15 = .ok (.ireturn, 1) := by decide +kernel
theorem dJ0_charAt_5068e_16 : decode cJ0_charAt_5068e 16 = .ok (.aload_n 0, 1) := by decide +kernel
theorem dJ0_charAt_5068e_17 : decode cJ0_charAt_5068e 17 = .ok (.getfield 9, 3) := by decide +kernel
theorem dJ0_charAt_5068e_20 : decode cJ0_charAt_5068e 20 = .ok (.iload_n 1, 1) := by decide +kernel
theorem dJ0_charAt_5068e_21 : decode cJ0_charAt_5068e 21 = .ok (.invokestatic 498, 3) := by decide +kernel
theorem dJ0_charAt_5068e_24 : decode cJ0_charAt_5068e 24 = .ok (.ireturn, 1) := by decide +kernel
def k_J0_charAt_5068e_0 (F : FT) (Q : QT) : KT := o_aload 0 (o_cT m_J0_isLatin1_aae02 1 (o_ifeq (F 16) (o_aload 0 (o_sV (o_iload 1 (o_cS m_J1_charAt_3b067 2 (o_nret .char Q)))))))
def k_J0_charAt_5068e_16 (F : FT) (Q : QT) : KT := o_aload 0 (o_sV (o_iload 1 (o_bad)))
set_option maxRecDepth 20000 in
theorem r_J0_charAt_5068e {a0 : Nat} {a1 : Int32} {n : Nat} {R : RR} {I : II} {J : JJ} {Q : QT} (hn : n + 0 ≤ 90) (h : ∀ F : FT, al_Wk F → al_Ok F (k_J0_charAt_5068e_0 F Q) 0 → al_Ok F (k_J0_charAt_5068e_16 F Q) 16 → F 0 [some (.ref a0), some (.int a1)] [] n R I J) : CT m_J0_charAt_5068e 0 [.ref a0, .int a1] n R I J Q :=
  CT.of (by decide) hn (fun _ => rfl) (fun _ => Nat.le_of_ble_eq_true rfl) (fun F p l e s m args below meth c Rm t Q0 C hQ hr hm => h F (fun _ _ _ _ _ _ _ _ => S_wk C)
    (S_aload_n C dJ0_charAt_5068e_0 rfl (S_cT C ok_J0_isLatin1_aae02 rfl (al_at 738 (by decide +kernel) rfl) (Nat.le_of_ble_eq_true rfl) (Nat.le_of_ble_eq_true rfl) dJ0_charAt_5068e_1 (S_ifeq (tgt := 16) C dJ0_charAt_5068e_4 (by decide) (S_aload_n C dJ0_charAt_5068e_7 rfl (S_sV C (al_at 1352 (by decide +kernel) rfl) dJ0_charAt_5068e_8 (S_iload_n C dJ0_charAt_5068e_11 rfl (S_cS C ok_J1_charAt_3b067 (al_at 742 (by decide +kernel) rfl) (Nat.le_of_ble_eq_true rfl) (Nat.le_of_ble_eq_true rfl) dJ0_charAt_5068e_12 (S_nret C hQ hr dJ0_charAt_5068e_15))))))))
    (S_aload_n C dJ0_charAt_5068e_16 rfl (S_sV C (al_at 1352 (by decide +kernel) rfl) dJ0_charAt_5068e_17 (S_iload_n C dJ0_charAt_5068e_20 rfl (S_bad 21)))))
theorem dJ0_length_8abf5_0 : decode cJ0_length_8abf5 0 = .ok (.aload_n 0, 1) := by decide +kernel
theorem dJ0_length_8abf5_1 : decode cJ0_length_8abf5 1 = .ok (.getfield 9, 3) := by decide +kernel
theorem dJ0_length_8abf5_4 : decode cJ0_length_8abf5 4 = .ok (.arraylength, 1) := by decide +kernel
theorem dJ0_length_8abf5_5 : decode cJ0_length_8abf5 5 = .ok (.aload_n 0, 1) := by decide +kernel
theorem dJ0_length_8abf5_6 : decode cJ0_length_8abf5 6 = .ok (.invokevirtual 335, 3) := by decide +kernel
theorem dJ0_length_8abf5_9 : decode cJ0_length_8abf5 9 = .ok (.ishr, 1) := by decide +kernel
theorem dJ0_length_8abf5_10 : decode cJ0_length_8abf5 10 = .ok (.ireturn, 1) := by decide +kernel
def k_J0_length_8abf5_0 (F : FT) (Q : QT) : KT := o_aload 0 (o_sV (o_bl (o_aload 0 (o_cT m_J0_coder_7d493 1 (o_ishr (o_iret Q))))))
set_option maxRecDepth 20000 in
theorem r_J0_length_8abf5 {a0 : Nat} {n : Nat} {R : RR} {I : II} {J : JJ} {Q : QT} (hn : n + 0 ≤ 90) (h : ∀ F : FT, al_Wk F → al_Ok F (k_J0_length_8abf5_0 F Q) 0 → F 0 [some (.ref a0)] [] n R I J) : CT m_J0_length_8abf5 0 [.ref a0] n R I J Q :=
  CT.of (by decide) hn (fun _ => rfl) (fun _ => Nat.le_of_ble_eq_true rfl) (fun F p l e s m args below meth c Rm t Q0 C hQ hr hm => h F (fun _ _ _ _ _ _ _ _ => S_wk C)
    (S_aload_n C dJ0_length_8abf5_0 rfl (S_sV C (al_at 1352 (by decide +kernel) rfl) dJ0_length_8abf5_1 (S_bl C dJ0_length_8abf5_4 (S_aload_n C dJ0_length_8abf5_5 rfl (S_cT C ok_J0_coder_7d493 rfl (al_at 728 (by decide +kernel) rfl) (Nat.le_of_ble_eq_true rfl) (Nat.le_of_ble_eq_true rfl) dJ0_length_8abf5_6 (S_ishr C dJ0_length_8abf5_9 (S_iret C hQ hr dJ0_length_8abf5_10))))))))
theorem dJ7_fill_53178_0 : decode cJ7_fill_53178 0 = .ok (.iconst 0, 1) := by decide +kernel
theorem dJ7_fill_53178_1 : decode cJ7_fill_53178 1 = .ok (.istore_n 2, 1) := by decide +kernel
theorem dJ7_fill_53178_2 : decode cJ7_fill_53178 2 = .ok (.aload_n 0, 1) := by decide +kernel
theorem dJ7_fill_53178_3 : decode cJ7_fill_53178 3 = .ok (.arraylength, 1) := by decide +kernel
theorem dJ7_fill_53178_4 : decode cJ7_fill_53178 4 = .ok (.istore_n 3, 1) := by decide +kernel
theorem dJ7_fill_53178_5 : decode cJ7_fill_53178 5 = .ok (.iload_n 2, 1) := by decide +kernel
theorem dJ7_fill_53178_6 : decode cJ7_fill_53178 6 = .ok (.iload_n 3, 1) := by decide +kernel
theorem dJ7_fill_53178_7 : decode cJ7_fill_53178 7 = .ok (.if_icmp .ge 13, 3) := by decide +kernel
theorem dJ7_fill_53178_10 : decode cJ7_fill_53178 10 = .ok (.aload_n 0, 1) := by decide +kernel
theorem dJ7_fill_53178_11 : decode cJ7_fill_53178 11 = .ok (.iload_n 2, 1) := by decide +kernel
theorem dJ7_fill_53178_12 : decode cJ7_fill_53178 12 = .ok (.iload_n 1, 1) := by decide +kernel
theorem dJ7_fill_53178_13 : decode cJ7_fill_53178 13 = .ok (.iastore, 1) := by decide +kernel
theorem dJ7_fill_53178_14 : decode cJ7_fill_53178 14 = .ok (.iinc 2 1, 3) := by decide +kernel
theorem dJ7_fill_53178_17 : decode cJ7_fill_53178 17 = .ok (.goto (-12), 3) := by decide +kernel
theorem dJ7_fill_53178_20 : decode cJ7_fill_53178 20 = .ok (.return_, 1) := by decide +kernel
def k_J7_fill_53178_0 (F : FT) (Q : QT) : KT := o_ic (nI 0) (o_istore 2 (o_aload 0 (o_alen 0 (o_istore 3 (F 5)))))
def k_J7_fill_53178_5 (F : FT) (Q : QT) : KT := o_iload 2 (o_iload 3 (o_icge (F 20) (o_aload 0 (o_iload 2 (o_iload 1 (o_iast (o_iinc 2 (nI 1) (F 5))))))))
def k_J7_fill_53178_20 (F : FT) (Q : QT) : KT := o_vret Q
set_option maxRecDepth 20000 in
theorem r_J7_fill_53178 {a0 : Nat} {a1 : Int32} {n : Nat} {R : RR} {I : II} {J : JJ} {Q : QT} (hn : n + 0 ≤ 90) (h : ∀ F : FT, al_Wk F → al_Ok F (k_J7_fill_53178_0 F Q) 0 → al_Ok F (k_J7_fill_53178_5 F Q) 5 → al_Ok F (k_J7_fill_53178_20 F Q) 20 → F 0 [some (.ref a0), some (.int a1), none, none] [] n R I J) : CT m_J7_fill_53178 0 [.ref a0, .int a1] n R I J Q :=
  CT.of (by decide) hn (fun _ => rfl) (fun _ => Nat.le_of_ble_eq_true rfl) (fun F p l e s m args below meth c Rm t Q0 C hQ hr hm => h F (fun _ _ _ _ _ _ _ _ => S_wk C)
    (S_iconst C dJ7_fill_53178_0 (by decide +kernel) (S_istore_n C dJ7_fill_53178_1 rfl (Nat.le_of_ble_eq_true rfl) (S_aload_n C dJ7_fill_53178_2 rfl (S_alen (ak := 0) C (fun _ => rfl) dJ7_fill_53178_3 (S_istore_n C dJ7_fill_53178_4 rfl (Nat.le_of_ble_eq_true rfl) (fun _ _ _ _ _ _ h9 => h9))))))
    (S_iload_n C dJ7_fill_53178_5 rfl (S_iload_n C dJ7_fill_53178_6 rfl (S_icmpge (tgt := 20) C dJ7_fill_53178_7 (by decide) (S_aload_n C dJ7_fill_53178_10 rfl (S_iload_n C dJ7_fill_53178_11 rfl (S_iload_n C dJ7_fill_53178_12 rfl (S_iast C dJ7_fill_53178_13 (S_iinc C dJ7_fill_53178_14 (by decide +kernel) (Nat.le_of_ble_eq_true rfl) (S_goto (tgt := 5) C dJ7_fill_53178_17 (by decide))))))))))
    (S_vret C hQ hr dJ7_fill_53178_20))
theorem dJ7_fill_d0a16_0 : decode cJ7_fill_d0a16 0 = .ok (.iconst 0, 1) := by decide +kernel
theorem dJ7_fill_d0a16_1 : decode cJ7_fill_d0a16 1 = .ok (.istore_n 3, 1) := by decide +kernel
theorem dJ7_fill_d0a16_2 : decode cJ7_fill_d0a16 2 = .ok (.aload_n 0, 1) := by decide +kernel
theorem dJ7_fill_d0a16_3 : decode cJ7_fill_d0a16 3 = .ok (.arraylength, 1) := by decide +kernel
theorem dJ7_fill_d0a16_4 : decode cJ7_fill_d0a16 4 = .ok (.istore 4, 2) := by decide +kernel
theorem dJ7_fill_d0a16_6 : decode cJ7_fill_d0a16 6 = .ok (.iload_n 3, 1) := by decide +kernel
theorem dJ7_fill_d0a16_7 : decode cJ7_fill_d0a16 7 = .ok (.iload 4, 2) := by decide +kernel
theorem dJ7_fill_d0a16_9 : decode cJ7_fill_d0a16 9 = .ok (.if_icmp .ge 13, 3) := by decide +kernel
theorem dJ7_fill_d0a16_12 : decode cJ7_fill_d0a16 12 = .ok (.aload_n 0, 1) := by decide +kernel
theorem dJ7_fill_d0a16_13 : decode cJ7_fill_d0a16 13 = .ok (.iload_n 3, 1) := by decide +kernel
theorem dJ7_fill_d0a16_14 : decode cJ7_fill_d0a16 14 = .ok (.lload_n 1, 1) := by decide +kernel
theorem dJ7_fill_d0a16_15 : decode cJ7_fill_d0a16 15 = .ok (.lastore, 1) := by decide +kernel
theorem dJ7_fill_d0a16_16 : decode cJ7_fill_d0a16 16 = .ok (.iinc 3 1, 3) := by decide +kernel
theorem dJ7_fill_d0a16_19 : decode cJ7_fill_d0a16 19 = .ok (.goto (-13), 3) := by decide +kernel
theorem dJ7_fill_d0a16_22 : decode cJ7_fill_d0a16 22 = .ok (.return_, 1) := by decide +kernel
def k_J7_fill_d0a16_0 (F : FT) (Q : QT) : KT := o_ic (nI 0) (o_istore 3 (o_aload 0 (o_alen 1 (o_istore 4 (F 6)))))
def k_J7_fill_d0a16_6 (F : FT) (Q : QT) : KT := o_iload 3 (o_iload 4 (o_icge (F 22) (o_aload 0 (o_iload 3 (o_lload 1 (o_last (o_iinc 3 (nI 1) (F 6))))))))
def k_J7_fill_d0a16_22 (F : FT) (Q : QT) : KT := o_vret Q
set_option maxRecDepth 20000 in
theorem r_J7_fill_d0a16 {a0 : Nat} {a1 : Int64} {n : Nat} {R : RR} {I : II} {J : JJ} {Q : QT} (hn : n + 0 ≤ 90) (h : ∀ F : FT, al_Wk F → al_Ok F (k_J7_fill_d0a16_0 F Q) 0 → al_Ok F (k_J7_fill_d0a16_6 F Q) 6 → al_Ok F (k_J7_fill_d0a16_22 F Q) 22 → F 0 [some (.ref a0), some (.long a1), none, none, none] [] n R I J) : CT m_J7_fill_d0a16 0 [.ref a0, .long a1] n R I J Q :=
  CT.of (by decide) hn (fun _ => rfl) (fun _ => Nat.le_of_ble_eq_true rfl) (fun F p l e s m args below meth c Rm t Q0 C hQ hr hm => h F (fun _ _ _ _ _ _ _ _ => S_wk C)
    (S_iconst C dJ7_fill_d0a16_0 (by decide +kernel) (S_istore_n C dJ7_fill_d0a16_1 rfl (Nat.le_of_ble_eq_true rfl) (S_aload_n C dJ7_fill_d0a16_2 rfl (S_alen (ak := 1) C (fun _ => rfl) dJ7_fill_d0a16_3 (S_istore C dJ7_fill_d0a16_4 (Nat.le_of_ble_eq_true rfl) (fun _ _ _ _ _ _ h9 => h9))))))
    (S_iload_n C dJ7_fill_d0a16_6 rfl (S_iload C dJ7_fill_d0a16_7 (S_icmpge (tgt := 22) C dJ7_fill_d0a16_9 (by decide) (S_aload_n C dJ7_fill_d0a16_12 rfl (S_iload_n C dJ7_fill_d0a16_13 rfl (S_lload_n C dJ7_fill_d0a16_14 rfl (S_last C dJ7_fill_d0a16_15 (S_iinc C dJ7_fill_d0a16_16 (by decide +kernel) (Nat.le_of_ble_eq_true rfl) (S_goto (tgt := 6) C dJ7_fill_d0a16_19 (by decide))))))))))
    (S_vret C hQ hr dJ7_fill_d0a16_22))
theorem dJ6_bitCount_0f7a4_0 : decode cJ6_bitCount_0f7a4 0 = .ok (.iload_n 0, 1) := by decide +kernel
theorem dJ6_bitCount_0f7a4_1 : decode cJ6_bitCount_0f7a4 1 = .ok (.iload_n 0, 1) := by decide +kernel
theorem dJ6_bitCount_0f7a4_2 : decode cJ6_bitCount_0f7a4 2 = .ok (.iconst 1, 1) := by decide +kernel
theorem dJ6_bitCount_0f7a4_3 : decode cJ6_bitCount_0f7a4 3 = .ok (.iushr, 1) := by decide +kernel
theorem dJ6_bitCount_0f7a4_4 : decode cJ6_bitCount_0f7a4 4 = .ok (.ldc_w 265, 3) := by decide +kernel
theorem dJ6_bitCount_0f7a4_7 : decode cJ6_bitCount_0f7a4 7 = .ok (.iand, 1) := by decide +kernel
theorem dJ6_bitCount_0f7a4_8 : decode cJ6_bitCount_0f7a4 8 = .ok (.isub, 1) := by decide +kernel
theorem dJ6_bitCount_0f7a4_9 : decode cJ6_bitCount_0f7a4 9 = .ok (.istore_n 0, 1) := by decide +kernel
theorem dJ6_bitCount_0f7a4_10 : decode cJ6_bitCount_0f7a4 10 = .ok (.iload_n 0, 1) := by decide +kernel
theorem dJ6_bitCount_0f7a4_11 : decode cJ6_bitCount_0f7a4 11 = .ok (.ldc_w 266, 3) := by decide +kernel
theorem dJ6_bitCount_0f7a4_14 : decode cJ6_bitCount_0f7a4 14 = .ok (.iand, 1) := by decide +kernel
theorem dJ6_bitCount_0f7a4_15 : decode cJ6_bitCount_0f7a4 15 = .ok (.iload_n 0, 1) := by decide +kernel
theorem dJ6_bitCount_0f7a4_16 : decode cJ6_bitCount_0f7a4 16 = .ok (.iconst 2, 1) := by decide +kernel
theorem dJ6_bitCount_0f7a4_17 : decode cJ6_bitCount_0f7a4 17 = .ok (.iushr, 1) := by decide +kernel
theorem dJ6_bitCount_0f7a4_18 : decode cJ6_bitCount_0f7a4 18 = .ok (.ldc_w 266, 3) := by decide +kernel
theorem dJ6_bitCount_0f7a4_21 : decode cJ6_bitCount_0f7a4 21 = .ok (.iand, 1) := by decide +kernel
theorem dJ6_bitCount_0f7a4_22 : decode cJ6_bitCount_0f7a4 22 = .ok (.iadd, 1) := by decide +kernel
theorem dJ6_bitCount_0f7a4_23 : decode cJ6_bitCount_0f7a4 23 = .ok (.istore_n 0, 1) := by decide +kernel
theorem dJ6_bitCount_0f7a4_24 : decode cJ6_bitCount_0f7a4 24 = .ok (.iload_n 0, 1) := by decide +kernel
theorem dJ6_bitCount_0f7a4_25 : decode cJ6_bitCount_0f7a4 25 = .ok (.iload_n 0, 1) := by decide +kernel
theorem dJ6_bitCount_0f7a4_26 : decode cJ6_bitCount_0f7a4 26 = .ok (.iconst 4, 1) := by decide +kernel
theorem dJ6_bitCount_0f7a4_27 : decode cJ6_bitCount_0f7a4 27 = .ok (.iushr, 1) := by decide +kernel
theorem dJ6_bitCount_0f7a4_28 : decode cJ6_bitCount_0f7a4 28 = .ok (.iadd, 1) := by decide +kernel
theorem dJ6_bitCount_0f7a4_29 : decode cJ6_bitCount_0f7a4 29 = .ok (.ldc_w 267, 3) := by decide +kernel
theorem dJ6_bitCount_0f7a4_32 : decode cJ6_bitCount_0f7a4 32 = .ok (.iand, 1) := by decide +kernel
theorem dJ6_bitCount_0f7a4_33 : decode cJ6_bitCount_0f7a4 33 = .ok (.istore_n 0, 1) := by decide +kernel
theorem dJ6_bitCount_0f7a4_34 : decode cJ6_bitCount_0f7a4 34 = .ok (.iload_n 0, 1) := by decide +kernel
theorem dJ6_bitCount_0f7a4_35 : decode cJ6_bitCount_0f7a4 35 = .ok (.iload_n 0, 1) := by decide +kernel
theorem dJ6_bitCount_0f7a4_36 : decode cJ6_bitCount_0f7a4 36 = .ok (.bipush 8, 2) := by decide +kernel
theorem dJ6_bitCount_0f7a4_38 : decode cJ6_bitCount_0f7a4 38 = .ok (.iushr, 1) := by decide +kernel
theorem dJ6_bitCount_0f7a4_39 : decode cJ6_bitCount_0f7a4 39 = .ok (.iadd, 1) := by decide +kernel
theorem dJ6_bitCount_0f7a4_40 : decode cJ6_bitCount_0f7a4 40 = .ok (.istore_n 0, 1) := by decide +kernel
theorem dJ6_bitCount_0f7a4_41 : decode cJ6_bitCount_0f7a4 41 = .ok (.iload_n 0, 1) := by decide +kernel
theorem dJ6_bitCount_0f7a4_42 : decode cJ6_bitCount_0f7a4 42 = .ok (.iload_n 0, 1) := by decide +kernel
theorem dJ6_bitCount_0f7a4_43 : decode cJ6_bitCount_0f7a4 43 = .ok (.bipush 16, 2) := by decide +kernel
theorem dJ6_bitCount_0f7a4_45 : decode cJ6_bitCount_0f7a4 45 = .ok (.iushr, 1) := by decide +kernel
theorem dJ6_bitCount_0f7a4_46 : decode cJ6_bitCount_0f7a4 46 = .ok (.iadd, 1) := by decide +kernel
theorem dJ6_bitCount_0f7a4_47 : decode cJ6_bitCount_0f7a4 47 = .ok (.istore_n 0, 1) := by decide +kernel
theorem dJ6_bitCount_0f7a4_48 : decode cJ6_bitCount_0f7a4 48 = .ok (.iload_n 0, 1) := by decide +kernel
theorem dJ6_bitCount_0f7a4_49 : decode cJ6_bitCount_0f7a4 49 = .ok (.bipush 63, 2) := by decide +kernel
theorem dJ6_bitCount_0f7a4_51 : decode cJ6_bitCount_0f7a4 51 = .ok (.iand, 1) := by decide +kernel
theorem dJ6_bitCount_0f7a4_52 : decode cJ6_bitCount_0f7a4 52 = .ok (.ireturn, 1) := by decide +kernel
def k_J6_bitCount_0f7a4_0 (F : FT) (Q : QT) : KT := o_iload 0 (o_iload 0 (o_ic (nI 1) (o_iushr (o_ic (1431655765) (o_iand (o_isub (o_istore 0 (o_iload 0 (o_ic (858993459) (o_iand (o_iload 0 (o_ic (nI 2) (o_iushr (o_ic (858993459) (o_iand (o_iadd (o_istore 0 (o_iload 0 (o_iload 0 (o_ic (nI 4) (o_iushr (o_iadd (o_ic (252645135) (o_iand (o_istore 0 (o_iload 0 (o_iload 0 (o_ic (nI 8) (o_iushr (o_iadd (o_istore 0 (o_iload 0 (o_iload 0 (o_ic (nI 16) (o_iushr (o_iadd (o_istore 0 (o_iload 0 (o_ic (nI 63) (o_iand (o_iret Q)))))))))))))))))))))))))))))))))))))))))
set_option maxRecDepth 20000 in
theorem r_J6_bitCount_0f7a4 {a0 : Int32} {n : Nat} {R : RR} {I : II} {J : JJ} {Q : QT} (hn : n + 0 ≤ 90) (h : ∀ F : FT, al_Wk F → al_Ok F (k_J6_bitCount_0f7a4_0 F Q) 0 → F 0 [some (.int a0)] [] n R I J) : CT m_J6_bitCount_0f7a4 0 [.int a0] n R I J Q :=
  CT.of (by decide) hn (fun _ => rfl) (fun _ => Nat.le_of_ble_eq_true rfl) (fun F p l e s m args below meth c Rm t Q0 C hQ hr hm => h F (fun _ _ _ _ _ _ _ _ => S_wk C)
    (S_iload_n C dJ6_bitCount_0f7a4_0 rfl (S_iload_n C dJ6_bitCount_0f7a4_1 rfl (S_iconst C dJ6_bitCount_0f7a4_2 (by decide +kernel) (S_iushr C dJ6_bitCount_0f7a4_3 (S_ldcw C dJ6_bitCount_0f7a4_4 (al_at 590 (by decide +kernel) rfl) (S_iand C dJ6_bitCount_0f7a4_7 (S_isub C dJ6_bitCount_0f7a4_8 (S_istore_n C dJ6_bitCount_0f7a4_9 rfl (Nat.le_of_ble_eq_true rfl) (S_iload_n C dJ6_bitCount_0f7a4_10 rfl (S_ldcw C dJ6_bitCount_0f7a4_11 (al_at 591 (by decide +kernel) rfl) (S_iand C dJ6_bitCount_0f7a4_14 (S_iload_n C dJ6_bitCount_0f7a4_15 rfl (S_iconst C dJ6_bitCount_0f7a4_16 (by decide +kernel) (S_iushr C dJ6_bitCount_0f7a4_17 (S_ldcw C dJ6_bitCount_0f7a4_18 (al_at 591 (by decide +kernel) rfl) (S_iand C dJ6_bitCount_0f7a4_21 (S_iadd C dJ6_bitCount_0f7a4_22 (S_istore_n C dJ6_bitCount_0f7a4_23 rfl (Nat.le_of_ble_eq_true rfl) (S_iload_n C dJ6_bitCount_0f7a4_24 rfl (S_iload_n C dJ6_bitCount_0f7a4_25 rfl (S_iconst C dJ6_bitCount_0f7a4_26 (by decide +kernel) (S_iushr C dJ6_bitCount_0f7a4_27 (S_iadd C dJ6_bitCount_0f7a4_28 (S_ldcw C dJ6_bitCount_0f7a4_29 (al_at 592 (by decide +kernel) rfl) (S_iand C dJ6_bitCount_0f7a4_32 (S_istore_n C dJ6_bitCount_0f7a4_33 rfl (Nat.le_of_ble_eq_true rfl) (S_iload_n C dJ6_bitCount_0f7a4_34 rfl (S_iload_n C dJ6_bitCount_0f7a4_35 rfl (S_bipush C dJ6_bitCount_0f7a4_36 (by decide +kernel) (S_iushr C dJ6_bitCount_0f7a4_38 (S_iadd C dJ6_bitCount_0f7a4_39 (S_istore_n C dJ6_bitCount_0f7a4_40 rfl (Nat.le_of_ble_eq_true rfl) (S_iload_n C dJ6_bitCount_0f7a4_41 rfl (S_iload_n C dJ6_bitCount_0f7a4_42 rfl (S_bipush C dJ6_bitCount_0f7a4_43 (by decide +kernel) (S_iushr C dJ6_bitCount_0f7a4_45 (S_iadd C dJ6_bitCount_0f7a4_46 (S_istore_n C dJ6_bitCount_0f7a4_47 rfl (Nat.le_of_ble_eq_true rfl) (S_iload_n C dJ6_bitCount_0f7a4_48 rfl (S_bipush C dJ6_bitCount_0f7a4_49 (by decide +kernel) (S_iand C dJ6_bitCount_0f7a4_51 (S_iret C hQ hr dJ6_bitCount_0f7a4_52)))))))))))))))))))))))))))))))))))))))))))
theorem dJ13_bitCount_95d88_0 : decode cJ13_bitCount_95d88 0 = .ok (.lload_n 0, 1) := by decide +kernel
theorem dJ13_bitCount_95d88_1 : decode cJ13_bitCount_95d88 1 = .ok (.lload_n 0, 1) := by decide +kernel
theorem dJ13_bitCount_95d88_2 : decode cJ13_bitCount_95d88 2 = .ok (.iconst 1, 1) := by decide +kernel
theorem dJ13_bitCount_95d88_3 : decode cJ13_bitCount_95d88 3 = .ok (.lushr, 1) := by decide +kernel
theorem dJ13_bitCount_95d88_4 : decode cJ13_bitCount_95d88 4 = .ok (.ldc2_w 314, 3) := by decide +kernel
theorem dJ13_bitCount_95d88_7 : decode cJ13_bitCount_95d88 7 = .ok (.land, 1) := by decide +kernel
theorem dJ13_bitCount_95d88_8 : decode cJ13_bitCount_95d88 8 = .ok (.lsub, 1) := by decide +kernel
theorem dJ13_bitCount_95d88_9 : decode cJ13_bitCount_95d88 9 = .ok (.lstore_n 0, 1) := by decide +kernel
theorem dJ13_bitCount_95d88_10 : decode cJ13_bitCount_95d88 10 = .ok (.lload_n 0, 1) := by decide +kernel
theorem dJ13_bitCount_95d88_11 : decode cJ13_bitCount_95d88 11 = .ok (.ldc2_w 316, 3) := by decide +kernel
theorem dJ13_bitCount_95d88_14 : decode cJ13_bitCount_95d88 14 = .ok (.land, 1) := by decide +kernel
theorem dJ13_bitCount_95d88_15 : decode cJ13_bitCount_95d88 15 = .ok (.lload_n 0, 1) := by decide +kernel
theorem dJ13_bitCount_95d88_16 : decode cJ13_bitCount_95d88 16 = .ok (.iconst 2, 1) := by decide +kernel
theorem dJ13_bitCount_95d88_17 : decode cJ13_bitCount_95d88 17 = .ok (.lushr, 1) := by decide +kernel
theorem dJ13_bitCount_95d88_18 : decode cJ13_bitCount_95d88 18 = .ok (.ldc2_w 316, 3) := by decide +kernel
theorem dJ13_bitCount_95d88_21 : decode cJ13_bitCount_95d88 21 = .ok (.land, 1) := by decide +kernel
theorem dJ13_bitCount_95d88_22 : decode cJ13_bitCount_95d88 22 = .ok (.ladd, 1) := by decide +kernel
theorem dJ13_bitCount_95d88_23 : decode cJ13_bitCount_95d88 23 = .ok (.lstore_n 0, 1) := by decide +kernel
theorem dJ13_bitCount_95d88_24 : decode cJ13_bitCount_95d88 24 = .ok (.lload_n 0, 1) := by decide +kernel
theorem dJ13_bitCount_95d88_25 : decode cJ13_bitCount_95d88 25 = .ok (.lload_n 0, 1) := by decide +kernel
theorem dJ13_bitCount_95d88_26 : decode cJ13_bitCount_95d88 26 = .ok (.iconst 4, 1) := by decide +kernel
theorem dJ13_bitCount_95d88_27 : decode cJ13_bitCount_95d88 27 = .ok (.lushr, 1) := by decide +kernel
theorem dJ13_bitCount_95d88_28 : decode cJ13_bitCount_95d88 28 = .ok (.ladd, 1) := by decide +kernel
theorem dJ13_bitCount_95d88_29 : decode cJ13_bitCount_95d88 29 = .ok (.ldc2_w 318, 3) := by decide +kernel
theorem dJ13_bitCount_95d88_32 : decode cJ13_bitCount_95d88 32 = .ok (.land, 1) := by decide +kernel
theorem dJ13_bitCount_95d88_33 : decode cJ13_bitCount_95d88 33 = .ok (.lstore_n 0, 1) := by decide +kernel
theorem dJ13_bitCount_95d88_34 : decode cJ13_bitCount_95d88 34 = .ok (.lload_n 0, 1) := by decide +kernel
theorem dJ13_bitCount_95d88_35 : decode cJ13_bitCount_95d88 35 = .ok (.lload_n 0, 1) := by decide +kernel
theorem dJ13_bitCount_95d88_36 : decode cJ13_bitCount_95d88 36 = .ok (.bipush 8, 2) := by decide +kernel
theorem dJ13_bitCount_95d88_38 : decode cJ13_bitCount_95d88 38 = .ok (.lushr, 1) := by decide +kernel
theorem dJ13_bitCount_95d88_39 : decode cJ13_bitCount_95d88 39 = .ok (.ladd, 1) := by decide +kernel
theorem dJ13_bitCount_95d88_40 : decode cJ13_bitCount_95d88 40 = .ok (.lstore_n 0, 1) := by decide +kernel
theorem dJ13_bitCount_95d88_41 : decode cJ13_bitCount_95d88 41 = .ok (.lload_n 0, 1) := by decide +kernel
theorem dJ13_bitCount_95d88_42 : decode cJ13_bitCount_95d88 42 = .ok (.lload_n 0, 1) := by decide +kernel
theorem dJ13_bitCount_95d88_43 : decode cJ13_bitCount_95d88 43 = .ok (.bipush 16, 2) := by decide +kernel
theorem dJ13_bitCount_95d88_45 : decode cJ13_bitCount_95d88 45 = .ok (.lushr, 1) := by decide +kernel
theorem dJ13_bitCount_95d88_46 : decode cJ13_bitCount_95d88 46 = .ok (.ladd, 1) := by decide +kernel
theorem dJ13_bitCount_95d88_47 : decode cJ13_bitCount_95d88 47 = .ok (.lstore_n 0, 1) := by decide +kernel
theorem dJ13_bitCount_95d88_48 : decode cJ13_bitCount_95d88 48 = .ok (.lload_n 0, 1) := by decide +kernel
theorem dJ13_bitCount_95d88_49 : decode cJ13_bitCount_95d88 49 = .ok (.lload_n 0, 1) := by decide +kernel
theorem dJ13_bitCount_95d88_50 : decode cJ13_bitCount_95d88 50 = .ok (.bipush 32, 2) := by decide +kernel
theorem dJ13_bitCount_95d88_52 : decode cJ13_bitCount_95d88 52 = .ok (.lushr, 1) := by decide +kernel
theorem dJ13_bitCount_95d88_53 : decode cJ13_bitCount_95d88 53 = .ok (.ladd, 1) := by decide +kernel
theorem dJ13_bitCount_95d88_54 : decode cJ13_bitCount_95d88 54 = .ok (.lstore_n 0, 1) := by decide +kernel
theorem dJ13_bitCount_95d88_55 : decode cJ13_bitCount_95d88 55 = .ok (.lload_n 0, 1) := by decide +kernel
theorem dJ13_bitCount_95d88_56 : decode cJ13_bitCount_95d88 56 = .ok (.l2i, 1) := by decide +kernel
theorem dJ13_bitCount_95d88_57 : decode cJ13_bitCount_95d88 57 = .ok (.bipush 127, 2) := by decide +kernel
theorem dJ13_bitCount_95d88_59 : decode cJ13_bitCount_95d88 59 = .ok (.iand, 1) := by decide +kernel
theorem dJ13_bitCount_95d88_60 : decode cJ13_bitCount_95d88 60 = .ok (.ireturn, 1) := by decide +kernel
def k_J13_bitCount_95d88_0 (F : FT) (Q : QT) : KT := o_lload 0 (o_lload 0 (o_ic (nI 1) (o_lushr (o_lc (6148914691236517205) (o_land (o_lsub (o_lstore 0 (o_lload 0 (o_lc (3689348814741910323) (o_land (o_lload 0 (o_ic (nI 2) (o_lushr (o_lc (3689348814741910323) (o_land (o_ladd (o_lstore 0 (o_lload 0 (o_lload 0 (o_ic (nI 4) (o_lushr (o_ladd (o_lc (1085102592571150095) (o_land (o_lstore 0 (o_lload 0 (o_lload 0 (o_ic (nI 8) (o_lushr (o_ladd (o_lstore 0 (o_lload 0 (o_lload 0 (o_ic (nI 16) (o_lushr (o_ladd (o_lstore 0 (o_lload 0 (o_lload 0 (o_ic (nI 32) (o_lushr (o_ladd (o_lstore 0 (o_lload 0 (o_l2i (o_ic (nI 127) (o_iand (o_iret Q))))))))))))))))))))))))))))))))))))))))))))))))
set_option maxRecDepth 20000 in
theorem r_J13_bitCount_95d88 {a0 : Int64} {n : Nat} {R : RR} {I : II} {J : JJ} {Q : QT} (hn : n + 0 ≤ 90) (h : ∀ F : FT, al_Wk F → al_Ok F (k_J13_bitCount_95d88_0 F Q) 0 → F 0 [some (.long a0), none] [] n R I J) : CT m_J13_bitCount_95d88 0 [.long a0] n R I J Q :=
  CT.of (by decide) hn (fun _ => rfl) (fun _ => Nat.le_of_ble_eq_true rfl) (fun F p l e s m args below meth c Rm t Q0 C hQ hr hm => h F (fun _ _ _ _ _ _ _ _ => S_wk C)
    (S_lload_n C dJ13_bitCount_95d88_0 rfl (S_lload_n C dJ13_bitCount_95d88_1 rfl (S_iconst C dJ13_bitCount_95d88_2 (by decide +kernel) (S_lushr C dJ13_bitCount_95d88_3 (S_ldc2 C dJ13_bitCount_95d88_4 (al_at 629 (by decide +kernel) rfl) (S_land C dJ13_bitCount_95d88_7 (S_lsub C dJ13_bitCount_95d88_8 (S_lstore_n C dJ13_bitCount_95d88_9 rfl (Nat.le_of_ble_eq_true rfl) (S_lload_n C dJ13_bitCount_95d88_10 rfl (S_ldc2 C dJ13_bitCount_95d88_11 (al_at 630 (by decide +kernel) rfl) (S_land C dJ13_bitCount_95d88_14 (S_lload_n C dJ13_bitCount_95d88_15 rfl (S_iconst C dJ13_bitCount_95d88_16 (by decide +kernel) (S_lushr C dJ13_bitCount_95d88_17 (S_ldc2 C dJ13_bitCount_95d88_18 (al_at 630 (by decide +kernel) rfl) (S_land C dJ13_bitCount_95d88_21 (S_ladd C dJ13_bitCount_95d88_22 (S_lstore_n C dJ13_bitCount_95d88_23 rfl (Nat.le_of_ble_eq_true rfl) (S_lload_n C dJ13_bitCount_95d88_24 rfl (S_lload_n C dJ13_bitCount_95d88_25 rfl (S_iconst C dJ13_bitCount_95d88_26 (by decide +kernel) (S_lushr C dJ13_bitCount_95d88_27 (S_ladd C dJ13_bitCount_95d88_28 (S_ldc2 C dJ13_bitCount_95d88_29 (al_at 631 (by decide +kernel) rfl) (S_land C dJ13_bitCount_95d88_32 (S_lstore_n C dJ13_bitCount_95d88_33 rfl (Nat.le_of_ble_eq_true rfl) (S_lload_n C dJ13_bitCount_95d88_34 rfl (S_lload_n C dJ13_bitCount_95d88_35 rfl (S_bipush C dJ13_bitCount_95d88_36 (by decide +kernel) (S_lushr C dJ13_bitCount_95d88_38 (S_ladd C dJ13_bitCount_95d88_39 (S_lstore_n C dJ13_bitCount_95d88_40 rfl (Nat.le_of_ble_eq_true rfl) (S_lload_n C dJ13_bitCount_95d88_41 rfl (S_lload_n C dJ13_bitCount_95d88_42 rfl (S_bipush C dJ13_bitCount_95d88_43 (by decide +kernel) (S_lushr C dJ13_bitCount_95d88_45 (S_ladd C dJ13_bitCount_95d88_46 (S_lstore_n C dJ13_bitCount_95d88_47 rfl (Nat.le_of_ble_eq_true rfl) (S_lload_n C dJ13_bitCount_95d88_48 rfl (S_lload_n C dJ13_bitCount_95d88_49 rfl (S_bipush C dJ13_bitCount_95d88_50 (by decide +kernel) (S_lushr C dJ13_bitCount_95d88_52 (S_ladd C dJ13_bitCount_95d88_53 (S_lstore_n C dJ13_bitCount_95d88_54 rfl (Nat.le_of_ble_eq_true rfl) (S_lload_n C dJ13_bitCount_95d88_55 rfl (S_l2i C dJ13_bitCount_95d88_56 (S_bipush C dJ13_bitCount_95d88_57 (by decide +kernel) (S_iand C dJ13_bitCount_95d88_59 (S_iret C hQ hr dJ13_bitCount_95d88_60))))))))))))))))))))))))))))))))))))))))))))))))))
