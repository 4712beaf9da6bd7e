theorem dX0_init_0 : decode cX0_init 0 = .ok (.aload_n 0, 1) := by decide +kernel
theorem dX0_init_1 : decode cX0_init 1 = .ok (.invokespecial 1, 3) := by decide +kernel
theorem dX0_init_4 : decode cX0_init 4 = .ok (.return_, 1) := by decide +kernel
def k_X0_init_0 (F : FT) (Q : QT) (ne : Nat) : KT := o_aload 0 (o_cI ne m_X5_init 0 1 (o_cret ne Q))
set_option maxRecDepth 20000 in
theorem r_X0_init {a0 : Nat} {n : Nat} {R : RR} {I : II} {J : JJ} {Q : QT} (hn : n + 0 ≤ 90) (h : ∀ F : FT, al_Wk F → al_Ok F (k_X0_init_0 F Q (n + 0)) 0 → F 0 [some (.ref a0)] [] n R I J) : CT m_X0_init 0 [.ref a0] n R I J Q :=
  CT.of (by decide) hn (fun _ => rfl) (fun _ => Nat.le_of_ble_eq_true rfl) (fun F p l e s m args below meth c Rm t Q0 C hQ hr hm => h F (fun _ _ _ _ _ _ _ _ => S_wk C)
    (S_aload_n C dX0_init_0 rfl (S_cI C ok_X5_init (al_at 116 (by decide +kernel) rfl) (Nat.le_of_ble_eq_true rfl) (Nat.le_of_ble_eq_true rfl) dX0_init_1 (S_cret C hQ hr dX0_init_4))))
theorem dX0_isOf_0 : decode cX0_isOf 0 = .ok (.iload_n 1, 1) := by decide +kernel
theorem dX0_isOf_1 : decode cX0_isOf 1 = .ok (.iconst 3, 1) := by decide +kernel
theorem dX0_isOf_2 : decode cX0_isOf 2 = .ok (.if_icmp .eq 11, 3) := by decide +kernel
theorem dX0_isOf_5 : decode cX0_isOf 5 = .ok (.aload_n 0, 1) := by decide +kernel
theorem dX0_isOf_6 : decode cX0_isOf 6 = .ok (.iload_n 1, 1) := by decide +kernel
theorem dX0_isOf_7 : decode cX0_isOf 7 = .ok (.invokespecial 9, 3) := by decide +kernel
theorem dX0_isOf_10 : decode cX0_isOf 10 = .ok (.ifCond .eq 7, 3) := by decide +kernel
theorem dX0_isOf_13 : decode cX0_isOf 13 = .ok (.iconst 1, 1) := by decide +kernel
theorem dX0_isOf_14 : decode cX0_isOf 14 = .ok (.goto 4, 3) := by decide +kernel
theorem dX0_isOf_17 : decode cX0_isOf 17 = .ok (.iconst 0, 1) := by decide +kernel
theorem dX0_isOf_18 : decode cX0_isOf 18 = .ok (.ireturn, 1) := by decide +kernel
def k_X0_isOf_0 (F : FT) (Q : QT) : KT := o_iload 1 (o_ic (nI 3) (o_iceq (F 13) (o_aload 0 (o_iload 1 (o_cW m_X5_isOf 2 (o_ifeq (F 17) (F 13)))))))
def k_X0_isOf_13 (F : FT) (Q : QT) : KT := o_ic (nI 1) (F 18)
def k_X0_isOf_17 (F : FT) (Q : QT) : KT := o_ic (nI 0) (F 18)
def k_X0_isOf_18 (F : FT) (Q : QT) : KT := o_zret Q
set_option maxRecDepth 20000 in
theorem r_X0_isOf {a0 : Nat} {a1 : Int32} {n : Nat} {R : RR} {I : II} {J : JJ} {Q : QT} (hn : n + 0 ≤ 90) (h : ∀ F : FT, al_Wk F → al_Ok F (k_X0_isOf_0 F Q) 0 → al_Ok F (k_X0_isOf_13 F Q) 13 → al_Ok F (k_X0_isOf_17 F Q) 17 → al_Ok F (k_X0_isOf_18 F Q) 18 → F 0 [some (.ref a0), some (.int a1)] [] n R I J) : CT m_X0_isOf 0 [.ref a0, .int a1] n R I J Q :=
  CT.of (by decide) hn (fun _ => rfl) (fun _ => Nat.le_of_ble_eq_true rfl) (fun F p l e s m args below meth c Rm t Q0 C hQ hr hm => h F (fun _ _ _ _ _ _ _ _ => S_wk C)
    (S_iload_n C dX0_isOf_0 rfl (S_iconst C dX0_isOf_1 (by decide +kernel) (S_icmpeq (tgt := 13) C dX0_isOf_2 (by decide) (S_aload_n C dX0_isOf_5 rfl (S_iload_n C dX0_isOf_6 rfl (S_cSU C ok_X5_isOf (al_at 1344 (by decide +kernel) rfl) (al_at 117 (by decide +kernel) rfl) (by decide) (al_at 482 (by decide +kernel) rfl) (Nat.le_of_ble_eq_true rfl) (Nat.le_of_ble_eq_true rfl) dX0_isOf_7 (S_ifeq (tgt := 17) C dX0_isOf_10 (by decide) (fun _ _ _ _ _ _ h9 => h9))))))))
    (S_iconst C dX0_isOf_13 (by decide +kernel) (S_goto (tgt := 18) C dX0_isOf_14 (by decide)))
    (S_iconst C dX0_isOf_17 (by decide +kernel) (fun _ _ _ _ _ _ h9 => h9))
    (S_zret C hQ hr dX0_isOf_18))
theorem dX0_title_0 : decode cX0_title 0 = .ok (.ldc 7, 2) := by decide +kernel
theorem dX0_title_2 : decode cX0_title 2 = .ok (.areturn, 1) := by decide +kernel
def k_X0_title_0 (F : FT) (Q : QT) : KT := o_sc 7 (o_aret Q)
set_option maxRecDepth 20000 in
theorem r_X0_title {a0 : Nat} {n : Nat} {R : RR} {I : II} {J : JJ} {Q : QT} (hn : n + 0 ≤ 90) (h : ∀ F : FT, al_Wk F → al_Ok F (k_X0_title_0 F Q) 0 → F 0 [some (.ref a0)] [] n R I J) : CT m_X0_title 0 [.ref a0] n R I J Q :=
  CT.of (by decide) hn (fun _ => rfl) (fun _ => Nat.le_of_ble_eq_true rfl) (fun F p l e s m args below meth c Rm t Q0 C hQ hr hm => h F (fun _ _ _ _ _ _ _ _ => S_wk C)
    (S_ldcS (tx := "dear") C (by decide) dX0_title_0 (by decide +kernel) (S_aret C hQ hr dX0_title_2)))
theorem dX0_weigh_0 : decode cX0_weigh 0 = .ok (.aload_n 0, 1) := by decide +kernel
theorem dX0_weigh_1 : decode cX0_weigh 1 = .ok (.iload_n 1, 1) := by decide +kernel
theorem dX0_weigh_2 : decode cX0_weigh 2 = .ok (.iload_n 2, 1) := by decide +kernel
theorem dX0_weigh_3 : decode cX0_weigh 3 = .ok (.iload_n 3, 1) := by decide +kernel
theorem dX0_weigh_4 : decode cX0_weigh 4 = .ok (.invokespecial 13, 3) := by decide +kernel
theorem dX0_weigh_7 : decode cX0_weigh 7 = .ok (.iload_n 3, 1) := by decide +kernel
theorem dX0_weigh_8 : decode cX0_weigh 8 = .ok (.iconst 5, 1) := by decide +kernel
theorem dX0_weigh_9 : decode cX0_weigh 9 = .ok (.if_icmp .lt 7, 3) := by decide +kernel
theorem dX0_weigh_12 : decode cX0_weigh 12 = .ok (.iconst 1, 1) := by decide +kernel
theorem dX0_weigh_13 : decode cX0_weigh 13 = .ok (.goto 4, 3) := by decide +kernel
theorem dX0_weigh_16 : decode cX0_weigh 16 = .ok (.iconst 0, 1) := by decide +kernel
theorem dX0_weigh_17 : decode cX0_weigh 17 = .ok (.iadd, 1) := by decide +kernel
theorem dX0_weigh_18 : decode cX0_weigh 18 = .ok (.ireturn, 1) := by decide +kernel
def k_X0_weigh_0 (F : FT) (Q : QT) : KT := o_aload 0 (o_iload 1 (o_iload 2 (o_iload 3 (o_cW m_X5_weigh 4 (o_iload 3 (o_ic (nI 5) (o_iclt (F 16) (o_ic (nI 1) (F 17)))))))))
def k_X0_weigh_16 (F : FT) (Q : QT) : KT := o_ic (nI 0) (F 17)
def k_X0_weigh_17 (F : FT) (Q : QT) : KT := o_iadd (o_iret Q)
set_option maxRecDepth 20000 in
theorem r_X0_weigh {a0 : Nat} {a1 : Int32} {a2 : Int32} {a3 : Int32} {n : Nat} {R : RR} {I : II} {J : JJ} {Q : QT} (hn : n + 0 ≤ 90) (h : ∀ F : FT, al_Wk F → al_Ok F (k_X0_weigh_0 F Q) 0 → al_Ok F (k_X0_weigh_16 F Q) 16 → al_Ok F (k_X0_weigh_17 F Q) 17 → F 0 [some (.ref a0), some (.int a1), some (.int a2), some (.int a3)] [] n R I J) : CT m_X0_weigh 0 [.ref a0, .int a1, .int a2, .int a3] n R I J Q :=
  CT.of (by decide) hn (fun _ => rfl) (fun _ => Nat.le_of_ble_eq_true rfl) (fun F p l e s m args below meth c Rm t Q0 C hQ hr hm => h F (fun _ _ _ _ _ _ _ _ => S_wk C)
    (S_aload_n C dX0_weigh_0 rfl (S_iload_n C dX0_weigh_1 rfl (S_iload_n C dX0_weigh_2 rfl (S_iload_n C dX0_weigh_3 rfl (S_cSU C ok_X5_weigh (al_at 1341 (by decide +kernel) rfl) (al_at 117 (by decide +kernel) rfl) (by decide) (al_at 439 (by decide +kernel) rfl) (Nat.le_of_ble_eq_true rfl) (Nat.le_of_ble_eq_true rfl) dX0_weigh_4 (S_iload_n C dX0_weigh_7 rfl (S_iconst C dX0_weigh_8 (by decide +kernel) (S_icmplt (tgt := 16) C dX0_weigh_9 (by decide) (S_iconst C dX0_weigh_12 (by decide +kernel) (S_goto (tgt := 17) C dX0_weigh_13 (by decide)))))))))))
    (S_iconst C dX0_weigh_16 (by decide +kernel) (fun _ _ _ _ _ _ h9 => h9))
    (S_iadd C dX0_weigh_17 (S_iret C hQ hr dX0_weigh_18)))
theorem dX1_init_0 : decode cX1_init 0 = .ok (.aload_n 0, 1) := by decide +kernel
theorem dX1_init_1 : decode cX1_init 1 = .ok (.invokespecial 1, 3) := by decide +kernel
theorem dX1_init_4 : decode cX1_init 4 = .ok (.return_, 1) := by decide +kernel
def k_X1_init_0 (F : FT) (Q : QT) (ne : Nat) : KT := o_aload 0 (o_cI ne m_X0_init 0 1 (o_cret ne Q))
set_option maxRecDepth 20000 in
theorem r_X1_init {a0 : Nat} {n : Nat} {R : RR} {I : II} {J : JJ} {Q : QT} (hn : n + 0 ≤ 90) (h : ∀ F : FT, al_Wk F → al_Ok F (k_X1_init_0 F Q (n + 0)) 0 → F 0 [some (.ref a0)] [] n R I J) : CT m_X1_init 0 [.ref a0] n R I J Q :=
  CT.of (by decide) hn (fun _ => rfl) (fun _ => Nat.le_of_ble_eq_true rfl) (fun F p l e s m args below meth c Rm t Q0 C hQ hr hm => h F (fun _ _ _ _ _ _ _ _ => S_wk C)
    (S_aload_n C dX1_init_0 rfl (S_cI C ok_X0_init (al_at 130 (by decide +kernel) rfl) (Nat.le_of_ble_eq_true rfl) (Nat.le_of_ble_eq_true rfl) dX1_init_1 (S_cret C hQ hr dX1_init_4))))
theorem dX1_isOf_0 : decode cX1_isOf 0 = .ok (.iload_n 1, 1) := by decide +kernel
theorem dX1_isOf_1 : decode cX1_isOf 1 = .ok (.iconst 5, 1) := by decide +kernel
theorem dX1_isOf_2 : decode cX1_isOf 2 = .ok (.if_icmp .eq 11, 3) := by decide +kernel
theorem dX1_isOf_5 : decode cX1_isOf 5 = .ok (.aload_n 0, 1) := by decide +kernel
theorem dX1_isOf_6 : decode cX1_isOf 6 = .ok (.iload_n 1, 1) := by decide +kernel
theorem dX1_isOf_7 : decode cX1_isOf 7 = .ok (.invokespecial 9, 3) := by decide +kernel
theorem dX1_isOf_10 : decode cX1_isOf 10 = .ok (.ifCond .eq 7, 3) := by decide +kernel
theorem dX1_isOf_13 : decode cX1_isOf 13 = .ok (.iconst 1, 1) := by decide +kernel
theorem dX1_isOf_14 : decode cX1_isOf 14 = .ok (.goto 4, 3) := by decide +kernel
theorem dX1_isOf_17 : decode cX1_isOf 17 = .ok (.iconst 0, 1) := by decide +kernel
theorem dX1_isOf_18 : decode cX1_isOf 18 = .ok (.ireturn, 1) := by decide +kernel
def k_X1_isOf_0 (F : FT) (Q : QT) : KT := o_iload 1 (o_ic (nI 5) (o_iceq (F 13) (o_aload 0 (o_iload 1 (o_cW m_X0_isOf 2 (o_ifeq (F 17) (F 13)))))))
def k_X1_isOf_13 (F : FT) (Q : QT) : KT := o_ic (nI 1) (F 18)
def k_X1_isOf_17 (F : FT) (Q : QT) : KT := o_ic (nI 0) (F 18)
def k_X1_isOf_18 (F : FT) (Q : QT) : KT := o_zret Q
set_option maxRecDepth 20000 in
theorem r_X1_isOf {a0 : Nat} {a1 : Int32} {n : Nat} {R : RR} {I : II} {J : JJ} {Q : QT} (hn : n + 0 ≤ 90) (h : ∀ F : FT, al_Wk F → al_Ok F (k_X1_isOf_0 F Q) 0 → al_Ok F (k_X1_isOf_13 F Q) 13 → al_Ok F (k_X1_isOf_17 F Q) 17 → al_Ok F (k_X1_isOf_18 F Q) 18 → F 0 [some (.ref a0), some (.int a1)] [] n R I J) : CT m_X1_isOf 0 [.ref a0, .int a1] n R I J Q :=
  CT.of (by decide) hn (fun _ => rfl) (fun _ => Nat.le_of_ble_eq_true rfl) (fun F p l e s m args below meth c Rm t Q0 C hQ hr hm => h F (fun _ _ _ _ _ _ _ _ => S_wk C)
    (S_iload_n C dX1_isOf_0 rfl (S_iconst C dX1_isOf_1 (by decide +kernel) (S_icmpeq (tgt := 13) C dX1_isOf_2 (by decide) (S_aload_n C dX1_isOf_5 rfl (S_iload_n C dX1_isOf_6 rfl (S_cSU C ok_X0_isOf (al_at 1345 (by decide +kernel) rfl) (al_at 131 (by decide +kernel) rfl) (by decide) (al_at 489 (by decide +kernel) rfl) (Nat.le_of_ble_eq_true rfl) (Nat.le_of_ble_eq_true rfl) dX1_isOf_7 (S_ifeq (tgt := 17) C dX1_isOf_10 (by decide) (fun _ _ _ _ _ _ h9 => h9))))))))
    (S_iconst C dX1_isOf_13 (by decide +kernel) (S_goto (tgt := 18) C dX1_isOf_14 (by decide)))
    (S_iconst C dX1_isOf_17 (by decide +kernel) (fun _ _ _ _ _ _ h9 => h9))
    (S_zret C hQ hr dX1_isOf_18))
theorem dX1_title_0 : decode cX1_title 0 = .ok (.ldc 7, 2) := by decide +kernel
theorem dX1_title_2 : decode cX1_title 2 = .ok (.areturn, 1) := by decide +kernel
def k_X1_title_0 (F : FT) (Q : QT) : KT := o_sc 9 (o_aret Q)
set_option maxRecDepth 20000 in
theorem r_X1_title {a0 : Nat} {n : Nat} {R : RR} {I : II} {J : JJ} {Q : QT} (hn : n + 0 ≤ 90) (h : ∀ F : FT, al_Wk F → al_Ok F (k_X1_title_0 F Q) 0 → F 0 [some (.ref a0)] [] n R I J) : CT m_X1_title 0 [.ref a0] n R I J Q :=
  CT.of (by decide) hn (fun _ => rfl) (fun _ => Nat.le_of_ble_eq_true rfl) (fun F p l e s m args below meth c Rm t Q0 C hQ hr hm => h F (fun _ _ _ _ _ _ _ _ => S_wk C)
    (S_ldcS (tx := "free") C (by decide) dX1_title_0 (by decide +kernel) (S_aret C hQ hr dX1_title_2)))
theorem dX1_weigh_0 : decode cX1_weigh 0 = .ok (.iconst 0, 1) := by decide +kernel
theorem dX1_weigh_1 : decode cX1_weigh 1 = .ok (.aload_n 0, 1) := by decide +kernel
theorem dX1_weigh_2 : decode cX1_weigh 2 = .ok (.iload_n 1, 1) := by decide +kernel
theorem dX1_weigh_3 : decode cX1_weigh 3 = .ok (.iload_n 2, 1) := by decide +kernel
theorem dX1_weigh_4 : decode cX1_weigh 4 = .ok (.iload_n 3, 1) := by decide +kernel
theorem dX1_weigh_5 : decode cX1_weigh 5 = .ok (.invokespecial 13, 3) := by decide +kernel
theorem dX1_weigh_8 : decode cX1_weigh 8 = .ok (.iconst 2, 1) := by decide +kernel
theorem dX1_weigh_9 : decode cX1_weigh 9 = .ok (.isub, 1) := by decide +kernel
theorem dX1_weigh_10 : decode cX1_weigh 10 = .ok (.invokestatic 17, 3) := by decide +kernel
theorem dX1_weigh_13 : decode cX1_weigh 13 = .ok (.ireturn, 1) := by decide +kernel
def k_X1_weigh_0 (F : FT) (Q : QT) : KT := o_ic (nI 0) (o_aload 0 (o_iload 1 (o_iload 2 (o_iload 3 (o_cW m_X0_weigh 4 (o_ic (nI 2) (o_isub (o_mmax (o_iret Q)))))))))
set_option maxRecDepth 20000 in
theorem r_X1_weigh {a0 : Nat} {a1 : Int32} {a2 : Int32} {a3 : Int32} {n : Nat} {R : RR} {I : II} {J : JJ} {Q : QT} (hn : n + 0 ≤ 90) (h : ∀ F : FT, al_Wk F → al_Ok F (k_X1_weigh_0 F Q) 0 → F 0 [some (.ref a0), some (.int a1), some (.int a2), some (.int a3)] [] n R I J) : CT m_X1_weigh 0 [.ref a0, .int a1, .int a2, .int a3] n R I J Q :=
  CT.of (by decide) hn (fun _ => rfl) (fun _ => Nat.le_of_ble_eq_true rfl) (fun F p l e s m args below meth c Rm t Q0 C hQ hr hm => h F (fun _ _ _ _ _ _ _ _ => S_wk C)
    (S_iconst C dX1_weigh_0 (by decide +kernel) (S_aload_n C dX1_weigh_1 rfl (S_iload_n C dX1_weigh_2 rfl (S_iload_n C dX1_weigh_3 rfl (S_iload_n C dX1_weigh_4 rfl (S_cSU C ok_X0_weigh (al_at 1342 (by decide +kernel) rfl) (al_at 131 (by decide +kernel) rfl) (by decide) (al_at 445 (by decide +kernel) rfl) (Nat.le_of_ble_eq_true rfl) (Nat.le_of_ble_eq_true rfl) dX1_weigh_5 (S_iconst C dX1_weigh_8 (by decide +kernel) (S_isub C dX1_weigh_9 (S_mmax C (al_at 446 (by decide +kernel) rfl) (al_at 447 (by decide +kernel) rfl) (al_at 73 (by decide +kernel) rfl) (al_at 448 (by decide +kernel) rfl) (Nat.le_of_ble_eq_true rfl) (Nat.le_of_ble_eq_true rfl) dX1_weigh_10 (S_iret C hQ hr dX1_weigh_13)))))))))))
theorem dX2_addRounded_0 : decode cX2_addRounded 0 = .ok (.aload_n 0, 1) := by decide +kernel
theorem dX2_addRounded_1 : decode cX2_addRounded 1 = .ok (.getfield 28, 3) := by decide +kernel
theorem dX2_addRounded_4 : decode cX2_addRounded 4 = .ok (.bipush 8, 2) := by decide +kernel
theorem dX2_addRounded_6 : decode cX2_addRounded 6 = .ok (.if_icmp .ge 23, 3) := by decide +kernel
theorem dX2_addRounded_9 : decode cX2_addRounded 9 = .ok (.aload_n 0, 1) := by decide +kernel
theorem dX2_addRounded_10 : decode cX2_addRounded 10 = .ok (.getfield 9, 3) := by decide +kernel
theorem dX2_addRounded_13 : decode cX2_addRounded 13 = .ok (.aload_n 0, 1) := by decide +kernel
theorem dX2_addRounded_14 : decode cX2_addRounded 14 = .ok (.getfield 28, 3) := by decide +kernel
theorem dX2_addRounded_17 : decode cX2_addRounded 17 = .ok (.iload_n 1, 1) := by decide +kernel
theorem dX2_addRounded_18 : decode cX2_addRounded 18 = .ok (.iastore, 1) := by decide +kernel
theorem dX2_addRounded_19 : decode cX2_addRounded 19 = .ok (.aload_n 0, 1) := by decide +kernel
theorem dX2_addRounded_20 : decode cX2_addRounded 20 = .ok (.dup, 1) := by decide +kernel
theorem dX2_addRounded_21 : decode cX2_addRounded 21 = .ok (.getfield 28, 3) := by decide +kernel
theorem dX2_addRounded_24 : decode cX2_addRounded 24 = .ok (.iconst 1, 1) := by decide +kernel
theorem dX2_addRounded_25 : decode cX2_addRounded 25 = .ok (.iadd, 1) := by decide +kernel
theorem dX2_addRounded_26 : decode cX2_addRounded 26 = .ok (.putfield 28, 3) := by decide +kernel
theorem dX2_addRounded_29 : decode cX2_addRounded 29 = .ok (.return_, 1) := by decide +kernel
def k_X2_addRounded_0 (F : FT) (Q : QT) : KT := o_aload 0 (o_getI 2 5 (o_ic (nI 8) (o_icge (F 29) (o_aload 0 (o_getR 2 4 (o_aload 0 (o_getI 2 5 (o_iload 1 (o_iast (o_aload 0 (o_dup (o_getI 2 5 (o_ic (nI 1) (o_iadd (o_putI 2 5 (F 29))))))))))))))))
def k_X2_addRounded_29 (F : FT) (Q : QT) : KT := o_vret Q
set_option maxRecDepth 20000 in
theorem r_X2_addRounded {a0 : Nat} {a1 : Int32} {n : Nat} {R : RR} {I : II} {J : JJ} {Q : QT} (hn : n + 0 ≤ 90) (h : ∀ F : FT, al_Wk F → al_Ok F (k_X2_addRounded_0 F Q) 0 → al_Ok F (k_X2_addRounded_29 F Q) 29 → F 0 [some (.ref a0), some (.int a1)] [] n R I J) : CT m_X2_addRounded 0 [.ref a0, .int a1] n R I J Q :=
  CT.of (by decide) hn (fun _ => rfl) (fun _ => Nat.le_of_ble_eq_true rfl) (fun F p l e s m args below meth c Rm t Q0 C hQ hr hm => h F (fun _ _ _ _ _ _ _ _ => S_wk C)
    (S_aload_n C dX2_addRounded_0 rfl (S_getI (ci := 2) (j := 5) C inG2 rfl (Nat.le_of_ble_eq_true rfl) rfl (al_at 156 (by decide +kernel) rfl) dX2_addRounded_1 (S_bipush C dX2_addRounded_4 (by decide +kernel) (S_icmpge (tgt := 29) C dX2_addRounded_6 (by decide) (S_aload_n C dX2_addRounded_9 rfl (S_getR (ci := 2) (j := 4) C inG2 rfl (Nat.le_of_ble_eq_true rfl) rfl (al_at 155 (by decide +kernel) rfl) dX2_addRounded_10 (S_aload_n C dX2_addRounded_13 rfl (S_getI (ci := 2) (j := 5) C inG2 rfl (Nat.le_of_ble_eq_true rfl) rfl (al_at 156 (by decide +kernel) rfl) dX2_addRounded_14 (S_iload_n C dX2_addRounded_17 rfl (S_iast C dX2_addRounded_18 (S_aload_n C dX2_addRounded_19 rfl (S_dup C dX2_addRounded_20 (S_getI (ci := 2) (j := 5) C inG2 rfl (Nat.le_of_ble_eq_true rfl) rfl (al_at 156 (by decide +kernel) rfl) dX2_addRounded_21 (S_iconst C dX2_addRounded_24 (by decide +kernel) (S_iadd C dX2_addRounded_25 (S_putI (ci := 2) (j := 5) C inG2 rfl (Nat.le_of_ble_eq_true rfl) tyX2 tyX2_ok nmX2 rfl rfl (tyX2_ok 5 (Nat.le_of_ble_eq_true rfl)) (al_at 156 (by decide +kernel) rfl) dX2_addRounded_26 (fun _ _ _ _ _ _ h9 => h9)))))))))))))))))
    (S_vret C hQ hr dX2_addRounded_29))
theorem dX2_become_0 : decode cX2_become 0 = .ok (.aload_n 0, 1) := by decide +kernel
theorem dX2_become_1 : decode cX2_become 1 = .ok (.aload_n 1, 1) := by decide +kernel
theorem dX2_become_2 : decode cX2_become 2 = .ok (.getfield 15, 3) := by decide +kernel
theorem dX2_become_5 : decode cX2_become 5 = .ok (.putfield 15, 3) := by decide +kernel
theorem dX2_become_8 : decode cX2_become 8 = .ok (.aload_n 0, 1) := by decide +kernel
theorem dX2_become_9 : decode cX2_become 9 = .ok (.aload_n 1, 1) := by decide +kernel
theorem dX2_become_10 : decode cX2_become 10 = .ok (.getfield 19, 3) := by decide +kernel
theorem dX2_become_13 : decode cX2_become 13 = .ok (.putfield 19, 3) := by decide +kernel
theorem dX2_become_16 : decode cX2_become 16 = .ok (.aload_n 0, 1) := by decide +kernel
theorem dX2_become_17 : decode cX2_become 17 = .ok (.aload_n 1, 1) := by decide +kernel
theorem dX2_become_18 : decode cX2_become 18 = .ok (.getfield 22, 3) := by decide +kernel
theorem dX2_become_21 : decode cX2_become 21 = .ok (.putfield 22, 3) := by decide +kernel
theorem dX2_become_24 : decode cX2_become 24 = .ok (.aload_n 0, 1) := by decide +kernel
theorem dX2_become_25 : decode cX2_become 25 = .ok (.aload_n 1, 1) := by decide +kernel
theorem dX2_become_26 : decode cX2_become 26 = .ok (.getfield 25, 3) := by decide +kernel
theorem dX2_become_29 : decode cX2_become 29 = .ok (.putfield 25, 3) := by decide +kernel
theorem dX2_become_32 : decode cX2_become 32 = .ok (.aload_n 0, 1) := by decide +kernel
theorem dX2_become_33 : decode cX2_become 33 = .ok (.aload_n 1, 1) := by decide +kernel
theorem dX2_become_34 : decode cX2_become 34 = .ok (.getfield 28, 3) := by decide +kernel
theorem dX2_become_37 : decode cX2_become 37 = .ok (.putfield 28, 3) := by decide +kernel
theorem dX2_become_40 : decode cX2_become 40 = .ok (.aload_n 1, 1) := by decide +kernel
theorem dX2_become_41 : decode cX2_become 41 = .ok (.getfield 9, 3) := by decide +kernel
theorem dX2_become_44 : decode cX2_become 44 = .ok (.iconst 0, 1) := by decide +kernel
theorem dX2_become_45 : decode cX2_become 45 = .ok (.aload_n 0, 1) := by decide +kernel
theorem dX2_become_46 : decode cX2_become 46 = .ok (.getfield 9, 3) := by decide +kernel
theorem dX2_become_49 : decode cX2_become 49 = .ok (.iconst 0, 1) := by decide +kernel
theorem dX2_become_50 : decode cX2_become 50 = .ok (.bipush 8, 2) := by decide +kernel
theorem dX2_become_52 : decode cX2_become 52 = .ok (.invokestatic 31, 3) := by decide +kernel
theorem dX2_become_55 : decode cX2_become 55 = .ok (.return_, 1) := by decide +kernel
def k_X2_become_0 (F : FT) (Q : QT) : KT := o_aload 0 (o_aload 1 (o_getI 2 0 (o_putI 2 0 (o_aload 0 (o_aload 1 (o_getI 2 1 (o_putI 2 1 (o_aload 0 (o_aload 1 (o_getI 2 2 (o_putI 2 2 (o_aload 0 (o_aload 1 (o_getI 2 3 (o_putI 2 3 (o_aload 0 (o_aload 1 (o_getI 2 5 (o_putI 2 5 (o_aload 1 (o_getR 2 4 (o_ic (nI 0) (o_aload 0 (o_getR 2 4 (o_ic (nI 0) (o_ic (nI 8) (o_cpyI (o_vret Q))))))))))))))))))))))))))))
set_option maxRecDepth 20000 in
theorem r_X2_become {a0 : Nat} {a1 : Nat} {n : Nat} {R : RR} {I : II} {J : JJ} {Q : QT} (hn : n + 0 ≤ 90) (h90 : n = 90) (h : ∀ F : FT, al_Wk F → al_Ok F (k_X2_become_0 F Q) 0 → F 0 [some (.ref a0), some (.ref a1)] [] n R I J) : CT m_X2_become 0 [.ref a0, .ref a1] n R I J Q :=
  CT.of (by decide) hn (fun _ => rfl) (fun _ => Nat.le_of_ble_eq_true rfl) (fun F p l e s m args below meth c Rm t Q0 C hQ hr hm => h F (fun _ _ _ _ _ _ _ _ => S_wk C)
    (S_aload_n C dX2_become_0 rfl (S_aload_n C dX2_become_1 rfl (S_getI (ci := 2) (j := 0) C inG2 rfl (Nat.le_of_ble_eq_true rfl) rfl (al_at 145 (by decide +kernel) rfl) dX2_become_2 (S_putI (ci := 2) (j := 0) C inG2 rfl (Nat.le_of_ble_eq_true rfl) tyX2 tyX2_ok nmX2 rfl rfl (tyX2_ok 0 (Nat.le_of_ble_eq_true rfl)) (al_at 145 (by decide +kernel) rfl) dX2_become_5 (S_aload_n C dX2_become_8 rfl (S_aload_n C dX2_become_9 rfl (S_getI (ci := 2) (j := 1) C inG2 rfl (Nat.le_of_ble_eq_true rfl) rfl (al_at 148 (by decide +kernel) rfl) dX2_become_10 (S_putI (ci := 2) (j := 1) C inG2 rfl (Nat.le_of_ble_eq_true rfl) tyX2 tyX2_ok nmX2 rfl rfl (tyX2_ok 1 (Nat.le_of_ble_eq_true rfl)) (al_at 148 (by decide +kernel) rfl) dX2_become_13 (S_aload_n C dX2_become_16 rfl (S_aload_n C dX2_become_17 rfl (S_getI (ci := 2) (j := 2) C inG2 rfl (Nat.le_of_ble_eq_true rfl) rfl (al_at 150 (by decide +kernel) rfl) dX2_become_18 (S_putI (ci := 2) (j := 2) C inG2 rfl (Nat.le_of_ble_eq_true rfl) tyX2 tyX2_ok nmX2 rfl rfl (tyX2_ok 2 (Nat.le_of_ble_eq_true rfl)) (al_at 150 (by decide +kernel) rfl) dX2_become_21 (S_aload_n C dX2_become_24 rfl (S_aload_n C dX2_become_25 rfl (S_getI (ci := 2) (j := 3) C inG2 rfl (Nat.le_of_ble_eq_true rfl) rfl (al_at 153 (by decide +kernel) rfl) dX2_become_26 (S_putI (ci := 2) (j := 3) C inG2 rfl (Nat.le_of_ble_eq_true rfl) tyX2 tyX2_ok nmX2 rfl rfl (tyX2_ok 3 (Nat.le_of_ble_eq_true rfl)) (al_at 153 (by decide +kernel) rfl) dX2_become_29 (S_aload_n C dX2_become_32 rfl (S_aload_n C dX2_become_33 rfl (S_getI (ci := 2) (j := 5) C inG2 rfl (Nat.le_of_ble_eq_true rfl) rfl (al_at 156 (by decide +kernel) rfl) dX2_become_34 (S_putI (ci := 2) (j := 5) C inG2 rfl (Nat.le_of_ble_eq_true rfl) tyX2 tyX2_ok nmX2 rfl rfl (tyX2_ok 5 (Nat.le_of_ble_eq_true rfl)) (al_at 156 (by decide +kernel) rfl) dX2_become_37 (S_aload_n C dX2_become_40 rfl (S_getR (ci := 2) (j := 4) C inG2 rfl (Nat.le_of_ble_eq_true rfl) rfl (al_at 155 (by decide +kernel) rfl) dX2_become_41 (S_iconst C dX2_become_44 (by decide +kernel) (S_aload_n C dX2_become_45 rfl (S_getR (ci := 2) (j := 4) C inG2 rfl (Nat.le_of_ble_eq_true rfl) rfl (al_at 155 (by decide +kernel) rfl) dX2_become_46 (S_iconst C dX2_become_49 (by decide +kernel) (S_bipush C dX2_become_50 (by decide +kernel) (S_cpyI C h90 (al_at 695 (by decide +kernel) rfl) (al_at 690 (by decide +kernel) rfl) (al_at 689 (by decide +kernel) rfl) (al_at 76 (by decide +kernel) rfl) (Nat.le_of_ble_eq_true rfl) (Nat.le_of_ble_eq_true rfl) dX2_become_52 (S_vret C hQ hr dX2_become_55))))))))))))))))))))))))))))))
theorem dX2_begin_0 : decode cX2_begin 0 = .ok (.aload_n 0, 1) := by decide +kernel
theorem dX2_begin_1 : decode cX2_begin 1 = .ok (.iload_n 1, 1) := by decide +kernel
theorem dX2_begin_2 : decode cX2_begin 2 = .ok (.putfield 15, 3) := by decide +kernel
theorem dX2_begin_5 : decode cX2_begin 5 = .ok (.aload_n 0, 1) := by decide +kernel
theorem dX2_begin_6 : decode cX2_begin 6 = .ok (.iload_n 2, 1) := by decide +kernel
theorem dX2_begin_7 : decode cX2_begin 7 = .ok (.putfield 19, 3) := by decide +kernel
theorem dX2_begin_10 : decode cX2_begin 10 = .ok (.aload_n 0, 1) := by decide +kernel
theorem dX2_begin_11 : decode cX2_begin 11 = .ok (.iconst 0, 1) := by decide +kernel
theorem dX2_begin_12 : decode cX2_begin 12 = .ok (.putfield 22, 3) := by decide +kernel
theorem dX2_begin_15 : decode cX2_begin 15 = .ok (.aload_n 0, 1) := by decide +kernel
theorem dX2_begin_16 : decode cX2_begin 16 = .ok (.iconst 0, 1) := by decide +kernel
theorem dX2_begin_17 : decode cX2_begin 17 = .ok (.putfield 25, 3) := by decide +kernel
theorem dX2_begin_20 : decode cX2_begin 20 = .ok (.aload_n 0, 1) := by decide +kernel
theorem dX2_begin_21 : decode cX2_begin 21 = .ok (.iconst 0, 1) := by decide +kernel
theorem dX2_begin_22 : decode cX2_begin 22 = .ok (.putfield 28, 3) := by decide +kernel
theorem dX2_begin_25 : decode cX2_begin 25 = .ok (.return_, 1) := by decide +kernel
def k_X2_begin_0 (F : FT) (Q : QT) : KT := o_aload 0 (o_iload 1 (o_putI 2 0 (o_aload 0 (o_iload 2 (o_putI 2 1 (o_aload 0 (o_ic (nI 0) (o_putI 2 2 (o_aload 0 (o_ic (nI 0) (o_putI 2 3 (o_aload 0 (o_ic (nI 0) (o_putI 2 5 (o_vret Q)))))))))))))))
set_option maxRecDepth 20000 in
theorem r_X2_begin {a0 : Nat} {a1 : Int32} {a2 : Int32} {n : Nat} {R : RR} {I : II} {J : JJ} {Q : QT} (hn : n + 0 ≤ 90) (h : ∀ F : FT, al_Wk F → al_Ok F (k_X2_begin_0 F Q) 0 → F 0 [some (.ref a0), some (.int a1), some (.int a2)] [] n R I J) : CT m_X2_begin 0 [.ref a0, .int a1, .int a2] n R I J Q :=
  CT.of (by decide) hn (fun _ => rfl) (fun _ => Nat.le_of_ble_eq_true rfl) (fun F p l e s m args below meth c Rm t Q0 C hQ hr hm => h F (fun _ _ _ _ _ _ _ _ => S_wk C)
    (S_aload_n C dX2_begin_0 rfl (S_iload_n C dX2_begin_1 rfl (S_putI (ci := 2) (j := 0) C inG2 rfl (Nat.le_of_ble_eq_true rfl) tyX2 tyX2_ok nmX2 rfl rfl (tyX2_ok 0 (Nat.le_of_ble_eq_true rfl)) (al_at 145 (by decide +kernel) rfl) dX2_begin_2 (S_aload_n C dX2_begin_5 rfl (S_iload_n C dX2_begin_6 rfl (S_putI (ci := 2) (j := 1) C inG2 rfl (Nat.le_of_ble_eq_true rfl) tyX2 tyX2_ok nmX2 rfl rfl (tyX2_ok 1 (Nat.le_of_ble_eq_true rfl)) (al_at 148 (by decide +kernel) rfl) dX2_begin_7 (S_aload_n C dX2_begin_10 rfl (S_iconst C dX2_begin_11 (by decide +kernel) (S_putI (ci := 2) (j := 2) C inG2 rfl (Nat.le_of_ble_eq_true rfl) tyX2 tyX2_ok nmX2 rfl rfl (tyX2_ok 2 (Nat.le_of_ble_eq_true rfl)) (al_at 150 (by decide +kernel) rfl) dX2_begin_12 (S_aload_n C dX2_begin_15 rfl (S_iconst C dX2_begin_16 (by decide +kernel) (S_putI (ci := 2) (j := 3) C inG2 rfl (Nat.le_of_ble_eq_true rfl) tyX2 tyX2_ok nmX2 rfl rfl (tyX2_ok 3 (Nat.le_of_ble_eq_true rfl)) (al_at 153 (by decide +kernel) rfl) dX2_begin_17 (S_aload_n C dX2_begin_20 rfl (S_iconst C dX2_begin_21 (by decide +kernel) (S_putI (ci := 2) (j := 5) C inG2 rfl (Nat.le_of_ble_eq_true rfl) tyX2 tyX2_ok nmX2 rfl rfl (tyX2_ok 5 (Nat.le_of_ble_eq_true rfl)) (al_at 156 (by decide +kernel) rfl) dX2_begin_22 (S_vret C hQ hr dX2_begin_25)))))))))))))))))
theorem dX2_init_0 : decode cX2_init 0 = .ok (.aload_n 0, 1) := by decide +kernel
theorem dX2_init_1 : decode cX2_init 1 = .ok (.invokespecial 3, 3) := by decide +kernel
theorem dX2_init_4 : decode cX2_init 4 = .ok (.aload_n 0, 1) := by decide +kernel
theorem dX2_init_5 : decode cX2_init 5 = .ok (.bipush 8, 2) := by decide +kernel
theorem dX2_init_7 : decode cX2_init 7 = .ok (.newarray .int, 2) := by decide +kernel
theorem dX2_init_9 : decode cX2_init 9 = .ok (.putfield 9, 3) := by decide +kernel
theorem dX2_init_12 : decode cX2_init 12 = .ok (.return_, 1) := by decide +kernel
def k_X2_init_0 (F : FT) (Q : QT) (ne : Nat) : KT := o_aload 0 (o_oinit (o_aload 0 (o_ic (nI 8) (o_newa ne 0 8 (o_putR 2 4 (o_cret ne Q))))))
set_option maxRecDepth 20000 in
theorem r_X2_init {a0 : Nat} {n : Nat} {R : RR} {I : II} {J : JJ} {Q : QT} (hn : n + 1 ≤ 90) (h : ∀ F : FT, al_Wk F → al_Ok F (k_X2_init_0 F Q (n + 1)) 0 → F 0 [some (.ref a0)] [] n R I J) : CT m_X2_init 1 [.ref a0] n R I J Q :=
  CT.of (by decide) hn (fun _ => rfl) (fun _ => Nat.le_of_ble_eq_true rfl) (fun F p l e s m args below meth c Rm t Q0 C hQ hr hm => h F (fun _ _ _ _ _ _ _ _ => S_wk C)
    (S_aload_n C dX2_init_0 rfl (S_oinit C (al_at 144 (by decide +kernel) rfl) (al_at 87 (by decide +kernel) rfl) (al_at 88 (by decide +kernel) rfl) (Nat.le_of_ble_eq_true rfl) (Nat.le_of_ble_eq_true rfl) dX2_init_1 (S_aload_n C dX2_init_4 rfl (S_bipush C dX2_init_5 (by decide +kernel) (S_newa0 C (al_at 171 (by decide +kernel) rfl) dX2_init_7 (S_putR (ci := 2) (j := 4) C inG2 rfl (Nat.le_of_ble_eq_true rfl) tyX2 tyX2_ok nmX2 rfl rfl (tyX2_ok 4 (Nat.le_of_ble_eq_true rfl)) (Or.inr ⟨_, rfl⟩) hm rfl (al_at 155 (by decide +kernel) rfl) dX2_init_9 (S_cret C hQ hr dX2_init_12))))))))
theorem dX2_isRounded_0 : decode cX2_isRounded 0 = .ok (.iconst 0, 1) := by decide +kernel
theorem dX2_isRounded_1 : decode cX2_isRounded 1 = .ok (.istore_n 2, 1) := by decide +kernel
theorem dX2_isRounded_2 : decode cX2_isRounded 2 = .ok (.iload_n 2, 1) := by decide +kernel
theorem dX2_isRounded_3 : decode cX2_isRounded 3 = .ok (.aload_n 0, 1) := by decide +kernel
theorem dX2_isRounded_4 : decode cX2_isRounded 4 = .ok (.getfield 28, 3) := by decide +kernel
theorem dX2_isRounded_7 : decode cX2_isRounded 7 = .ok (.if_icmp .ge 21, 3) := by decide +kernel
theorem dX2_isRounded_10 : decode cX2_isRounded 10 = .ok (.aload_n 0, 1) := by decide +kernel
theorem dX2_isRounded_11 : decode cX2_isRounded 11 = .ok (.getfield 9, 3) := by decide +kernel
theorem dX2_isRounded_14 : decode cX2_isRounded 14 = .ok (.iload_n 2, 1) := by decide +kernel
theorem dX2_isRounded_15 : decode cX2_isRounded 15 = .ok (.iaload, 1) := by decide +kernel
theorem dX2_isRounded_16 : decode cX2_isRounded 16 = .ok (.iload_n 1, 1) := by decide +kernel
theorem dX2_isRounded_17 : decode cX2_isRounded 17 = .ok (.if_icmp .ne 5, 3) := by decide +kernel
theorem dX2_isRounded_20 : decode cX2_isRounded 20 = .ok (.iconst 1, 1) := by decide +kernel
theorem dX2_isRounded_21 : decode cX2_isRounded 21 = .ok (.ireturn, 1) := by decide +kernel
theorem dX2_isRounded_22 : decode cX2_isRounded 22 = .ok (.iinc 2 1, 3) := by decide +kernel
theorem dX2_isRounded_25 : decode cX2_isRounded 25 = .ok (.goto (-23), 3) := by decide +kernel
theorem dX2_isRounded_28 : decode cX2_isRounded 28 = .ok (.iconst 0, 1) := by decide +kernel
theorem dX2_isRounded_29 : decode cX2_isRounded 29 = .ok (.ireturn, 1) := by decide +kernel
def k_X2_isRounded_0 (F : FT) (Q : QT) : KT := o_ic (nI 0) (o_istore 2 (F 2))
def k_X2_isRounded_2 (F : FT) (Q : QT) : KT := o_iload 2 (o_aload 0 (o_getI 2 5 (o_icge (F 28) (o_aload 0 (o_getR 2 4 (o_iload 2 (o_iald (o_iload 1 (o_icne (F 22) (o_ic (nI 1) (o_zret Q)))))))))))
def k_X2_isRounded_22 (F : FT) (Q : QT) : KT := o_iinc 2 (nI 1) (F 2)
def k_X2_isRounded_28 (F : FT) (Q : QT) : KT := o_ic (nI 0) (o_zret Q)
set_option maxRecDepth 20000 in
theorem r_X2_isRounded {a0 : Nat} {a1 : Int32} {n : Nat} {R : RR} {I : II} {J : JJ} {Q : QT} (hn : n + 0 ≤ 90) (h : ∀ F : FT, al_Wk F → al_Ok F (k_X2_isRounded_0 F Q) 0 → al_Ok F (k_X2_isRounded_2 F Q) 2 → al_Ok F (k_X2_isRounded_22 F Q) 22 → al_Ok F (k_X2_isRounded_28 F Q) 28 → F 0 [some (.ref a0), some (.int a1), none] [] n R I J) : CT m_X2_isRounded 0 [.ref a0, .int a1] n R I J Q :=
  CT.of (by decide) hn (fun _ => rfl) (fun _ => Nat.le_of_ble_eq_true rfl) (fun F p l e s m args below meth c Rm t Q0 C hQ hr hm => h F (fun _ _ _ _ _ _ _ _ => S_wk C)
    (S_iconst C dX2_isRounded_0 (by decide +kernel) (S_istore_n C dX2_isRounded_1 rfl (Nat.le_of_ble_eq_true rfl) (fun _ _ _ _ _ _ h9 => h9)))
    (S_iload_n C dX2_isRounded_2 rfl (S_aload_n C dX2_isRounded_3 rfl (S_getI (ci := 2) (j := 5) C inG2 rfl (Nat.le_of_ble_eq_true rfl) rfl (al_at 156 (by decide +kernel) rfl) dX2_isRounded_4 (S_icmpge (tgt := 28) C dX2_isRounded_7 (by decide) (S_aload_n C dX2_isRounded_10 rfl (S_getR (ci := 2) (j := 4) C inG2 rfl (Nat.le_of_ble_eq_true rfl) rfl (al_at 155 (by decide +kernel) rfl) dX2_isRounded_11 (S_iload_n C dX2_isRounded_14 rfl (S_iald C dX2_isRounded_15 (S_iload_n C dX2_isRounded_16 rfl (S_icmpne (tgt := 22) C dX2_isRounded_17 (by decide) (S_iconst C dX2_isRounded_20 (by decide +kernel) (S_zret C hQ hr dX2_isRounded_21))))))))))))
    (S_iinc C dX2_isRounded_22 (by decide +kernel) (Nat.le_of_ble_eq_true rfl) (S_goto (tgt := 2) C dX2_isRounded_25 (by decide)))
    (S_iconst C dX2_isRounded_28 (by decide +kernel) (S_zret C hQ hr dX2_isRounded_29)))
theorem dX3_init_0 : decode cX3_init 0 = .ok (.aload_n 0, 1) := by decide +kernel
theorem dX3_init_1 : decode cX3_init 1 = .ok (.invokespecial 1, 3) := by decide +kernel
theorem dX3_init_4 : decode cX3_init 4 = .ok (.return_, 1) := by decide +kernel
def k_X3_init_0 (F : FT) (Q : QT) (ne : Nat) : KT := o_aload 0 (o_oinit (o_cret ne Q))
set_option maxRecDepth 20000 in
theorem r_X3_init {a0 : Nat} {n : Nat} {R : RR} {I : II} {J : JJ} {Q : QT} (hn : n + 0 ≤ 90) (h : ∀ F : FT, al_Wk F → al_Ok F (k_X3_init_0 F Q (n + 0)) 0 → F 0 [some (.ref a0)] [] n R I J) : CT m_X3_init 0 [.ref a0] n R I J Q :=
  CT.of (by decide) hn (fun _ => rfl) (fun _ => Nat.le_of_ble_eq_true rfl) (fun F p l e s m args below meth c Rm t Q0 C hQ hr hm => h F (fun _ _ _ _ _ _ _ _ => S_wk C)
    (S_aload_n C dX3_init_0 rfl (S_oinit C (al_at 95 (by decide +kernel) rfl) (al_at 87 (by decide +kernel) rfl) (al_at 88 (by decide +kernel) rfl) (Nat.le_of_ble_eq_true rfl) (Nat.le_of_ble_eq_true rfl) dX3_init_1 (S_cret C hQ hr dX3_init_4))))
theorem dX3_isOf_0 : decode cX3_isOf 0 = .ok (.iload_n 1, 1) := by decide +kernel
theorem dX3_isOf_1 : decode cX3_isOf 1 = .ok (.ifCond .ne 7, 3) := by decide +kernel
theorem dX3_isOf_4 : decode cX3_isOf 4 = .ok (.iconst 1, 1) := by decide +kernel
theorem dX3_isOf_5 : decode cX3_isOf 5 = .ok (.goto 4, 3) := by decide +kernel
theorem dX3_isOf_8 : decode cX3_isOf 8 = .ok (.iconst 0, 1) := by decide +kernel
theorem dX3_isOf_9 : decode cX3_isOf 9 = .ok (.ireturn, 1) := by decide +kernel
def k_X3_isOf_0 (F : FT) (Q : QT) : KT := o_iload 1 (o_ifne (F 8) (o_ic (nI 1) (F 9)))
def k_X3_isOf_8 (F : FT) (Q : QT) : KT := o_ic (nI 0) (F 9)
def k_X3_isOf_9 (F : FT) (Q : QT) : KT := o_zret Q
set_option maxRecDepth 20000 in
theorem r_X3_isOf {a0 : Nat} {a1 : Int32} {n : Nat} {R : RR} {I : II} {J : JJ} {Q : QT} (hn : n + 0 ≤ 90) (h : ∀ F : FT, al_Wk F → al_Ok F (k_X3_isOf_0 F Q) 0 → al_Ok F (k_X3_isOf_8 F Q) 8 → al_Ok F (k_X3_isOf_9 F Q) 9 → F 0 [some (.ref a0), some (.int a1)] [] n R I J) : CT m_X3_isOf 0 [.ref a0, .int a1] n R I J Q :=
  CT.of (by decide) hn (fun _ => rfl) (fun _ => Nat.le_of_ble_eq_true rfl) (fun F p l e s m args below meth c Rm t Q0 C hQ hr hm => h F (fun _ _ _ _ _ _ _ _ => S_wk C)
    (S_iload_n C dX3_isOf_0 rfl (S_ifne (tgt := 8) C dX3_isOf_1 (by decide) (S_iconst C dX3_isOf_4 (by decide +kernel) (S_goto (tgt := 9) C dX3_isOf_5 (by decide)))))
    (S_iconst C dX3_isOf_8 (by decide +kernel) (fun _ _ _ _ _ _ h9 => h9))
    (S_zret C hQ hr dX3_isOf_9))
theorem dX3_title_0 : decode cX3_title 0 = .ok (.ldc 7, 2) := by decide +kernel
theorem dX3_title_2 : decode cX3_title 2 = .ok (.areturn, 1) := by decide +kernel
def k_X3_title_0 (F : FT) (Q : QT) : KT := o_sc 4 (o_aret Q)
set_option maxRecDepth 20000 in
theorem r_X3_title {a0 : Nat} {n : Nat} {R : RR} {I : II} {J : JJ} {Q : QT} (hn : n + 0 ≤ 90) (h : ∀ F : FT, al_Wk F → al_Ok F (k_X3_title_0 F Q) 0 → F 0 [some (.ref a0)] [] n R I J) : CT m_X3_title 0 [.ref a0] n R I J Q :=
  CT.of (by decide) hn (fun _ => rfl) (fun _ => Nat.le_of_ble_eq_true rfl) (fun F p l e s m args below meth c Rm t Q0 C hQ hr hm => h F (fun _ _ _ _ _ _ _ _ => S_wk C)
    (S_ldcS (tx := "law") C (by decide) dX3_title_0 (by decide +kernel) (S_aret C hQ hr dX3_title_2)))
theorem dX3_weigh_0 : decode cX3_weigh 0 = .ok (.iconst 1, 1) := by decide +kernel
theorem dX3_weigh_1 : decode cX3_weigh 1 = .ok (.ireturn, 1) := by decide +kernel
def k_X3_weigh_0 (F : FT) (Q : QT) : KT := o_ic (nI 1) (o_iret Q)
set_option maxRecDepth 20000 in
theorem r_X3_weigh {a0 : Nat} {a1 : Int32} {a2 : Int32} {a3 : Int32} {n : Nat} {R : RR} {I : II} {J : JJ} {Q : QT} (hn : n + 0 ≤ 90) (h : ∀ F : FT, al_Wk F → al_Ok F (k_X3_weigh_0 F Q) 0 → F 0 [some (.ref a0), some (.int a1), some (.int a2), some (.int a3)] [] n R I J) : CT m_X3_weigh 0 [.ref a0, .int a1, .int a2, .int a3] n R I J Q :=
  CT.of (by decide) hn (fun _ => rfl) (fun _ => Nat.le_of_ble_eq_true rfl) (fun F p l e s m args below meth c Rm t Q0 C hQ hr hm => h F (fun _ _ _ _ _ _ _ _ => S_wk C)
    (S_iconst C dX3_weigh_0 (by decide +kernel) (S_iret C hQ hr dX3_weigh_1)))
theorem dX4_init_0 : decode cX4_init 0 = .ok (.aload_n 0, 1) := by decide +kernel
theorem dX4_init_1 : decode cX4_init 1 = .ok (.invokespecial 1, 3) := by decide +kernel
theorem dX4_init_4 : decode cX4_init 4 = .ok (.return_, 1) := by decide +kernel
def k_X4_init_0 (F : FT) (Q : QT) (ne : Nat) : KT := o_aload 0 (o_cI ne m_X6_init 0 1 (o_cret ne Q))
set_option maxRecDepth 20000 in
theorem r_X4_init {a0 : Nat} {n : Nat} {R : RR} {I : II} {J : JJ} {Q : QT} (hn : n + 0 ≤ 90) (h : ∀ F : FT, al_Wk F → al_Ok F (k_X4_init_0 F Q (n + 0)) 0 → F 0 [some (.ref a0)] [] n R I J) : CT m_X4_init 0 [.ref a0] n R I J Q :=
  CT.of (by decide) hn (fun _ => rfl) (fun _ => Nat.le_of_ble_eq_true rfl) (fun F p l e s m args below meth c Rm t Q0 C hQ hr hm => h F (fun _ _ _ _ _ _ _ _ => S_wk C)
    (S_aload_n C dX4_init_0 rfl (S_cI C ok_X6_init (al_at 123 (by decide +kernel) rfl) (Nat.le_of_ble_eq_true rfl) (Nat.le_of_ble_eq_true rfl) dX4_init_1 (S_cret C hQ hr dX4_init_4))))
theorem dX4_isOf_0 : decode cX4_isOf 0 = .ok (.iload_n 1, 1) := by decide +kernel
theorem dX4_isOf_1 : decode cX4_isOf 1 = .ok (.iconst 4, 1) := by decide +kernel
theorem dX4_isOf_2 : decode cX4_isOf 2 = .ok (.if_icmp .eq 11, 3) := by decide +kernel
theorem dX4_isOf_5 : decode cX4_isOf 5 = .ok (.aload_n 0, 1) := by decide +kernel
theorem dX4_isOf_6 : decode cX4_isOf 6 = .ok (.iload_n 1, 1) := by decide +kernel
theorem dX4_isOf_7 : decode cX4_isOf 7 = .ok (.invokespecial 9, 3) := by decide +kernel
theorem dX4_isOf_10 : decode cX4_isOf 10 = .ok (.ifCond .eq 7, 3) := by decide +kernel
theorem dX4_isOf_13 : decode cX4_isOf 13 = .ok (.iconst 1, 1) := by decide +kernel
theorem dX4_isOf_14 : decode cX4_isOf 14 = .ok (.goto 4, 3) := by decide +kernel
theorem dX4_isOf_17 : decode cX4_isOf 17 = .ok (.iconst 0, 1) := by decide +kernel
theorem dX4_isOf_18 : decode cX4_isOf 18 = .ok (.ireturn, 1) := by decide +kernel
def k_X4_isOf_0 (F : FT) (Q : QT) : KT := o_iload 1 (o_ic (nI 4) (o_iceq (F 13) (o_aload 0 (o_iload 1 (o_cW m_X6_isOf 2 (o_ifeq (F 17) (F 13)))))))
def k_X4_isOf_13 (F : FT) (Q : QT) : KT := o_ic (nI 1) (F 18)
def k_X4_isOf_17 (F : FT) (Q : QT) : KT := o_ic (nI 0) (F 18)
def k_X4_isOf_18 (F : FT) (Q : QT) : KT := o_zret Q
set_option maxRecDepth 20000 in
theorem r_X4_isOf {a0 : Nat} {a1 : Int32} {n : Nat} {R : RR} {I : II} {J : JJ} {Q : QT} (hn : n + 0 ≤ 90) (h : ∀ F : FT, al_Wk F → al_Ok F (k_X4_isOf_0 F Q) 0 → al_Ok F (k_X4_isOf_13 F Q) 13 → al_Ok F (k_X4_isOf_17 F Q) 17 → al_Ok F (k_X4_isOf_18 F Q) 18 → F 0 [some (.ref a0), some (.int a1)] [] n R I J) : CT m_X4_isOf 0 [.ref a0, .int a1] n R I J Q :=
  CT.of (by decide) hn (fun _ => rfl) (fun _ => Nat.le_of_ble_eq_true rfl) (fun F p l e s m args below meth c Rm t Q0 C hQ hr hm => h F (fun _ _ _ _ _ _ _ _ => S_wk C)
    (S_iload_n C dX4_isOf_0 rfl (S_iconst C dX4_isOf_1 (by decide +kernel) (S_icmpeq (tgt := 13) C dX4_isOf_2 (by decide) (S_aload_n C dX4_isOf_5 rfl (S_iload_n C dX4_isOf_6 rfl (S_cSU C ok_X6_isOf (al_at 1346 (by decide +kernel) rfl) (al_at 124 (by decide +kernel) rfl) (by decide) (al_at 493 (by decide +kernel) rfl) (Nat.le_of_ble_eq_true rfl) (Nat.le_of_ble_eq_true rfl) dX4_isOf_7 (S_ifeq (tgt := 17) C dX4_isOf_10 (by decide) (fun _ _ _ _ _ _ h9 => h9))))))))
    (S_iconst C dX4_isOf_13 (by decide +kernel) (S_goto (tgt := 18) C dX4_isOf_14 (by decide)))
    (S_iconst C dX4_isOf_17 (by decide +kernel) (fun _ _ _ _ _ _ h9 => h9))
    (S_zret C hQ hr dX4_isOf_18))
theorem dX4_title_0 : decode cX4_title 0 = .ok (.ldc 7, 2) := by decide +kernel
theorem dX4_title_2 : decode cX4_title 2 = .ok (.areturn, 1) := by decide +kernel
def k_X4_title_0 (F : FT) (Q : QT) : KT := o_sc 8 (o_aret Q)
set_option maxRecDepth 20000 in
theorem r_X4_title {a0 : Nat} {n : Nat} {R : RR} {I : II} {J : JJ} {Q : QT} (hn : n + 0 ≤ 90) (h : ∀ F : FT, al_Wk F → al_Ok F (k_X4_title_0 F Q) 0 → F 0 [some (.ref a0)] [] n R I J) : CT m_X4_title 0 [.ref a0] n R I J Q :=
  CT.of (by decide) hn (fun _ => rfl) (fun _ => Nat.le_of_ble_eq_true rfl) (fun F p l e s m args below meth c Rm t Q0 C hQ hr hm => h F (fun _ _ _ _ _ _ _ _ => S_wk C)
    (S_ldcS (tx := "old") C (by decide) dX4_title_0 (by decide +kernel) (S_aret C hQ hr dX4_title_2)))
theorem dX4_weigh_0 : decode cX4_weigh 0 = .ok (.iconst 2, 1) := by decide +kernel
theorem dX4_weigh_1 : decode cX4_weigh 1 = .ok (.aload_n 0, 1) := by decide +kernel
theorem dX4_weigh_2 : decode cX4_weigh 2 = .ok (.iload_n 1, 1) := by decide +kernel
theorem dX4_weigh_3 : decode cX4_weigh 3 = .ok (.iload_n 2, 1) := by decide +kernel
theorem dX4_weigh_4 : decode cX4_weigh 4 = .ok (.iload_n 3, 1) := by decide +kernel
theorem dX4_weigh_5 : decode cX4_weigh 5 = .ok (.invokespecial 13, 3) := by decide +kernel
theorem dX4_weigh_8 : decode cX4_weigh 8 = .ok (.imul, 1) := by decide +kernel
theorem dX4_weigh_9 : decode cX4_weigh 9 = .ok (.ireturn, 1) := by decide +kernel
def k_X4_weigh_0 (F : FT) (Q : QT) : KT := o_ic (nI 2) (o_aload 0 (o_iload 1 (o_iload 2 (o_iload 3 (o_cW m_X6_weigh 4 (o_imul (o_iret Q)))))))
set_option maxRecDepth 20000 in
theorem r_X4_weigh {a0 : Nat} {a1 : Int32} {a2 : Int32} {a3 : Int32} {n : Nat} {R : RR} {I : II} {J : JJ} {Q : QT} (hn : n + 0 ≤ 90) (h : ∀ F : FT, al_Wk F → al_Ok F (k_X4_weigh_0 F Q) 0 → F 0 [some (.ref a0), some (.int a1), some (.int a2), some (.int a3)] [] n R I J) : CT m_X4_weigh 0 [.ref a0, .int a1, .int a2, .int a3] n R I J Q :=
  CT.of (by decide) hn (fun _ => rfl) (fun _ => Nat.le_of_ble_eq_true rfl) (fun F p l e s m args below meth c Rm t Q0 C hQ hr hm => h F (fun _ _ _ _ _ _ _ _ => S_wk C)
    (S_iconst C dX4_weigh_0 (by decide +kernel) (S_aload_n C dX4_weigh_1 rfl (S_iload_n C dX4_weigh_2 rfl (S_iload_n C dX4_weigh_3 rfl (S_iload_n C dX4_weigh_4 rfl (S_cSU C ok_X6_weigh (al_at 1343 (by decide +kernel) rfl) (al_at 124 (by decide +kernel) rfl) (by decide) (al_at 452 (by decide +kernel) rfl) (Nat.le_of_ble_eq_true rfl) (Nat.le_of_ble_eq_true rfl) dX4_weigh_5 (S_imul C dX4_weigh_8 (S_iret C hQ hr dX4_weigh_9)))))))))
theorem dX5_init_0 : decode cX5_init 0 = .ok (.aload_n 0, 1) := by decide +kernel
theorem dX5_init_1 : decode cX5_init 1 = .ok (.invokespecial 1, 3) := by decide +kernel
theorem dX5_init_4 : decode cX5_init 4 = .ok (.return_, 1) := by decide +kernel
def k_X5_init_0 (F : FT) (Q : QT) (ne : Nat) : KT := o_aload 0 (o_cI ne m_X3_init 0 1 (o_cret ne Q))
set_option maxRecDepth 20000 in
theorem r_X5_init {a0 : Nat} {n : Nat} {R : RR} {I : II} {J : JJ} {Q : QT} (hn : n + 0 ≤ 90) (h : ∀ F : FT, al_Wk F → al_Ok F (k_X5_init_0 F Q (n + 0)) 0 → F 0 [some (.ref a0)] [] n R I J) : CT m_X5_init 0 [.ref a0] n R I J Q :=
  CT.of (by decide) hn (fun _ => rfl) (fun _ => Nat.le_of_ble_eq_true rfl) (fun F p l e s m args below meth c Rm t Q0 C hQ hr hm => h F (fun _ _ _ _ _ _ _ _ => S_wk C)
    (S_aload_n C dX5_init_0 rfl (S_cI C ok_X3_init (al_at 102 (by decide +kernel) rfl) (Nat.le_of_ble_eq_true rfl) (Nat.le_of_ble_eq_true rfl) dX5_init_1 (S_cret C hQ hr dX5_init_4))))
theorem dX5_isOf_0 : decode cX5_isOf 0 = .ok (.iload_n 1, 1) := by decide +kernel
theorem dX5_isOf_1 : decode cX5_isOf 1 = .ok (.iconst 1, 1) := by decide +kernel
theorem dX5_isOf_2 : decode cX5_isOf 2 = .ok (.if_icmp .eq 11, 3) := by decide +kernel
theorem dX5_isOf_5 : decode cX5_isOf 5 = .ok (.aload_n 0, 1) := by decide +kernel
theorem dX5_isOf_6 : decode cX5_isOf 6 = .ok (.iload_n 1, 1) := by decide +kernel
theorem dX5_isOf_7 : decode cX5_isOf 7 = .ok (.invokespecial 9, 3) := by decide +kernel
theorem dX5_isOf_10 : decode cX5_isOf 10 = .ok (.ifCond .eq 7, 3) := by decide +kernel
theorem dX5_isOf_13 : decode cX5_isOf 13 = .ok (.iconst 1, 1) := by decide +kernel
theorem dX5_isOf_14 : decode cX5_isOf 14 = .ok (.goto 4, 3) := by decide +kernel
theorem dX5_isOf_17 : decode cX5_isOf 17 = .ok (.iconst 0, 1) := by decide +kernel
theorem dX5_isOf_18 : decode cX5_isOf 18 = .ok (.ireturn, 1) := by decide +kernel
def k_X5_isOf_0 (F : FT) (Q : QT) : KT := o_iload 1 (o_ic (nI 1) (o_iceq (F 13) (o_aload 0 (o_iload 1 (o_cW m_X3_isOf 2 (o_ifeq (F 17) (F 13)))))))
def k_X5_isOf_13 (F : FT) (Q : QT) : KT := o_ic (nI 1) (F 18)
def k_X5_isOf_17 (F : FT) (Q : QT) : KT := o_ic (nI 0) (F 18)
def k_X5_isOf_18 (F : FT) (Q : QT) : KT := o_zret Q
set_option maxRecDepth 20000 in
theorem r_X5_isOf {a0 : Nat} {a1 : Int32} {n : Nat} {R : RR} {I : II} {J : JJ} {Q : QT} (hn : n + 0 ≤ 90) (h : ∀ F : FT, al_Wk F → al_Ok F (k_X5_isOf_0 F Q) 0 → al_Ok F (k_X5_isOf_13 F Q) 13 → al_Ok F (k_X5_isOf_17 F Q) 17 → al_Ok F (k_X5_isOf_18 F Q) 18 → F 0 [some (.ref a0), some (.int a1)] [] n R I J) : CT m_X5_isOf 0 [.ref a0, .int a1] n R I J Q :=
  CT.of (by decide) hn (fun _ => rfl) (fun _ => Nat.le_of_ble_eq_true rfl) (fun F p l e s m args below meth c Rm t Q0 C hQ hr hm => h F (fun _ _ _ _ _ _ _ _ => S_wk C)
    (S_iload_n C dX5_isOf_0 rfl (S_iconst C dX5_isOf_1 (by decide +kernel) (S_icmpeq (tgt := 13) C dX5_isOf_2 (by decide) (S_aload_n C dX5_isOf_5 rfl (S_iload_n C dX5_isOf_6 rfl (S_cSU C ok_X3_isOf (al_at 478 (by decide +kernel) rfl) (al_at 103 (by decide +kernel) rfl) (by decide) (al_at 485 (by decide +kernel) rfl) (Nat.le_of_ble_eq_true rfl) (Nat.le_of_ble_eq_true rfl) dX5_isOf_7 (S_ifeq (tgt := 17) C dX5_isOf_10 (by decide) (fun _ _ _ _ _ _ h9 => h9))))))))
    (S_iconst C dX5_isOf_13 (by decide +kernel) (S_goto (tgt := 18) C dX5_isOf_14 (by decide)))
    (S_iconst C dX5_isOf_17 (by decide +kernel) (fun _ _ _ _ _ _ h9 => h9))
    (S_zret C hQ hr dX5_isOf_18))
theorem dX5_title_0 : decode cX5_title 0 = .ok (.ldc 7, 2) := by decide +kernel
theorem dX5_title_2 : decode cX5_title 2 = .ok (.areturn, 1) := by decide +kernel
def k_X5_title_0 (F : FT) (Q : QT) : KT := o_sc 5 (o_aret Q)
set_option maxRecDepth 20000 in
theorem r_X5_title {a0 : Nat} {n : Nat} {R : RR} {I : II} {J : JJ} {Q : QT} (hn : n + 0 ≤ 90) (h : ∀ F : FT, al_Wk F → al_Ok F (k_X5_title_0 F Q) 0 → F 0 [some (.ref a0)] [] n R I J) : CT m_X5_title 0 [.ref a0] n R I J Q :=
  CT.of (by decide) hn (fun _ => rfl) (fun _ => Nat.le_of_ble_eq_true rfl) (fun F p l e s m args below meth c Rm t Q0 C hQ hr hm => h F (fun _ _ _ _ _ _ _ _ => S_wk C)
    (S_ldcS (tx := "outward") C (by decide) dX5_title_0 (by decide +kernel) (S_aret C hQ hr dX5_title_2)))
theorem dX5_weigh_0 : decode cX5_weigh 0 = .ok (.iload_n 1, 1) := by decide +kernel
theorem dX5_weigh_1 : decode cX5_weigh 1 = .ok (.ifCond .eq 7, 3) := by decide +kernel
theorem dX5_weigh_4 : decode cX5_weigh 4 = .ok (.iconst 2, 1) := by decide +kernel
theorem dX5_weigh_5 : decode cX5_weigh 5 = .ok (.goto 4, 3) := by decide +kernel
theorem dX5_weigh_8 : decode cX5_weigh 8 = .ok (.iconst 1, 1) := by decide +kernel
theorem dX5_weigh_9 : decode cX5_weigh 9 = .ok (.ireturn, 1) := by decide +kernel
def k_X5_weigh_0 (F : FT) (Q : QT) : KT := o_iload 1 (o_ifeq (F 8) (o_ic (nI 2) (F 9)))
def k_X5_weigh_8 (F : FT) (Q : QT) : KT := o_ic (nI 1) (F 9)
def k_X5_weigh_9 (F : FT) (Q : QT) : KT := o_iret Q
set_option maxRecDepth 20000 in
theorem r_X5_weigh {a0 : Nat} {a1 : Int32} {a2 : Int32} {a3 : Int32} {n : Nat} {R : RR} {I : II} {J : JJ} {Q : QT} (hn : n + 0 ≤ 90) (h : ∀ F : FT, al_Wk F → al_Ok F (k_X5_weigh_0 F Q) 0 → al_Ok F (k_X5_weigh_8 F Q) 8 → al_Ok F (k_X5_weigh_9 F Q) 9 → F 0 [some (.ref a0), some (.int a1), some (.int a2), some (.int a3)] [] n R I J) : CT m_X5_weigh 0 [.ref a0, .int a1, .int a2, .int a3] n R I J Q :=
  CT.of (by decide) hn (fun _ => rfl) (fun _ => Nat.le_of_ble_eq_true rfl) (fun F p l e s m args below meth c Rm t Q0 C hQ hr hm => h F (fun _ _ _ _ _ _ _ _ => S_wk C)
    (S_iload_n C dX5_weigh_0 rfl (S_ifeq (tgt := 8) C dX5_weigh_1 (by decide) (S_iconst C dX5_weigh_4 (by decide +kernel) (S_goto (tgt := 9) C dX5_weigh_5 (by decide)))))
    (S_iconst C dX5_weigh_8 (by decide +kernel) (fun _ _ _ _ _ _ h9 => h9))
    (S_iret C hQ hr dX5_weigh_9))
theorem dX6_init_0 : decode cX6_init 0 = .ok (.aload_n 0, 1) := by decide +kernel
theorem dX6_init_1 : decode cX6_init 1 = .ok (.invokespecial 1, 3) := by decide +kernel
theorem dX6_init_4 : decode cX6_init 4 = .ok (.return_, 1) := by decide +kernel
def k_X6_init_0 (F : FT) (Q : QT) (ne : Nat) : KT := o_aload 0 (o_cI ne m_X3_init 0 1 (o_cret ne Q))
set_option maxRecDepth 20000 in
theorem r_X6_init {a0 : Nat} {n : Nat} {R : RR} {I : II} {J : JJ} {Q : QT} (hn : n + 0 ≤ 90) (h : ∀ F : FT, al_Wk F → al_Ok F (k_X6_init_0 F Q (n + 0)) 0 → F 0 [some (.ref a0)] [] n R I J) : CT m_X6_init 0 [.ref a0] n R I J Q :=
  CT.of (by decide) hn (fun _ => rfl) (fun _ => Nat.le_of_ble_eq_true rfl) (fun F p l e s m args below meth c Rm t Q0 C hQ hr hm => h F (fun _ _ _ _ _ _ _ _ => S_wk C)
    (S_aload_n C dX6_init_0 rfl (S_cI C ok_X3_init (al_at 109 (by decide +kernel) rfl) (Nat.le_of_ble_eq_true rfl) (Nat.le_of_ble_eq_true rfl) dX6_init_1 (S_cret C hQ hr dX6_init_4))))
theorem dX6_isOf_0 : decode cX6_isOf 0 = .ok (.iload_n 1, 1) := by decide +kernel
theorem dX6_isOf_1 : decode cX6_isOf 1 = .ok (.iconst 2, 1) := by decide +kernel
theorem dX6_isOf_2 : decode cX6_isOf 2 = .ok (.if_icmp .eq 11, 3) := by decide +kernel
theorem dX6_isOf_5 : decode cX6_isOf 5 = .ok (.aload_n 0, 1) := by decide +kernel
theorem dX6_isOf_6 : decode cX6_isOf 6 = .ok (.iload_n 1, 1) := by decide +kernel
theorem dX6_isOf_7 : decode cX6_isOf 7 = .ok (.invokespecial 9, 3) := by decide +kernel
theorem dX6_isOf_10 : decode cX6_isOf 10 = .ok (.ifCond .eq 7, 3) := by decide +kernel
theorem dX6_isOf_13 : decode cX6_isOf 13 = .ok (.iconst 1, 1) := by decide +kernel
theorem dX6_isOf_14 : decode cX6_isOf 14 = .ok (.goto 4, 3) := by decide +kernel
theorem dX6_isOf_17 : decode cX6_isOf 17 = .ok (.iconst 0, 1) := by decide +kernel
theorem dX6_isOf_18 : decode cX6_isOf 18 = .ok (.ireturn, 1) := by decide +kernel
def k_X6_isOf_0 (F : FT) (Q : QT) : KT := o_iload 1 (o_ic (nI 2) (o_iceq (F 13) (o_aload 0 (o_iload 1 (o_cW m_X3_isOf 2 (o_ifeq (F 17) (F 13)))))))
def k_X6_isOf_13 (F : FT) (Q : QT) : KT := o_ic (nI 1) (F 18)
def k_X6_isOf_17 (F : FT) (Q : QT) : KT := o_ic (nI 0) (F 18)
def k_X6_isOf_18 (F : FT) (Q : QT) : KT := o_zret Q
set_option maxRecDepth 20000 in
theorem r_X6_isOf {a0 : Nat} {a1 : Int32} {n : Nat} {R : RR} {I : II} {J : JJ} {Q : QT} (hn : n + 0 ≤ 90) (h : ∀ F : FT, al_Wk F → al_Ok F (k_X6_isOf_0 F Q) 0 → al_Ok F (k_X6_isOf_13 F Q) 13 → al_Ok F (k_X6_isOf_17 F Q) 17 → al_Ok F (k_X6_isOf_18 F Q) 18 → F 0 [some (.ref a0), some (.int a1)] [] n R I J) : CT m_X6_isOf 0 [.ref a0, .int a1] n R I J Q :=
  CT.of (by decide) hn (fun _ => rfl) (fun _ => Nat.le_of_ble_eq_true rfl) (fun F p l e s m args below meth c Rm t Q0 C hQ hr hm => h F (fun _ _ _ _ _ _ _ _ => S_wk C)
    (S_iload_n C dX6_isOf_0 rfl (S_iconst C dX6_isOf_1 (by decide +kernel) (S_icmpeq (tgt := 13) C dX6_isOf_2 (by decide) (S_aload_n C dX6_isOf_5 rfl (S_iload_n C dX6_isOf_6 rfl (S_cSU C ok_X3_isOf (al_at 478 (by decide +kernel) rfl) (al_at 110 (by decide +kernel) rfl) (by decide) (al_at 496 (by decide +kernel) rfl) (Nat.le_of_ble_eq_true rfl) (Nat.le_of_ble_eq_true rfl) dX6_isOf_7 (S_ifeq (tgt := 17) C dX6_isOf_10 (by decide) (fun _ _ _ _ _ _ h9 => h9))))))))
    (S_iconst C dX6_isOf_13 (by decide +kernel) (S_goto (tgt := 18) C dX6_isOf_14 (by decide)))
    (S_iconst C dX6_isOf_17 (by decide +kernel) (fun _ _ _ _ _ _ h9 => h9))
    (S_zret C hQ hr dX6_isOf_18))
theorem dX6_title_0 : decode cX6_title 0 = .ok (.ldc 7, 2) := by decide +kernel
theorem dX6_title_2 : decode cX6_title 2 = .ok (.areturn, 1) := by decide +kernel
def k_X6_title_0 (F : FT) (Q : QT) : KT := o_sc 6 (o_aret Q)
set_option maxRecDepth 20000 in
theorem r_X6_title {a0 : Nat} {n : Nat} {R : RR} {I : II} {J : JJ} {Q : QT} (hn : n + 0 ≤ 90) (h : ∀ F : FT, al_Wk F → al_Ok F (k_X6_title_0 F Q) 0 → F 0 [some (.ref a0)] [] n R I J) : CT m_X6_title 0 [.ref a0] n R I J Q :=
  CT.of (by decide) hn (fun _ => rfl) (fun _ => Nat.le_of_ble_eq_true rfl) (fun F p l e s m args below meth c Rm t Q0 C hQ hr hm => h F (fun _ _ _ _ _ _ _ _ => S_wk C)
    (S_ldcS (tx := "shared") C (by decide) dX6_title_0 (by decide +kernel) (S_aret C hQ hr dX6_title_2)))
theorem dX6_weigh_0 : decode cX6_weigh 0 = .ok (.iload_n 2, 1) := by decide +kernel
theorem dX6_weigh_1 : decode cX6_weigh 1 = .ok (.ifCond .eq 7, 3) := by decide +kernel
theorem dX6_weigh_4 : decode cX6_weigh 4 = .ok (.iconst 0, 1) := by decide +kernel
theorem dX6_weigh_5 : decode cX6_weigh 5 = .ok (.goto 10, 3) := by decide +kernel
theorem dX6_weigh_8 : decode cX6_weigh 8 = .ok (.aload_n 0, 1) := by decide +kernel
theorem dX6_weigh_9 : decode cX6_weigh 9 = .ok (.iload_n 1, 1) := by decide +kernel
theorem dX6_weigh_10 : decode cX6_weigh 10 = .ok (.iload_n 2, 1) := by decide +kernel
theorem dX6_weigh_11 : decode cX6_weigh 11 = .ok (.iload_n 3, 1) := by decide +kernel
theorem dX6_weigh_12 : decode cX6_weigh 12 = .ok (.invokespecial 13, 3) := by decide +kernel
theorem dX6_weigh_15 : decode cX6_weigh 15 = .ok (.ireturn, 1) := by decide +kernel
def k_X6_weigh_0 (F : FT) (Q : QT) : KT := o_iload 2 (o_ifeq (F 8) (o_ic (nI 0) (F 15)))
def k_X6_weigh_8 (F : FT) (Q : QT) : KT := o_aload 0 (o_iload 1 (o_iload 2 (o_iload 3 (o_cW m_X3_weigh 4 (F 15)))))
def k_X6_weigh_15 (F : FT) (Q : QT) : KT := o_iret Q
set_option maxRecDepth 20000 in
theorem r_X6_weigh {a0 : Nat} {a1 : Int32} {a2 : Int32} {a3 : Int32} {n : Nat} {R : RR} {I : II} {J : JJ} {Q : QT} (hn : n + 0 ≤ 90) (h : ∀ F : FT, al_Wk F → al_Ok F (k_X6_weigh_0 F Q) 0 → al_Ok F (k_X6_weigh_8 F Q) 8 → al_Ok F (k_X6_weigh_15 F Q) 15 → F 0 [some (.ref a0), some (.int a1), some (.int a2), some (.int a3)] [] n R I J) : CT m_X6_weigh 0 [.ref a0, .int a1, .int a2, .int a3] n R I J Q :=
  CT.of (by decide) hn (fun _ => rfl) (fun _ => Nat.le_of_ble_eq_true rfl) (fun F p l e s m args below meth c Rm t Q0 C hQ hr hm => h F (fun _ _ _ _ _ _ _ _ => S_wk C)
    (S_iload_n C dX6_weigh_0 rfl (S_ifeq (tgt := 8) C dX6_weigh_1 (by decide) (S_iconst C dX6_weigh_4 (by decide +kernel) (S_goto (tgt := 15) C dX6_weigh_5 (by decide)))))
    (S_aload_n C dX6_weigh_8 rfl (S_iload_n C dX6_weigh_9 rfl (S_iload_n C dX6_weigh_10 rfl (S_iload_n C dX6_weigh_11 rfl (S_cSU C ok_X3_weigh (al_at 435 (by decide +kernel) rfl) (al_at 110 (by decide +kernel) rfl) (by decide) (al_at 455 (by decide +kernel) rfl) (Nat.le_of_ble_eq_true rfl) (Nat.le_of_ble_eq_true rfl) dX6_weigh_12 (fun _ _ _ _ _ _ h9 => h9))))))
    (S_iret C hQ hr dX6_weigh_15))
theorem dX7_become_0 : decode cX7_become 0 = .ok (.aload_n 0, 1) := by decide +kernel
theorem dX7_become_1 : decode cX7_become 1 = .ok (.iload_n 1, 1) := by decide +kernel
theorem dX7_become_2 : decode cX7_become 2 = .ok (.putfield 15, 3) := by decide +kernel
theorem dX7_become_5 : decode cX7_become 5 = .ok (.aload_n 0, 1) := by decide +kernel
theorem dX7_become_6 : decode cX7_become 6 = .ok (.iload_n 2, 1) := by decide +kernel
theorem dX7_become_7 : decode cX7_become 7 = .ok (.putfield 19, 3) := by decide +kernel
theorem dX7_become_10 : decode cX7_become 10 = .ok (.aload_n 0, 1) := by decide +kernel
theorem dX7_become_11 : decode cX7_become 11 = .ok (.getfield 9, 3) := by decide +kernel
theorem dX7_become_14 : decode cX7_become 14 = .ok (.lconst 0, 1) := by decide +kernel
theorem dX7_become_15 : decode cX7_become 15 = .ok (.invokestatic 22, 3) := by decide +kernel
theorem dX7_become_18 : decode cX7_become 18 = .ok (.return_, 1) := by decide +kernel
def k_X7_become_0 (F : FT) (Q : QT) : KT := o_aload 0 (o_iload 1 (o_putI 7 0 (o_aload 0 (o_iload 2 (o_putI 7 1 (o_aload 0 (o_getR 7 2 (o_lc (lN 0) (o_cS m_J7_fill_d0a16 2 (o_vret Q))))))))))
set_option maxRecDepth 20000 in
theorem r_X7_become {a0 : Nat} {a1 : Int32} {a2 : Int32} {n : Nat} {R : RR} {I : II} {J : JJ} {Q : QT} (hn : n + 0 ≤ 90) (h : ∀ F : FT, al_Wk F → al_Ok F (k_X7_become_0 F Q) 0 → F 0 [some (.ref a0), some (.int a1), some (.int a2)] [] n R I J) : CT m_X7_become 0 [.ref a0, .int a1, .int a2] n R I J Q :=
  CT.of (by decide) hn (fun _ => rfl) (fun _ => Nat.le_of_ble_eq_true rfl) (fun F p l e s m args below meth c Rm t Q0 C hQ hr hm => h F (fun _ _ _ _ _ _ _ _ => S_wk C)
    (S_aload_n C dX7_become_0 rfl (S_iload_n C dX7_become_1 rfl (S_putI (ci := 7) (j := 0) C inG7 rfl (Nat.le_of_ble_eq_true rfl) tyX7 tyX7_ok nmX7 rfl rfl (tyX7_ok 0 (Nat.le_of_ble_eq_true rfl)) (al_at 276 (by decide +kernel) rfl) dX7_become_2 (S_aload_n C dX7_become_5 rfl (S_iload_n C dX7_become_6 rfl (S_putI (ci := 7) (j := 1) C inG7 rfl (Nat.le_of_ble_eq_true rfl) tyX7 tyX7_ok nmX7 rfl rfl (tyX7_ok 1 (Nat.le_of_ble_eq_true rfl)) (al_at 278 (by decide +kernel) rfl) dX7_become_7 (S_aload_n C dX7_become_10 rfl (S_getR (ci := 7) (j := 2) C inG7 rfl (Nat.le_of_ble_eq_true rfl) rfl (al_at 280 (by decide +kernel) rfl) dX7_become_11 (S_lconst C dX7_become_14 (by decide +kernel) (S_cS C ok_J7_fill_d0a16 (al_at 843 (by decide +kernel) rfl) (Nat.le_of_ble_eq_true rfl) (Nat.le_of_ble_eq_true rfl) dX7_become_15 (S_vret C hQ hr dX7_become_18))))))))))))
theorem dX7_fitted_0 : decode cX7_fitted 0 = .ok (.aload_n 0, 1) := by decide +kernel
theorem dX7_fitted_1 : decode cX7_fitted 1 = .ok (.getfield 15, 3) := by decide +kernel
theorem dX7_fitted_4 : decode cX7_fitted 4 = .ok (.bipush 8, 2) := by decide +kernel
theorem dX7_fitted_6 : decode cX7_fitted 6 = .ok (.if_icmp .ne 8, 3) := by decide +kernel
theorem dX7_fitted_9 : decode cX7_fitted 9 = .ok (.lload_n 1, 1) := by decide +kernel
theorem dX7_fitted_10 : decode cX7_fitted 10 = .ok (.l2i, 1) := by decide +kernel
theorem dX7_fitted_11 : decode cX7_fitted 11 = .ok (.i2b, 1) := by decide +kernel
theorem dX7_fitted_12 : decode cX7_fitted 12 = .ok (.i2l, 1) := by decide +kernel
theorem dX7_fitted_13 : decode cX7_fitted 13 = .ok (.lreturn, 1) := by decide +kernel
theorem dX7_fitted_14 : decode cX7_fitted 14 = .ok (.aload_n 0, 1) := by decide +kernel
theorem dX7_fitted_15 : decode cX7_fitted 15 = .ok (.getfield 15, 3) := by decide +kernel
theorem dX7_fitted_18 : decode cX7_fitted 18 = .ok (.bipush 16, 2) := by decide +kernel
theorem dX7_fitted_20 : decode cX7_fitted 20 = .ok (.if_icmp .ne 10, 3) := by decide +kernel
theorem dX7_fitted_23 : decode cX7_fitted 23 = .ok (.lload_n 1, 1) := by decide +kernel
theorem dX7_fitted_24 : decode cX7_fitted 24 = .ok (.l2i, 1) := by decide +kernel
theorem dX7_fitted_25 : decode cX7_fitted 25 = .ok (.i2s, 1) := by decide +kernel
theorem dX7_fitted_26 : decode cX7_fitted 26 = .ok (.i2l, 1) := by decide +kernel
theorem dX7_fitted_27 : decode cX7_fitted 27 = .ok (.goto 4, 3) := by decide +kernel
theorem dX7_fitted_30 : decode cX7_fitted 30 = .ok (.lload_n 1, 1) := by decide +kernel
theorem dX7_fitted_31 : decode cX7_fitted 31 = .ok (.lreturn, 1) := by decide +kernel
def k_X7_fitted_0 (F : FT) (Q : QT) : KT := o_aload 0 (o_getI 7 0 (o_ic (nI 8) (o_icne (F 14) (o_lload 1 (o_l2i (o_i2b (o_i2l (o_lret Q))))))))
def k_X7_fitted_14 (F : FT) (Q : QT) : KT := o_aload 0 (o_getI 7 0 (o_ic (nI 16) (o_icne (F 30) (o_lload 1 (o_l2i (o_i2s (o_i2l (F 31))))))))
def k_X7_fitted_30 (F : FT) (Q : QT) : KT := o_lload 1 (F 31)
def k_X7_fitted_31 (F : FT) (Q : QT) : KT := o_lret Q
set_option maxRecDepth 20000 in
theorem r_X7_fitted {a0 : Nat} {a1 : Int64} {n : Nat} {R : RR} {I : II} {J : JJ} {Q : QT} (hn : n + 0 ≤ 90) (h : ∀ F : FT, al_Wk F → al_Ok F (k_X7_fitted_0 F Q) 0 → al_Ok F (k_X7_fitted_14 F Q) 14 → al_Ok F (k_X7_fitted_30 F Q) 30 → al_Ok F (k_X7_fitted_31 F Q) 31 → F 0 [some (.ref a0), some (.long a1), none] [] n R I J) : CT m_X7_fitted 0 [.ref a0, .long a1] n R I J Q :=
  CT.of (by decide) hn (fun _ => rfl) (fun _ => Nat.le_of_ble_eq_true rfl) (fun F p l e s m args below meth c Rm t Q0 C hQ hr hm => h F (fun _ _ _ _ _ _ _ _ => S_wk C)
    (S_aload_n C dX7_fitted_0 rfl (S_getI (ci := 7) (j := 0) C inG7 rfl (Nat.le_of_ble_eq_true rfl) rfl (al_at 276 (by decide +kernel) rfl) dX7_fitted_1 (S_bipush C dX7_fitted_4 (by decide +kernel) (S_icmpne (tgt := 14) C dX7_fitted_6 (by decide) (S_lload_n C dX7_fitted_9 rfl (S_l2i C dX7_fitted_10 (S_i2b C dX7_fitted_11 (S_i2l C dX7_fitted_12 (S_lret C hQ hr dX7_fitted_13)))))))))
    (S_aload_n C dX7_fitted_14 rfl (S_getI (ci := 7) (j := 0) C inG7 rfl (Nat.le_of_ble_eq_true rfl) rfl (al_at 276 (by decide +kernel) rfl) dX7_fitted_15 (S_bipush C dX7_fitted_18 (by decide +kernel) (S_icmpne (tgt := 30) C dX7_fitted_20 (by decide) (S_lload_n C dX7_fitted_23 rfl (S_l2i C dX7_fitted_24 (S_i2s C dX7_fitted_25 (S_i2l C dX7_fitted_26 (S_goto (tgt := 31) C dX7_fitted_27 (by decide))))))))))
    (S_lload_n C dX7_fitted_30 rfl (fun _ _ _ _ _ _ h9 => h9))
    (S_lret C hQ hr dX7_fitted_31))
theorem dX7_hasRange_0 : decode cX7_hasRange 0 = .ok (.iload_n 1, 1) := by decide +kernel
theorem dX7_hasRange_1 : decode cX7_hasRange 1 = .ok (.ifCond .lt 29, 3) := by decide +kernel
theorem dX7_hasRange_4 : decode cX7_hasRange 4 = .ok (.iload_n 2, 1) := by decide +kernel
theorem dX7_hasRange_5 : decode cX7_hasRange 5 = .ok (.ifCond .lt 25, 3) := by decide +kernel
theorem dX7_hasRange_8 : decode cX7_hasRange 8 = .ok (.iload_n 2, 1) := by decide +kernel
theorem dX7_hasRange_9 : decode cX7_hasRange 9 = .ok (.aload_n 0, 1) := by decide +kernel
theorem dX7_hasRange_10 : decode cX7_hasRange 10 = .ok (.getfield 19, 3) := by decide +kernel
theorem dX7_hasRange_13 : decode cX7_hasRange 13 = .ok (.if_icmp .gt 17, 3) := by decide +kernel
theorem dX7_hasRange_16 : decode cX7_hasRange 16 = .ok (.iload_n 1, 1) := by decide +kernel
theorem dX7_hasRange_17 : decode cX7_hasRange 17 = .ok (.aload_n 0, 1) := by decide +kernel
theorem dX7_hasRange_18 : decode cX7_hasRange 18 = .ok (.getfield 19, 3) := by decide +kernel
theorem dX7_hasRange_21 : decode cX7_hasRange 21 = .ok (.iload_n 2, 1) := by decide +kernel
theorem dX7_hasRange_22 : decode cX7_hasRange 22 = .ok (.isub, 1) := by decide +kernel
theorem dX7_hasRange_23 : decode cX7_hasRange 23 = .ok (.if_icmp .gt 7, 3) := by decide +kernel
theorem dX7_hasRange_26 : decode cX7_hasRange 26 = .ok (.iconst 1, 1) := by decide +kernel
theorem dX7_hasRange_27 : decode cX7_hasRange 27 = .ok (.goto 4, 3) := by decide +kernel
theorem dX7_hasRange_30 : decode cX7_hasRange 30 = .ok (.iconst 0, 1) := by decide +kernel
theorem dX7_hasRange_31 : decode cX7_hasRange 31 = .ok (.ireturn, 1) := by decide +kernel
def k_X7_hasRange_0 (F : FT) (Q : QT) : KT := o_iload 1 (o_iflt (F 30) (o_iload 2 (o_iflt (F 30) (o_iload 2 (o_aload 0 (o_getI 7 1 (o_icgt (F 30) (o_iload 1 (o_aload 0 (o_getI 7 1 (o_iload 2 (o_isub (o_icgt (F 30) (o_ic (nI 1) (F 31)))))))))))))))
def k_X7_hasRange_30 (F : FT) (Q : QT) : KT := o_ic (nI 0) (F 31)
def k_X7_hasRange_31 (F : FT) (Q : QT) : KT := o_zret Q
set_option maxRecDepth 20000 in
theorem r_X7_hasRange {a0 : Nat} {a1 : Int32} {a2 : Int32} {n : Nat} {R : RR} {I : II} {J : JJ} {Q : QT} (hn : n + 0 ≤ 90) (h : ∀ F : FT, al_Wk F → al_Ok F (k_X7_hasRange_0 F Q) 0 → al_Ok F (k_X7_hasRange_30 F Q) 30 → al_Ok F (k_X7_hasRange_31 F Q) 31 → F 0 [some (.ref a0), some (.int a1), some (.int a2)] [] n R I J) : CT m_X7_hasRange 0 [.ref a0, .int a1, .int a2] n R I J Q :=
  CT.of (by decide) hn (fun _ => rfl) (fun _ => Nat.le_of_ble_eq_true rfl) (fun F p l e s m args below meth c Rm t Q0 C hQ hr hm => h F (fun _ _ _ _ _ _ _ _ => S_wk C)
    (S_iload_n C dX7_hasRange_0 rfl (S_iflt (tgt := 30) C dX7_hasRange_1 (by decide) (S_iload_n C dX7_hasRange_4 rfl (S_iflt (tgt := 30) C dX7_hasRange_5 (by decide) (S_iload_n C dX7_hasRange_8 rfl (S_aload_n C dX7_hasRange_9 rfl (S_getI (ci := 7) (j := 1) C inG7 rfl (Nat.le_of_ble_eq_true rfl) rfl (al_at 278 (by decide +kernel) rfl) dX7_hasRange_10 (S_icmpgt (tgt := 30) C dX7_hasRange_13 (by decide) (S_iload_n C dX7_hasRange_16 rfl (S_aload_n C dX7_hasRange_17 rfl (S_getI (ci := 7) (j := 1) C inG7 rfl (Nat.le_of_ble_eq_true rfl) rfl (al_at 278 (by decide +kernel) rfl) dX7_hasRange_18 (S_iload_n C dX7_hasRange_21 rfl (S_isub C dX7_hasRange_22 (S_icmpgt (tgt := 30) C dX7_hasRange_23 (by decide) (S_iconst C dX7_hasRange_26 (by decide +kernel) (S_goto (tgt := 31) C dX7_hasRange_27 (by decide)))))))))))))))))
    (S_iconst C dX7_hasRange_30 (by decide +kernel) (fun _ _ _ _ _ _ h9 => h9))
    (S_zret C hQ hr dX7_hasRange_31))
theorem dX7_init_0 : decode cX7_init 0 = .ok (.aload_n 0, 1) := by decide +kernel
theorem dX7_init_1 : decode cX7_init 1 = .ok (.invokespecial 3, 3) := by decide +kernel
theorem dX7_init_4 : decode cX7_init 4 = .ok (.aload_n 0, 1) := by decide +kernel
theorem dX7_init_5 : decode cX7_init 5 = .ok (.bipush 40, 2) := by decide +kernel
theorem dX7_init_7 : decode cX7_init 7 = .ok (.newarray .long, 2) := by decide +kernel
theorem dX7_init_9 : decode cX7_init 9 = .ok (.putfield 9, 3) := by decide +kernel
theorem dX7_init_12 : decode cX7_init 12 = .ok (.return_, 1) := by decide +kernel
def k_X7_init_0 (F : FT) (Q : QT) (ne : Nat) : KT := o_aload 0 (o_oinit (o_aload 0 (o_ic (nI 40) (o_newa ne 1 40 (o_putR 7 2 (o_cret ne Q))))))
set_option maxRecDepth 20000 in
theorem r_X7_init {a0 : Nat} {n : Nat} {R : RR} {I : II} {J : JJ} {Q : QT} (hn : n + 1 ≤ 90) (h : ∀ F : FT, al_Wk F → al_Ok F (k_X7_init_0 F Q (n + 1)) 0 → F 0 [some (.ref a0)] [] n R I J) : CT m_X7_init 1 [.ref a0] n R I J Q :=
  CT.of (by decide) hn (fun _ => rfl) (fun _ => Nat.le_of_ble_eq_true rfl) (fun F p l e s m args below meth c Rm t Q0 C hQ hr hm => h F (fun _ _ _ _ _ _ _ _ => S_wk C)
    (S_aload_n C dX7_init_0 rfl (S_oinit C (al_at 275 (by decide +kernel) rfl) (al_at 87 (by decide +kernel) rfl) (al_at 88 (by decide +kernel) rfl) (Nat.le_of_ble_eq_true rfl) (Nat.le_of_ble_eq_true rfl) dX7_init_1 (S_aload_n C dX7_init_4 rfl (S_bipush C dX7_init_5 (by decide +kernel) (S_newa1 C (al_at 236 (by decide +kernel) rfl) dX7_init_7 (S_putR (ci := 7) (j := 2) C inG7 rfl (Nat.le_of_ble_eq_true rfl) tyX7 tyX7_ok nmX7 rfl rfl (tyX7_ok 2 (Nat.le_of_ble_eq_true rfl)) (Or.inr ⟨_, rfl⟩) hm rfl (al_at 280 (by decide +kernel) rfl) dX7_init_9 (S_cret C hQ hr dX7_init_12))))))))
theorem dX7_isMissing_0 : decode cX7_isMissing 0 = .ok (.aload_n 0, 1) := by decide +kernel
theorem dX7_isMissing_1 : decode cX7_isMissing 1 = .ok (.getfield 15, 3) := by decide +kernel
theorem dX7_isMissing_4 : decode cX7_isMissing 4 = .ok (.ifCond .ne 7, 3) := by decide +kernel
theorem dX7_isMissing_7 : decode cX7_isMissing 7 = .ok (.iconst 1, 1) := by decide +kernel
theorem dX7_isMissing_8 : decode cX7_isMissing 8 = .ok (.goto 4, 3) := by decide +kernel
theorem dX7_isMissing_11 : decode cX7_isMissing 11 = .ok (.iconst 0, 1) := by decide +kernel
theorem dX7_isMissing_12 : decode cX7_isMissing 12 = .ok (.ireturn, 1) := by decide +kernel
def k_X7_isMissing_0 (F : FT) (Q : QT) : KT := o_aload 0 (o_getI 7 0 (o_ifne (F 11) (o_ic (nI 1) (F 12))))
def k_X7_isMissing_11 (F : FT) (Q : QT) : KT := o_ic (nI 0) (F 12)
def k_X7_isMissing_12 (F : FT) (Q : QT) : KT := o_zret Q
set_option maxRecDepth 20000 in
theorem r_X7_isMissing {a0 : Nat} {n : Nat} {R : RR} {I : II} {J : JJ} {Q : QT} (hn : n + 0 ≤ 90) (h : ∀ F : FT, al_Wk F → al_Ok F (k_X7_isMissing_0 F Q) 0 → al_Ok F (k_X7_isMissing_11 F Q) 11 → al_Ok F (k_X7_isMissing_12 F Q) 12 → F 0 [some (.ref a0)] [] n R I J) : CT m_X7_isMissing 0 [.ref a0] n R I J Q :=
  CT.of (by decide) hn (fun _ => rfl) (fun _ => Nat.le_of_ble_eq_true rfl) (fun F p l e s m args below meth c Rm t Q0 C hQ hr hm => h F (fun _ _ _ _ _ _ _ _ => S_wk C)
    (S_aload_n C dX7_isMissing_0 rfl (S_getI (ci := 7) (j := 0) C inG7 rfl (Nat.le_of_ble_eq_true rfl) rfl (al_at 276 (by decide +kernel) rfl) dX7_isMissing_1 (S_ifne (tgt := 11) C dX7_isMissing_4 (by decide) (S_iconst C dX7_isMissing_7 (by decide +kernel) (S_goto (tgt := 12) C dX7_isMissing_8 (by decide))))))
    (S_iconst C dX7_isMissing_11 (by decide +kernel) (fun _ _ _ _ _ _ h9 => h9))
    (S_zret C hQ hr dX7_isMissing_12))
