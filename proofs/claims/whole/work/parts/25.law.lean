/-! LAWS -/
/-- what a corner that is seen counts, by kind -/
def wgh (kd : Nat) (o l : Bool) (ns : Nat) : Nat := match kd with
  | 0 => 1
  | 1 => if o then 2 else 1
  | 2 => if l then 0 else 1
  | 3 => (if o then 2 else 1) + (if 5 ≤ ns then 1 else 0)
  | 4 => 2 * (if l then 0 else 1)
  | _ => ((if o then 2 else 1) + (if 5 ≤ ns then 1 else 0)) - 2
theorem cl_w0 {q : Nat} {a b s : Int32} {R : RR} {I : II} {J : JJ} {Q : QT} (kq : Q (some (.int (nI 1))) 90 R I J) : CT m_X3_weigh 0 [.ref q, .int a, .int b, .int s] 90 R I J Q :=
  r_X3_weigh (by decide) (fun F wk b0 => b0 _ _ _ _ _ _ kq)
theorem cl_w1 {q : Nat} {o : Bool} {b s : Int32} {R : RR} {I : II} {J : JJ} {Q : QT} (kq : Q (some (.int (nI (if o then 2 else 1)))) 90 R I J) : CT m_X5_weigh 0 [.ref q, .int (nI o.toNat), .int b, .int s] 90 R I J Q := by
  refine r_X5_weigh (by decide) (fun F wk b0 b8 b9 => ?_)
  cases o
  · exact b0 _ _ _ _ _ _ (br_t (by decide +kernel) (b8 _ _ _ _ _ _ (b9 _ _ _ _ _ _ kq)))
  · exact b0 _ _ _ _ _ _ (br_f (by decide +kernel) (b9 _ _ _ _ _ _ kq))
theorem cl_w2 {q ci : Nat} {l : Bool} {a s : Int32} {R : RR} {I : II} {J : JJ} {Q : QT} (hq : al_cls 90 q = some ci) (hci : ci < 13) (kq : Q (some (.int (nI (if l then 0 else 1)))) 90 R I J) : CT m_X6_weigh 0 [.ref q, .int a, .int (nI l.toNat), .int s] 90 R I J Q := by
  refine r_X6_weigh (by decide) (fun F wk b0 b8 b15 => ?_)
  cases l
  · refine b0 _ _ _ _ _ _ (br_t (by decide +kernel) (b8 _ _ _ _ _ _ ?_))
    exact al_rk_in hq (And.intro hci (cl_w0 (b15 _ _ _ _ _ _ kq)))
  · exact b0 _ _ _ _ _ _ (br_f (by decide +kernel) (b15 _ _ _ _ _ _ kq))
theorem cl_w3 {q ci ns : Nat} {o : Bool} {b : Int32} {R : RR} {I : II} {J : JJ} {Q : QT} (hq : al_cls 90 q = some ci) (hci : ci < 13) (hns : ns < 100) (kq : Q (some (.int (nI ((if o then 2 else 1) + (if 5 ≤ ns then 1 else 0))))) 90 R I J) : CT m_X0_weigh 0 [.ref q, .int (nI o.toNat), .int b, .int (nI ns)] 90 R I J Q := by
  refine r_X0_weigh (by decide) (fun F wk b0 b16 b17 => ?_)
  refine b0 _ _ _ _ _ _ (al_rk_in hq (And.intro hci (cl_w1 (And.intro (fun c1 => ?_) (fun c1 => ?_)))))
  · rw [nI_ltI (by omega) (by omega)] at c1
    rw [if_neg (show ¬ 5 ≤ ns by omega), ← nI_add] at kq
    exact b16 _ _ _ _ _ _ (b17 _ _ _ _ _ _ kq)
  · rw [nI_ltI (by omega) (by omega)] at c1
    rw [if_pos (show 5 ≤ ns by omega), ← nI_add] at kq
    exact b17 _ _ _ _ _ _ kq
theorem cl_w4 {q ci : Nat} {l : Bool} {a s : Int32} {R : RR} {I : II} {J : JJ} {Q : QT} (hq : al_cls 90 q = some ci) (hci : ci < 13) (kq : Q (some (.int (nI (2 * (if l then 0 else 1))))) 90 R I J) : CT m_X4_weigh 0 [.ref q, .int a, .int (nI l.toNat), .int s] 90 R I J Q := by
  refine r_X4_weigh (by decide) (fun F wk b0 => ?_)
  refine b0 _ _ _ _ _ _ (al_rk_in hq (And.intro hci (cl_w2 hq hci ?_)))
  rw [← pk_mul] at kq
  exact kq
theorem cl_w5 {q ci ns : Nat} {o : Bool} {b : Int32} {R : RR} {I : II} {J : JJ} {Q : QT} (hq : al_cls 90 q = some ci) (hci : ci < 13) (hns : ns < 100) (kq : Q (some (.int (nI (((if o then 2 else 1) + (if 5 ≤ ns then 1 else 0)) - 2)))) 90 R I J) : CT m_X1_weigh 0 [.ref q, .int (nI o.toNat), .int b, .int (nI ns)] 90 R I J Q := by
  refine r_X1_weigh (by decide) (fun F wk b0 => ?_)
  refine b0 _ _ _ _ _ _ (al_rk_in hq (And.intro hci (cl_w3 hq hci hns ?_)))
  generalize hx : (if o then 2 else 1) + (if 5 ≤ ns then 1 else 0) = x at kq ⊢
  have hx3 : x = 1 ∨ x = 2 ∨ x = 3 := by
    rw [← hx]
    split <;> split <;> omega
  have e : (if nI 0 < nI x - nI 2 then nI x - nI 2 else nI 0) = nI (x - 2) := by
    rcases hx3 with rfl | rfl | rfl <;> decide +kernel
  rw [← e] at kq
  exact kq
/-- a law by its kind: its place -/
theorem cl_weigh {kd ns : Nat} {o l : Bool} {R : RR} {I : II} {J : JJ} {Q : QT} (hkd : kd < 6) (hns : ns < 100) (kq : Q (some (.int (nI (wgh kd o l ns)))) 90 R I J) : al_rk (al_cls 90 (2 + kd)) (fun ci => (ci < 7 ∧ ci ≠ 2) ∧ CT (f_weigh ci) 0 [.ref (2 + kd), .int (nI o.toNat), .int (nI l.toNat), .int (nI ns)] 90 R I J Q) := by
  rcases (show kd = 0 ∨ kd = 1 ∨ kd = 2 ∨ kd = 3 ∨ kd = 4 ∨ kd = 5 by omega) with rfl | rfl | rfl | rfl | rfl | rfl
  · exact And.intro (by decide) (cl_w0 kq)
  · exact And.intro (by decide) (cl_w1 kq)
  · exact And.intro (by decide) (cl_w2 (ci := 6) rfl (by decide) kq)
  · exact And.intro (by decide) (cl_w3 (ci := 0) rfl (by decide) hns kq)
  · exact And.intro (by decide) (cl_w4 (ci := 4) rfl (by decide) kq)
  · exact And.intro (by decide) (cl_w5 (ci := 1) rfl (by decide) hns kq)
/-- of a kind, or of one under it -/
def isk (kd k : Nat) : Bool := match kd with
  | 0 => decide (k = 0)
  | 1 => decide (k = 1 ∨ k = 0)
  | 2 => decide (k = 2 ∨ k = 0)
  | 3 => decide (k = 3 ∨ k = 1 ∨ k = 0)
  | 4 => decide (k = 4 ∨ k = 2 ∨ k = 0)
  | _ => decide (k = 5 ∨ k = 3 ∨ k = 1 ∨ k = 0)
theorem cl_i0 {q k : Nat} {R : RR} {I : II} {J : JJ} {Q : QT} (hk : k < 100) (kq : Q (some (.int (nI (isk 0 k).toNat))) 90 R I J) : CT m_X3_isOf 0 [.ref q, .int (nI k)] 90 R I J Q := by
  refine r_X3_isOf (by decide) (fun F wk b0 b8 b9 => ?_)
  refine b0 _ _ _ _ _ _ (And.intro (fun c1 => ?_) (fun c1 => ?_))
  · rw [← nI_0, nI_eq (by omega) (by omega)] at c1
    rw [show isk 0 k = false by simp [isk, c1]] at kq
    exact b8 _ _ _ _ _ _ (b9 _ _ _ _ _ _ (And.intro (Or.inl nI_0) kq))
  · rw [← nI_0, nI_eq (by omega) (by omega)] at c1
    rw [show isk 0 k = true by simp [isk, c1]] at kq
    exact b9 _ _ _ _ _ _ (And.intro (Or.inr nI_1') kq)
theorem bz_f {b : Bool} (h : nI b.toNat = 0) : b = false := by
  cases b
  · rfl
  · exact absurd h (by decide +kernel)
theorem bz_t {b : Bool} (h : ¬ nI b.toNat = 0) : b = true := by
  cases b
  · exact absurd (by decide +kernel) h
  · rfl
theorem cl_i1 {q ci k : Nat} {R : RR} {I : II} {J : JJ} {Q : QT} (hq : al_cls 90 q = some ci) (hci : ci < 13) (hk : k < 100) (kq : Q (some (.int (nI (isk 1 k).toNat))) 90 R I J) : CT m_X5_isOf 0 [.ref q, .int (nI k)] 90 R I J Q := by
  refine r_X5_isOf (by decide) (fun F wk b0 b13 b17 b18 => ?_)
  refine b0 _ _ _ _ _ _ (And.intro (fun c1 => ?_) (fun c1 => ?_))
  · rw [nI_eq (by omega) (by omega)] at c1
    rw [show isk 1 k = true by simp [isk, c1]] at kq
    exact b13 _ _ _ _ _ _ (b18 _ _ _ _ _ _ (And.intro (Or.inr nI_1') kq))
  · rw [nI_eq (by omega) (by omega)] at c1
    refine al_rk_in hq (And.intro hci (cl_i0 (by omega) (And.intro (fun c2 => ?_) (fun c2 => ?_))))
    · have e := bz_f c2
      rw [show isk 1 k = false by simp [isk] at e ⊢; omega] at kq
      exact b17 _ _ _ _ _ _ (b18 _ _ _ _ _ _ (And.intro (Or.inl nI_0) kq))
    · have e := bz_t c2
      rw [show isk 1 k = true by simp [isk] at e ⊢; omega] at kq
      exact b13 _ _ _ _ _ _ (b18 _ _ _ _ _ _ (And.intro (Or.inr nI_1') kq))
theorem cl_i2 {q ci k : Nat} {R : RR} {I : II} {J : JJ} {Q : QT} (hq : al_cls 90 q = some ci) (hci : ci < 13) (hk : k < 100) (kq : Q (some (.int (nI (isk 2 k).toNat))) 90 R I J) : CT m_X6_isOf 0 [.ref q, .int (nI k)] 90 R I J Q := by
  refine r_X6_isOf (by decide) (fun F wk b0 b13 b17 b18 => ?_)
  refine b0 _ _ _ _ _ _ (And.intro (fun c1 => ?_) (fun c1 => ?_))
  · rw [nI_eq (by omega) (by omega)] at c1
    rw [show isk 2 k = true by simp [isk, c1]] at kq
    exact b13 _ _ _ _ _ _ (b18 _ _ _ _ _ _ (And.intro (Or.inr nI_1') kq))
  · rw [nI_eq (by omega) (by omega)] at c1
    refine al_rk_in hq (And.intro hci (cl_i0 (by omega) (And.intro (fun c2 => ?_) (fun c2 => ?_))))
    · have e := bz_f c2
      rw [show isk 2 k = false by simp [isk] at e ⊢; omega] at kq
      exact b17 _ _ _ _ _ _ (b18 _ _ _ _ _ _ (And.intro (Or.inl nI_0) kq))
    · have e := bz_t c2
      rw [show isk 2 k = true by simp [isk] at e ⊢; omega] at kq
      exact b13 _ _ _ _ _ _ (b18 _ _ _ _ _ _ (And.intro (Or.inr nI_1') kq))
theorem cl_i3 {q ci k : Nat} {R : RR} {I : II} {J : JJ} {Q : QT} (hq : al_cls 90 q = some ci) (hci : ci < 13) (hk : k < 100) (kq : Q (some (.int (nI (isk 3 k).toNat))) 90 R I J) : CT m_X0_isOf 0 [.ref q, .int (nI k)] 90 R I J Q := by
  refine r_X0_isOf (by decide) (fun F wk b0 b13 b17 b18 => ?_)
  refine b0 _ _ _ _ _ _ (And.intro (fun c1 => ?_) (fun c1 => ?_))
  · rw [nI_eq (by omega) (by omega)] at c1
    rw [show isk 3 k = true by simp [isk, c1]] at kq
    exact b13 _ _ _ _ _ _ (b18 _ _ _ _ _ _ (And.intro (Or.inr nI_1') kq))
  · rw [nI_eq (by omega) (by omega)] at c1
    refine al_rk_in hq (And.intro hci (cl_i1 hq hci (by omega) (And.intro (fun c2 => ?_) (fun c2 => ?_))))
    · have e := bz_f c2
      rw [show isk 3 k = false by simp [isk] at e ⊢; omega] at kq
      exact b17 _ _ _ _ _ _ (b18 _ _ _ _ _ _ (And.intro (Or.inl nI_0) kq))
    · have e := bz_t c2
      rw [show isk 3 k = true by simp [isk] at e ⊢; omega] at kq
      exact b13 _ _ _ _ _ _ (b18 _ _ _ _ _ _ (And.intro (Or.inr nI_1') kq))
theorem cl_i4 {q ci k : Nat} {R : RR} {I : II} {J : JJ} {Q : QT} (hq : al_cls 90 q = some ci) (hci : ci < 13) (hk : k < 100) (kq : Q (some (.int (nI (isk 4 k).toNat))) 90 R I J) : CT m_X4_isOf 0 [.ref q, .int (nI k)] 90 R I J Q := by
  refine r_X4_isOf (by decide) (fun F wk b0 b13 b17 b18 => ?_)
  refine b0 _ _ _ _ _ _ (And.intro (fun c1 => ?_) (fun c1 => ?_))
  · rw [nI_eq (by omega) (by omega)] at c1
    rw [show isk 4 k = true by simp [isk, c1]] at kq
    exact b13 _ _ _ _ _ _ (b18 _ _ _ _ _ _ (And.intro (Or.inr nI_1') kq))
  · rw [nI_eq (by omega) (by omega)] at c1
    refine al_rk_in hq (And.intro hci (cl_i2 hq hci (by omega) (And.intro (fun c2 => ?_) (fun c2 => ?_))))
    · have e := bz_f c2
      rw [show isk 4 k = false by simp [isk] at e ⊢; omega] at kq
      exact b17 _ _ _ _ _ _ (b18 _ _ _ _ _ _ (And.intro (Or.inl nI_0) kq))
    · have e := bz_t c2
      rw [show isk 4 k = true by simp [isk] at e ⊢; omega] at kq
      exact b13 _ _ _ _ _ _ (b18 _ _ _ _ _ _ (And.intro (Or.inr nI_1') kq))
theorem cl_i5 {q ci k : Nat} {R : RR} {I : II} {J : JJ} {Q : QT} (hq : al_cls 90 q = some ci) (hci : ci < 13) (hk : k < 100) (kq : Q (some (.int (nI (isk 5 k).toNat))) 90 R I J) : CT m_X1_isOf 0 [.ref q, .int (nI k)] 90 R I J Q := by
  refine r_X1_isOf (by decide) (fun F wk b0 b13 b17 b18 => ?_)
  refine b0 _ _ _ _ _ _ (And.intro (fun c1 => ?_) (fun c1 => ?_))
  · rw [nI_eq (by omega) (by omega)] at c1
    rw [show isk 5 k = true by simp [isk, c1]] at kq
    exact b13 _ _ _ _ _ _ (b18 _ _ _ _ _ _ (And.intro (Or.inr nI_1') kq))
  · rw [nI_eq (by omega) (by omega)] at c1
    refine al_rk_in hq (And.intro hci (cl_i3 hq hci (by omega) (And.intro (fun c2 => ?_) (fun c2 => ?_))))
    · have e := bz_f c2
      rw [show isk 5 k = false by simp [isk] at e ⊢; omega] at kq
      exact b17 _ _ _ _ _ _ (b18 _ _ _ _ _ _ (And.intro (Or.inl nI_0) kq))
    · have e := bz_t c2
      rw [show isk 5 k = true by simp [isk] at e ⊢; omega] at kq
      exact b13 _ _ _ _ _ _ (b18 _ _ _ _ _ _ (And.intro (Or.inr nI_1') kq))
theorem cl_isOf {kd k : Nat} {R : RR} {I : II} {J : JJ} {Q : QT} (hkd : kd < 6) (hk : k < 100) (kq : Q (some (.int (nI (isk kd k).toNat))) 90 R I J) : al_rk (al_cls 90 (2 + kd)) (fun ci => (ci < 7 ∧ ci ≠ 2) ∧ CT (f_isOf ci) 0 [.ref (2 + kd), .int (nI k)] 90 R I J Q) := by
  rcases (show kd = 0 ∨ kd = 1 ∨ kd = 2 ∨ kd = 3 ∨ kd = 4 ∨ kd = 5 by omega) with rfl | rfl | rfl | rfl | rfl | rfl
  · exact And.intro (by decide) (cl_i0 hk kq)
  · exact And.intro (by decide) (cl_i1 (ci := 5) rfl (by decide) hk kq)
  · exact And.intro (by decide) (cl_i2 (ci := 6) rfl (by decide) hk kq)
  · exact And.intro (by decide) (cl_i3 (ci := 0) rfl (by decide) hk kq)
  · exact And.intro (by decide) (cl_i4 (ci := 4) rfl (by decide) hk kq)
  · exact And.intro (by decide) (cl_i5 (ci := 1) rfl (by decide) hk kq)
theorem cl_title {kd : Nat} {R : RR} {I : II} {J : JJ} {Q : QT} (hkd : kd < 6) (kq : Q (some (.ref (2004 + kd))) 90 R I J) : al_rk (al_cls 90 (2 + kd)) (fun ci => (ci < 7 ∧ ci ≠ 2) ∧ CT (f_title ci) 0 [.ref (2 + kd)] 90 R I J Q) := by
  rcases (show kd = 0 ∨ kd = 1 ∨ kd = 2 ∨ kd = 3 ∨ kd = 4 ∨ kd = 5 by omega) with rfl | rfl | rfl | rfl | rfl | rfl
  · exact And.intro (by decide) (r_X3_title (by decide) (fun F wk b0 => b0 _ _ _ _ _ _ kq))
  · exact And.intro (by decide) (r_X5_title (by decide) (fun F wk b0 => b0 _ _ _ _ _ _ kq))
  · exact And.intro (by decide) (r_X6_title (by decide) (fun F wk b0 => b0 _ _ _ _ _ _ kq))
  · exact And.intro (by decide) (r_X0_title (by decide) (fun F wk b0 => b0 _ _ _ _ _ _ kq))
  · exact And.intro (by decide) (r_X4_title (by decide) (fun F wk b0 => b0 _ _ _ _ _ _ kq))
  · exact And.intro (by decide) (r_X1_title (by decide) (fun F wk b0 => b0 _ _ _ _ _ _ kq))
