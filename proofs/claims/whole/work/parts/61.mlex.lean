/-! THE REFERENCE: the tape by tokens -/
def TQ (n : Nat) (y : Nat → Nat) (I : II) : Prop := I 74 10 = nI n ∧ n ≤ 120 ∧ ∀ j, j < n → I 81 j = nI (y j) ∧ y j < 256
def skd (n : Nat) (y : Nat → Nat) (e : Nat) : Nat := min (kdk n y e) 3
def vvk (n : Nat) (y : Nat → Nat) (e : Nat) : Nat := if kdk n y e = 2 then vlk n y e else 0
def LM (n : Nat) (y : Nat → Nat) (e : Nat) (I : II) : Prop := e ≤ n ∧ I 74 11 = nI (stk n y e) ∧ I 74 12 = nI (enk n y e) ∧ I 74 13 = nI (skd n y e) ∧ I 74 14 = nI (vvk n y e)
def kL (I I' : II) : Prop := (∀ q, q ≠ 74 → I' q = I q) ∧ ∀ j, j ≠ 11 → j ≠ 12 → j ≠ 13 → j ≠ 14 → j ≠ 15 → I' 74 j = I 74 j
theorem kL.rf (I : II) : kL I I := ⟨fun _ _ => rfl, fun _ _ _ _ _ _ => rfl⟩
theorem kL.tr {I I' I'' : II} (h1 : kL I I') (h2 : kL I' I'') : kL I I'' := ⟨fun q hq => (h2.1 q hq).trans (h1.1 q hq), fun j a b c d e => (h2.2 j a b c d e).trans (h1.2 j a b c d e)⟩
theorem kL.up (I : II) {j : Nat} (v : Int32) (hj : 11 ≤ j ∧ j ≤ 15) : kL I (al_up I 74 j v) := ⟨fun _ hq => al_up_row hq, fun _ a b c d e => al_up_j (by omega)⟩
theorem kL.TQ {n : Nat} {y : Nat → Nat} {I I' : II} (h : kL I I') (ht : TQ n y I) : TQ n y I' := ⟨(h.2 10 (by decide) (by decide) (by decide) (by decide) (by decide)).trans ht.1, ht.2.1, fun j hj => by rw [h.1 81 (by decide)]; exact ht.2.2 j hj⟩
theorem skd_lt (n : Nat) (y : Nat → Nat) (e : Nat) : skd n y e ≤ 3 := by unfold skd; omega
theorem vvk_le (n : Nat) (y : Nat → Nat) (e : Nat) : vvk n y e ≤ 10000 := by
  unfold vvk
  split
  · exact dgs_le _ _ _
  · omega
def bya (n : Nat) (y : Nat → Nat) (k : Nat) : Int32 := if k < n then nI (y k) else -1
theorem ma_byteAt {n k : Nat} {y : Nat → Nat} {a : Int32} {I : II} {J : JJ} {Q : QT} (ht : TQ n y I) (ea : a = nI k) (hk : k < 1000) (kq : Q (some (.int (bya n y k))) 90 al_R0 I J) : CT m_X12_byteAt 0 [.ref 74, .int a] 90 al_R0 I J Q := by
  subst ea
  have h120 := ht.2.1
  unfold bya at kq
  refine r_X12_byteAt (by decide) (fun F wk b0 b17 b18 => b0 _ _ _ _ _ _ (And.intro (fun c => b17 _ _ _ _ _ _ (b18 _ _ _ _ _ _ ?_)) (fun c => ?_)))
  · rw [ht.1, nI_leI (by omega) (by omega)] at c
    rw [if_neg (by omega)] at kq
    exact kq
  · rw [ht.1, nI_leI (by omega) (by omega)] at c
    rw [if_pos (by omega), ← (ht.2.2 k (by omega)).1] at kq
    exact Exists.intro k (And.intro (by omega) (And.intro rfl (b18 _ _ _ _ _ _ kq)))
set_option maxHeartbeats 2000000 in
theorem ma_next {n e : Nat} {y : Nat → Nat} {I : II} {J : JJ} {Q : QT} (ht : TQ n y I) (he : e ≤ n) (h12 : I 74 12 = nI e) (kq : ∀ I' : II, kL I I' → I' 74 15 = I 74 15 → LM n y e I' → Q none 90 al_R0 I' J) : CT m_X12_next 0 [.ref 74] 90 al_R0 I J Q := by
  have h120 := ht.2.1
  have sl := stk_le (y := y) he
  have el := enk_le (y := y) he
  refine r_X12_next (by decide) (fun F wk b0 b8 b34 b68 b84 b115 b131 b191 b206 => ?_)
  have fin : ∀ (o : Option Value) (I' : II), kL I I' → I' 74 15 = I 74 15 → LM n y e I' → F 206 [some (.ref 74), o] [] 90 al_R0 I' J := fun o I' g1 g2 g3 => b206 _ _ _ _ _ _ (kq I' g1 g2 g3)
  -- letters
  have lets : ∀ (o : Option Value) (d i : Nat) (I' : II), i + d = n → kdk n y e = 1 → enk n y e = fnx (fun j => !(isL (y j))) i d → kL I I' → I' 74 15 = I 74 15 → I' 74 11 = nI (stk n y e) → I' 74 12 = nI i → I' 74 13 = nI 1 → I' 74 14 = nI 0 → F 84 [some (.ref 74), o] [] 90 al_R0 I' J := by
    intro o d
    induction d with
    | zero =>
      intro i I' hi hk hx g1 g2 g3 g4 g5 g6
      refine b84 _ _ _ _ _ _ (ma_byteAt (g1.TQ ht) g4 (by omega) ?_)
      rw [show bya n y i = -1 from if_neg (by omega)]
      refine mw_f (by rw [m1T, nT (by omega)]; omega) (br_t nI_0 (fin _ I' g1 g2 ⟨he, g3, ?_, ?_, ?_⟩))
      · rw [g4, hx]; rfl
      · rw [g5]; unfold skd; rw [hk]; rfl
      · rw [g6]; unfold vvk; rw [hk]; rfl
    | succ d ih =>
      intro i I' hi hk hx g1 g2 g3 g4 g5 g6
      have hy := ((g1.TQ ht).2.2 i (by omega)).2
      refine b84 _ _ _ _ _ _ (ma_byteAt (g1.TQ ht) g4 (by omega) ?_)
      rw [show bya n y i = nI (y i) from if_pos (by omega)]
      cases hl : isL (y i) with
      | true =>
        have hl2 := hl
        simp only [isL, Bool.and_eq_true, decide_eq_true_eq] at hl2
        refine mi_t (by decide) hl2.1 hl2.2 (br_f n10 (ih (i + 1) (al_up I' 74 12 (I' 74 12 + nI 1)) (by omega) hk (by rw [hx, fnx_no (by rw [hl]; rfl)]) (g1.tr (kL.up _ _ (by omega))) (by rw [al_up_j (by decide)]; exact g2) (by rw [al_up_j (by decide)]; exact g3) (by rw [al_up_s, g4]; exact (nI_s i).symm) (by rw [al_up_j (by decide)]; exact g5) (by rw [al_up_j (by decide)]; exact g6)))
      | false =>
        have hl2 : y i < 97 ∨ 122 < y i := by
          simp only [isL, Bool.and_eq_false_iff, decide_eq_false_iff_not] at hl
          omega
        refine mw_f (by rw [nT (by omega), nT (by omega), nT (by omega)]; omega) (br_t nI_0 (fin _ I' g1 g2 ⟨he, g3, ?_, ?_, ?_⟩))
        · rw [g4, hx, fnx_yes (by rw [hl]; rfl)]
        · rw [g5]; unfold skd; rw [hk]; rfl
        · rw [g6]; unfold vvk; rw [hk]; rfl
  -- digits
  have digs : ∀ (o : Option Value) (d k : Nat) (I' : II), stk n y e + k + d = n → kdk n y e = 2 → enk n y e = fnx (fun j => !(isD (y j))) (stk n y e + k) d → kL I I' → I' 74 15 = I 74 15 → I' 74 11 = nI (stk n y e) → I' 74 12 = nI (stk n y e + k) → I' 74 13 = nI 2 → I' 74 14 = nI (dgs y (stk n y e) k) → F 131 [some (.ref 74), o] [] 90 al_R0 I' J := by
    intro o d
    induction d with
    | zero =>
      intro k I' hi hk hx g1 g2 g3 g4 g5 g6
      refine b131 _ _ _ _ _ _ (ma_byteAt (g1.TQ ht) g4 (by omega) ?_)
      rw [show bya n y (stk n y e + k) = -1 from if_neg (by omega)]
      have hx : enk n y e = stk n y e + k := hx
      refine mw_f (by rw [m1T, nT (by omega)]; omega) (br_t nI_0 (fin _ I' g1 g2 ⟨he, g3, ?_, ?_, ?_⟩))
      · rw [g4, hx]
      · rw [g5]; unfold skd; rw [hk]; rfl
      · rw [g6]; unfold vvk vlk; rw [if_pos hk, hx, Nat.add_sub_cancel_left]
    | succ d ih =>
      intro k I' hi hk hx g1 g2 g3 g4 g5 g6
      have hy := ((g1.TQ ht).2.2 (stk n y e + k) (by omega)).2
      have hdl := dgs_le y (stk n y e) k
      refine b131 _ _ _ _ _ _ (ma_byteAt (g1.TQ ht) g4 (by omega) ?_)
      rw [show bya n y (stk n y e + k) = nI (y (stk n y e + k)) from if_pos (by omega)]
      cases hl : isD (y (stk n y e + k)) with
      | true =>
        have hl2 := hl
        simp only [isD, Bool.and_eq_true, decide_eq_true_eq] at hl2
        refine mi_t (by decide) hl2.1 hl2.2 (br_f n10 (ma_byteAt (g1.TQ ht) g4 (by omega) ?_))
        rw [show bya n y (stk n y e + k) = nI (y (stk n y e + k)) from if_pos (by omega)]
        have ev : (if nI 10 * I' 74 14 + nI (y (stk n y e + k)) - nI 48 < nI 10000 then nI 10 * I' 74 14 + nI (y (stk n y e + k)) - nI 48 else nI 10000) = nI (dgs y (stk n y e) (k + 1)) := by
          have hlt := nI_ltI (a := 10 * dgs y (stk n y e) k + y (stk n y e + k) - 48) (b := 10000) (by omega) (by omega)
          rw [g6, pk_mul, nI_add, pk_sub (by omega), dgs]
          by_cases c : 10 * dgs y (stk n y e) k + y (stk n y e + k) - 48 < 10000
          · rw [if_pos (hlt.mpr c), if_neg (by omega)]
          · rw [if_neg (fun w => c (hlt.mp w))]
            by_cases c2 : 10000 < 10 * dgs y (stk n y e) k + y (stk n y e + k) - 48
            · rw [if_pos c2]
            · rw [if_neg c2, show 10 * dgs y (stk n y e) k + y (stk n y e + k) - 48 = 10000 by omega]
        have h9 := ih (k + 1) (al_up (al_up I' 74 14 (nI (dgs y (stk n y e) (k + 1)))) 74 12 (al_up I' 74 14 (nI (dgs y (stk n y e) (k + 1))) 74 12 + nI 1)) (by omega) hk (by rw [hx, fnx_no (by rw [hl]; rfl)]; rfl) ((g1.tr (kL.up _ _ (by omega))).tr (kL.up _ _ (by omega))) (by rw [al_up_j (by decide), al_up_j (by decide)]; exact g2) (by rw [al_up_j (by decide), al_up_j (by decide)]; exact g3) (by rw [al_up_s, al_up_j (by decide), g4]; exact (nI_s _).symm) (by rw [al_up_j (by decide), al_up_j (by decide)]; exact g5) (by rw [al_up_j (by decide), al_up_s])
        rw [← ev] at h9
        exact h9
      | false =>
        have hl2 : y (stk n y e + k) < 48 ∨ 57 < y (stk n y e + k) := by
          simp only [isD, Bool.and_eq_false_iff, decide_eq_false_iff_not] at hl
          omega
        rw [fnx_yes (by rw [hl]; rfl)] at hx
        refine mw_f (by rw [nT (by omega), nT (by omega), nT (by omega)]; omega) (br_t nI_0 (fin _ I' g1 g2 ⟨he, g3, ?_, ?_, ?_⟩))
        · rw [g4, hx]
        · rw [g5]; unfold skd; rw [hk]; rfl
        · rw [g6]; unfold vvk vlk; rw [if_pos hk, hx, Nat.add_sub_cancel_left]
  -- from the token's begin
  have tok : ∀ (I' : II), kL I I' → I' 74 15 = I 74 15 → I' 74 11 = nI (stk n y e) → F 34 [some (.ref 74), none] [] 90 al_R0 I' J := fun I' g1 g2 g3 => by
    refine b34 _ _ _ _ _ _ (ma_byteAt (g1.TQ ht) g3 (by omega) ?_)
    have u1 : kL I (al_up (al_up I' 74 12 (I' 74 11)) 74 14 (nI 0)) := (g1.tr (kL.up _ _ (by omega))).tr (kL.up _ _ (by omega))
    have u2 : al_up (al_up I' 74 12 (I' 74 11)) 74 14 (nI 0) 74 15 = I 74 15 := by rw [al_up_j (by decide), al_up_j (by decide)]; exact g2
    have u3 : al_up (al_up I' 74 12 (I' 74 11)) 74 14 (nI 0) 74 11 = nI (stk n y e) := by rw [al_up_j (by decide), al_up_j (by decide)]; exact g3
    have u4 : al_up (al_up I' 74 12 (I' 74 11)) 74 14 (nI 0) 74 12 = nI (stk n y e) := by rw [al_up_j (by decide), al_up_s]; exact g3
    have u5 : al_up (al_up I' 74 12 (I' 74 11)) 74 14 (nI 0) 74 14 = nI 0 := al_up_s
    have put : ∀ v : Int32, kL I (al_up (al_up (al_up I' 74 12 (I' 74 11)) 74 14 (nI 0)) 74 13 v) ∧ al_up (al_up (al_up I' 74 12 (I' 74 11)) 74 14 (nI 0)) 74 13 v 74 15 = I 74 15 ∧ al_up (al_up (al_up I' 74 12 (I' 74 11)) 74 14 (nI 0)) 74 13 v 74 11 = nI (stk n y e) ∧ al_up (al_up (al_up I' 74 12 (I' 74 11)) 74 14 (nI 0)) 74 13 v 74 12 = nI (stk n y e) ∧ al_up (al_up (al_up I' 74 12 (I' 74 11)) 74 14 (nI 0)) 74 13 v 74 13 = v ∧ al_up (al_up (al_up I' 74 12 (I' 74 11)) 74 14 (nI 0)) 74 13 v 74 14 = nI 0 := fun v => ⟨u1.tr (kL.up _ _ (by omega)), by rw [al_up_j (by decide)]; exact u2, by rw [al_up_j (by decide)]; exact u3, by rw [al_up_j (by decide)]; exact u4, al_up_s, by rw [al_up_j (by decide)]; exact u5⟩
    by_cases hn : n ≤ stk n y e
    · have hk : kdk n y e = 0 := by unfold kdk; rw [if_pos hn]
      have hx : enk n y e = stk n y e := by unfold enk; rw [if_pos hn]
      rw [show bya n y (stk n y e) = -1 from if_neg (by omega)]
      obtain ⟨p1, p2, p3, p4, p5, p6⟩ := put (nI 0)
      refine br_f (by decide +kernel) (fin _ _ p1 p2 ⟨he, p3, ?_, ?_, ?_⟩)
      · rw [p4, hx]
      · rw [p5]; unfold skd; rw [hk]; rfl
      · rw [p6]; unfold vvk; rw [hk]; rfl
    · have hy := (ht.2.2 (stk n y e) (by omega)).2
      rw [show bya n y (stk n y e) = nI (y (stk n y e)) from if_pos (by omega)]
      refine br_t (nI_pos' (by omega)) (b68 _ _ _ _ _ _ ?_)
      cases hl : isL (y (stk n y e)) with
      | true =>
        have hl2 := hl
        simp only [isL, Bool.and_eq_true, decide_eq_true_eq] at hl2
        have hk : kdk n y e = 1 := by unfold kdk; rw [if_neg hn, if_pos hl]
        have hx : enk n y e = fnx (fun j => !(isL (y j))) (stk n y e) (n - stk n y e) := by unfold enk; rw [if_neg hn, if_pos hl]
        obtain ⟨p1, p2, p3, p4, p5, p6⟩ := put (nI 1)
        exact mi_t (by decide) hl2.1 hl2.2 (br_f n10 (lets _ (n - stk n y e) (stk n y e) _ (by omega) hk hx p1 p2 p3 p4 p5 p6))
      | false =>
        have hl2 : y (stk n y e) < 97 ∨ 122 < y (stk n y e) := by
          have hl' := hl
          simp only [isL, Bool.and_eq_false_iff, decide_eq_false_iff_not] at hl'
          omega
        refine mw_f (by rw [nT (by omega), nT (by omega), nT (by omega)]; omega) (br_t nI_0 (b115 _ _ _ _ _ _ ?_))
        cases hd : isD (y (stk n y e)) with
        | true =>
          have hd2 := hd
          simp only [isD, Bool.and_eq_true, decide_eq_true_eq] at hd2
          have hk : kdk n y e = 2 := by unfold kdk; rw [if_neg hn, if_neg (by rw [hl]; decide), if_pos hd]
          have hx : enk n y e = fnx (fun j => !(isD (y j))) (stk n y e) (n - stk n y e) := by unfold enk; rw [if_neg hn, if_neg (by rw [hl]; decide), if_pos hd]
          obtain ⟨p1, p2, p3, p4, p5, p6⟩ := put (nI 2)
          exact mi_t (by decide) hd2.1 hd2.2 (br_f n10 (digs _ (n - stk n y e) 0 _ (by omega) hk hx p1 p2 p3 p4 p5 p6))
        | false =>
          have hd2 : y (stk n y e) < 48 ∨ 57 < y (stk n y e) := by
            have hd' := hd
            simp only [isD, Bool.and_eq_false_iff, decide_eq_false_iff_not] at hd'
            omega
          have hk : skd n y e = 3 ∧ ¬ kdk n y e = 2 := by
            unfold skd kdk
            rw [if_neg hn, if_neg (by rw [hl]; decide), if_neg (by rw [hd]; decide)]
            split <;> omega
          have hx : enk n y e = stk n y e + 1 := by unfold enk; rw [if_neg hn, if_neg (by rw [hl]; decide), if_neg (by rw [hd]; decide)]
          obtain ⟨p1, p2, p3, p4, p5, p6⟩ := put (nI 3)
          refine mw_f (by rw [nT (by omega), nT (by omega), nT (by omega)]; omega) (br_t nI_0 (b191 _ _ _ _ _ _ (fin _ _ (p1.tr (kL.up _ _ (by omega))) (by rw [al_up_j (by decide)]; exact p2) ⟨he, by rw [al_up_j (by decide)]; exact p3, ?_, by rw [al_up_j (by decide), p5, hk.1], ?_⟩)))
          · show al_up (al_up (al_up (al_up I' 74 12 (I' 74 11)) 74 14 (nI 0)) 74 13 (nI 3)) 74 12 (al_up (al_up (al_up I' 74 12 (I' 74 11)) 74 14 (nI 0)) 74 13 (nI 3) 74 12 + nI 1) 74 12 = _
            rw [al_up_s, p4, hx]
            exact (nI_s _).symm
          · rw [al_up_j (by decide), p6]
            unfold vvk
            rw [if_neg hk.2]
  have skip : ∀ (d i : Nat) (I' : II), i + d = n → stk n y e = fnx (fun j => !(decide (y j = 32))) i d → kL I I' → I' 74 15 = I 74 15 → I' 74 11 = nI i → F 8 [some (.ref 74), none] [] 90 al_R0 I' J := by
    intro d
    induction d with
    | zero =>
      intro i I' hi hx g1 g2 g3
      refine b8 _ _ _ _ _ _ (ma_byteAt (g1.TQ ht) g3 (by omega) ?_)
      rw [show bya n y i = -1 from if_neg (by omega)]
      exact br_u (by decide +kernel) (tok I' g1 g2 (by rw [g3, hx]; rfl))
    | succ d ih =>
      intro i I' hi hx g1 g2 g3
      have hy := ((g1.TQ ht).2.2 i (by omega)).2
      refine b8 _ _ _ _ _ _ (ma_byteAt (g1.TQ ht) g3 (by omega) ?_)
      rw [show bya n y i = nI (y i) from if_pos (by omega)]
      refine And.intro (fun c => ?_) (fun c => ?_)
      · rw [nI_eq (by omega) (by omega)] at c
        exact tok I' g1 g2 (by rw [g3, hx, fnx_yes (by simp [c])])
      · rw [nI_eq (by omega) (by omega)] at c
        exact ih (i + 1) (al_up I' 74 11 (I' 74 11 + nI 1)) (by omega) (by rw [hx, fnx_no (by simp [c])]) (g1.tr (kL.up _ _ (by omega))) (by rw [al_up_j (by decide)]; exact g2) (by rw [al_up_s, g3]; exact (nI_s i).symm)
  refine b0 _ _ _ _ _ _ (skip (n - e) e _ (by omega) rfl (kL.up I _ (by omega)) (al_up_j (by decide)) ?_)
  show al_up I 74 11 (I 74 12) 74 11 = nI e
  rw [al_up_s, h12]
