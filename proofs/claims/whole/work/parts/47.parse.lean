/-! THE TEXT: what it tells (pure) -/
abbrev IT : Type := Nat × Nat × Nat × (Nat → Bool)
def noS : Nat → Bool := fun _ => false
def it0 : IT := (0, 0, 0, noS)
def pnum (n : Nat) (y : Nat → Nat) (e lo hx : Nat) : Bool := decide (kdk n y e = 2) && (decide (lo ≤ vlk n y e) && decide (vlk n y e < hx))
def plw (n : Nat) (y : Nat → Nat) (e : Nat) : Nat := fnx (fun w => isw n y e w) 0 4
def knd (n : Nat) (y : Nat → Nat) (e : Nat) : Nat := fnx (fun k => isw n y e (4 + k)) 0 6
def sq1 (n : Nat) (y : Nat → Nat) : Nat → Nat → Nat → (Nat → Bool) → Bool × Nat × Nat × (Nat → Bool)
  | 0, m, e, S => (false, e, m, S)
  | d + 1, m, e, S => if pnum n y e m 64 = true then (if kdk n y (enk n y e) = 2 then sq1 n y d (vlk n y e + 1) (enk n y e) (ups S (vlk n y e) true) else (true, enk n y e, vlk n y e + 1, ups S (vlk n y e) true)) else (false, e, m, S)
def sqt (n : Nat) (y : Nat → Nat) (r : Bool × Nat × Nat × (Nat → Bool)) : Bool × Nat × (Nat → Bool) := if r.1 = true ∧ kdk n y r.2.1 = 1 ∧ isw n y r.2.1 12 = true then (if pnum n y (enk n y r.2.1) r.2.2.1 64 = true then (true, enk n y (enk n y r.2.1), fun j => r.2.2.2 j || (decide (r.2.2.1 ≤ j) && decide (j < vlk n y (enk n y r.2.1) + 1))) else (false, enk n y r.2.1, r.2.2.2)) else (r.1, r.2.1, r.2.2.2)
def sqs (n : Nat) (y : Nat → Nat) (e : Nat) : Bool × Nat × (Nat → Bool) := sqt n y (sq1 n y 64 0 e noS)
def prc (n : Nat) (y : Nat → Nat) (nh e : Nat) : Bool × Nat × IT := if pnum n y (enk n y e) 0 nh = true then (if pnum n y (enk n y (enk n y e)) 0 10000 = true then (true, enk n y (enk n y (enk n y e)), (11, vlk n y (enk n y e), vlk n y (enk n y (enk n y e)), noS)) else (false, enk n y (enk n y e), it0)) else (false, enk n y e, it0)
def phs (n : Nat) (y : Nat → Nat) (nh e : Nat) : Bool × Nat × IT := if 6 ≤ nh then (false, e, it0) else if pnum n y (enk n y e) 1 100 = true then (if kdk n y (enk n y (enk n y e)) = 1 ∧ isw n y (enk n y (enk n y e)) 11 = true then ((sqs n y (enk n y (enk n y (enk n y e)))).1, (sqs n y (enk n y (enk n y (enk n y e)))).2.1, (10, knd n y e, vlk n y (enk n y e), (sqs n y (enk n y (enk n y (enk n y e)))).2.2)) else (true, enk n y (enk n y e), (10, knd n y e, vlk n y (enk n y e), noS))) else (false, enk n y e, it0)
def pit1 (n : Nat) (y : Nat → Nat) (nh e : Nat) : Bool × Nat × IT := if ¬ kdk n y e = 1 then (false, e, it0) else if isw n y e 10 = true then prc n y nh e else if plw n y e < 4 then ((sqs n y (enk n y e)).1, (sqs n y (enk n y e)).2.1, (plw n y e, 0, 0, (sqs n y (enk n y e)).2.2)) else if knd n y e < 6 then phs n y nh e else (false, e, it0)
def nhs (nh : Nat) (it : IT) : Nat := if it.1 = 10 then nh + 1 else nh
def prf (n : Nat) (y : Nat → Nat) : Nat → Nat → Nat → Nat → (Nat → IT) → Bool × Nat × Nat × (Nat → IT)
  | 0, _, e, i, its => (false, e, i, its)
  | d + 1, nh, e, i, its => if (pit1 n y nh e).1 = true then (if kdk n y (pit1 n y nh e).2.1 = 0 then (true, (pit1 n y nh e).2.1, i + 1, ups its i (pit1 n y nh e).2.2) else if kdk n y (pit1 n y nh e).2.1 = 3 then prf n y d (nhs nh (pit1 n y nh e).2.2) (enk n y (pit1 n y nh e).2.1) (i + 1) (ups its i (pit1 n y nh e).2.2) else (false, (pit1 n y nh e).2.1, i + 1, ups its i (pit1 n y nh e).2.2)) else (false, (pit1 n y nh e).2.1, i, its)
def lyS (c : Nat → Nat) (S : Nat → Bool) (v : Nat) : Nat → Nat := fun j => if S j = true then v else c j
def ap1 (it : IT) (T : TW) : TW := if it.1 = 11 then setf T it.2.1 2 (nI it.2.2.1) else if it.1 = 10 then bld T (nI it.2.1) (nI it.2.2.1) else T
def ap (it : IT) (T : TW) : TW := (lyS (ap1 it T).1 it.2.2.2 (if it.1 = 10 then 10 + T.2.1 else it.1), (ap1 it T).2)
def apl (T : TW) (its : Nat → IT) : Nat → TW
  | 0 => T
  | k + 1 => ap (its k) (apl T its k)
theorem pnum_iff {n : Nat} {y : Nat → Nat} {e lo hx : Nat} : pnum n y e lo hx = true ↔ kdk n y e = 2 ∧ lo ≤ vlk n y e ∧ vlk n y e < hx := by simp [pnum]
theorem vlk_le (n : Nat) (y : Nat → Nat) (e : Nat) : vlk n y e ≤ 10000 := dgs_le _ _ _
/-- where the pieces end -/
theorem sq1_le {n : Nat} {y : Nat → Nat} : ∀ {d m e : Nat} {S : Nat → Bool}, e ≤ n → e ≤ (sq1 n y d m e S).2.1 ∧ (sq1 n y d m e S).2.1 ≤ n
  | 0, m, e, S, h => ⟨Nat.le_refl e, h⟩
  | d + 1, m, e, S, h => by
    have a1 := stk_le (y := y) h
    have a2 := enk_le (y := y) h
    unfold sq1
    split
    · split
      · have := sq1_le (n := n) (y := y) (d := d) (m := vlk n y e + 1) (e := enk n y e) (S := ups S (vlk n y e) true) a2.2
        omega
      · exact ⟨by show e ≤ enk n y e; omega, a2.2⟩
    · exact ⟨Nat.le_refl e, h⟩
theorem sqs_le {n : Nat} {y : Nat → Nat} {e : Nat} (h : e ≤ n) : e ≤ (sqs n y e).2.1 ∧ (sqs n y e).2.1 ≤ n := by
  have h1 := sq1_le (n := n) (y := y) (d := 64) (m := 0) (e := e) (S := noS) h
  unfold sqs sqt
  generalize sq1 n y 64 0 e noS = r at *
  have a1 := stk_le (y := y) h1.2
  have a2 := enk_le (y := y) h1.2
  have b1 := stk_le (y := y) a2.2
  have b2 := enk_le (y := y) a2.2
  split
  · split
    · exact ⟨by show e ≤ enk n y (enk n y r.2.1); omega, b2.2⟩
    · exact ⟨by show e ≤ enk n y r.2.1; omega, a2.2⟩
  · exact h1
theorem pit1_le {n : Nat} {y : Nat → Nat} {nh e : Nat} (h : e ≤ n) : e ≤ (pit1 n y nh e).2.1 ∧ (pit1 n y nh e).2.1 ≤ n ∧ ((pit1 n y nh e).1 = true → e + 1 ≤ (pit1 n y nh e).2.1) := by
  have a1 := stk_le (y := y) h
  have a2 := enk_le (y := y) h
  have b1 := stk_le (y := y) a2.2
  have b2 := enk_le (y := y) a2.2
  have c1 := stk_le (y := y) b2.2
  have c2 := enk_le (y := y) b2.2
  have s1 := sqs_le (y := y) a2.2
  have s3 := sqs_le (y := y) c2.2
  unfold pit1
  by_cases k : kdk n y e = 1
  · have a3 := enk_gt (y := y) h (by rw [k]; decide)
    rw [if_neg (by omega)]
    split
    · unfold prc
      split
      · split
        · exact ⟨by show e ≤ enk n y (enk n y (enk n y e)); omega, c2.2, fun _ => by show e + 1 ≤ enk n y (enk n y (enk n y e)); omega⟩
        · exact ⟨by show e ≤ enk n y (enk n y e); omega, b2.2, fun q => absurd (show false = true from q) (by decide)⟩
      · exact ⟨by show e ≤ enk n y e; omega, a2.2, fun q => absurd (show false = true from q) (by decide)⟩
    · split
      · exact ⟨by show e ≤ (sqs n y (enk n y e)).2.1; omega, s1.2, fun _ => by show e + 1 ≤ (sqs n y (enk n y e)).2.1; omega⟩
      · split
        · unfold phs
          split
          · exact ⟨Nat.le_refl e, h, fun q => absurd (show false = true from q) (by decide)⟩
          · split
            · split
              · exact ⟨by show e ≤ (sqs n y (enk n y (enk n y (enk n y e)))).2.1; omega, s3.2, fun _ => by show e + 1 ≤ (sqs n y (enk n y (enk n y (enk n y e)))).2.1; omega⟩
              · exact ⟨by show e ≤ enk n y (enk n y e); omega, b2.2, fun _ => by show e + 1 ≤ enk n y (enk n y e); omega⟩
            · exact ⟨by show e ≤ enk n y e; omega, a2.2, fun q => absurd (show false = true from q) (by decide)⟩
        · exact ⟨Nat.le_refl e, h, fun q => absurd (show false = true from q) (by decide)⟩
  · rw [if_pos k]
    exact ⟨Nat.le_refl e, h, fun q => absurd (show false = true from q) (by decide)⟩
/-- an item that came through -/
def IV (nh : Nat) (it : IT) : Prop := (it.1 = 11 ∧ it.2.1 < nh ∧ it.2.2.1 < 10000 ∧ it.2.2.2 = noS) ∨ (it.1 = 10 ∧ nh < 6 ∧ it.2.1 < 6 ∧ 1 ≤ it.2.2.1 ∧ it.2.2.1 ≤ 99) ∨ it.1 ≤ 3
theorem pit1_iv {n : Nat} {y : Nat → Nat} {nh e : Nat} (h : (pit1 n y nh e).1 = true) : IV nh (pit1 n y nh e).2.2 := by
  unfold pit1 at h ⊢
  by_cases k : kdk n y e = 1
  · rw [if_neg (by omega)] at h ⊢
    split at h
    · rename_i w
      rw [if_pos w]
      unfold prc at h ⊢
      split at h
      · rename_i w1
        rw [if_pos w1]
        split at h
        · rename_i w2
          rw [if_pos w2]
          rw [pnum_iff] at w1 w2
          exact Or.inl ⟨rfl, w1.2.2, w2.2.2, rfl⟩
        · exact absurd (show false = true from h) (by decide)
      · exact absurd (show false = true from h) (by decide)
    · rename_i w
      rw [if_neg w]
      split at h
      · rename_i w1
        rw [if_pos w1]
        exact Or.inr (Or.inr (by show plw n y e ≤ 3; omega))
      · rename_i w1
        rw [if_neg w1]
        split at h
        · rename_i w2
          rw [if_pos w2]
          unfold phs at h ⊢
          split at h
          · exact absurd (show false = true from h) (by decide)
          · rename_i w3
            rw [if_neg w3]
            split at h
            · rename_i w4
              rw [if_pos w4]
              rw [pnum_iff] at w4
              split at h
              · rename_i w5
                rw [if_pos w5]
                exact Or.inr (Or.inl ⟨rfl, by omega, w2, w4.2.1, by show vlk n y (enk n y e) ≤ 99; omega⟩)
              · rename_i w5
                rw [if_neg w5]
                exact Or.inr (Or.inl ⟨rfl, by omega, w2, w4.2.1, by show vlk n y (enk n y e) ≤ 99; omega⟩)
            · exact absurd (show false = true from h) (by decide)
        · exact absurd (show false = true from h) (by decide)
  · rw [if_pos k] at h
    exact absurd (show false = true from h) (by decide)
theorem VTlyS {T : TW} {S : Nat → Bool} {v : Nat} (h : VT T) (hv : vok T.2.1 v) : VT (lyS T.1 S v, T.2) := ⟨h.1, fun j hj => by
  show vok T.2.1 (if S j = true then v else T.1 j)
  split
  · exact hv
  · exact h.2.1 j hj, h.2.2⟩
theorem ap_nh {it : IT} {T : TW} (h : IV T.2.1 it) : (ap it T).2.1 = nhs T.2.1 it := by
  show (ap1 it T).2.1 = nhs T.2.1 it
  unfold ap1 nhs
  rcases h with ⟨e, -⟩ | ⟨e, -⟩ | e
  · rw [if_pos e, if_neg (by omega)]; rfl
  · rw [if_neg (by omega), if_pos e, if_pos e]; rfl
  · rw [if_neg (by omega), if_neg (by omega), if_neg (by omega)]
theorem VT_ap {it : IT} {T : TW} (hv : VT T) (h : IV T.2.1 it) : VT (ap it T) := by
  have h6 := hv.1
  unfold ap
  rcases h with ⟨e, h1, h2, h3⟩ | ⟨e, h1, h2, h3, h4⟩ | e
  · have e1 : ap1 it T = setf T it.2.1 2 (nI it.2.2.1) := by unfold ap1; rw [if_pos e]
    rw [e1, h3]
    have h9 : VT (setf T it.2.1 2 (nI it.2.2.1)) := VT.setf hv (by omega) (by omega) (by omega)
    exact ⟨h9.1, fun j hj => h9.2.1 j hj, h9.2.2⟩
  · have e1 : ap1 it T = bld T (nI it.2.1) (nI it.2.2.1) := by unfold ap1; rw [if_neg (by omega), if_pos e]
    rw [e1, if_pos e]
    refine VTlyS (VT.bld hv h1 h2 h3 h4) ?_
    show vok (T.2.1 + 1) (10 + T.2.1)
    unfold vok
    omega
  · have e1 : ap1 it T = T := by unfold ap1; rw [if_neg (by omega), if_neg (by omega)]
    rw [e1, if_neg (by omega)]
    exact VTlyS hv (by unfold vok; omega)
