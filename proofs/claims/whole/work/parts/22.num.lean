/-! NUMBERS: comparisons as of whole numbers -/
theorem i0_lt {x : Int32} : x < 0 ↔ x.toInt < 0 := by rw [Int32.lt_iff_toInt_lt, Int32.toInt_zero]
theorem i0_le {x : Int32} : 0 ≤ x ↔ 0 ≤ x.toInt := by rw [Int32.le_iff_toInt_le, Int32.toInt_zero]
theorem in_le {x : Int32} {n : Nat} (hn : n < 2 ^ 31) : nI n ≤ x ↔ (n : Int) ≤ x.toInt := by rw [Int32.le_iff_toInt_le, nI_toInt hn]
theorem in_lt {x : Int32} {n : Nat} (hn : n < 2 ^ 31) : nI n < x ↔ (n : Int) < x.toInt := by rw [Int32.lt_iff_toInt_lt, nI_toInt hn]
theorem ix_lt {x : Int32} {n : Nat} (hn : n < 2 ^ 31) : x < nI n ↔ x.toInt < (n : Int) := by rw [Int32.lt_iff_toInt_lt, nI_toInt hn]
theorem ix_le {x : Int32} {n : Nat} (hn : n < 2 ^ 31) : x ≤ nI n ↔ x.toInt ≤ (n : Int) := by rw [Int32.le_iff_toInt_le, nI_toInt hn]
theorem i_of {x : Int32} {n : Nat} (h : x.toInt = (n : Int)) (hn : n < 2 ^ 31) : x = nI n := by
  rw [← Int32.toInt_inj, nI_toInt hn]
  exact h
theorem i_sub {a b : Nat} (ha : a < 2 ^ 30) (hb : b < 2 ^ 30) : (nI a - nI b).toInt = (a : Int) - b := pk_sub_toInt ha hb
theorem nI_1' : nI 1 = 1 := by decide +kernel
theorem i_bit (b : Bool) : nI b.toNat = 0 ∨ nI b.toNat = 1 := by cases b <;> decide +kernel
theorem al_rk_in {v : Option Nat} {q : Nat} {k : Nat → Prop} (h : v = some q) (hk : k q) : al_rk v k := by
  subst h
  exact hk
/-! THE TOWN's SQUARES: c j is what square j is; points by ROW and COLUMN (shifted by one: 0 is outside) -/
def own (c : Nat → Nat) (h r k : Nat) : Bool := decide (1 ≤ r ∧ r ≤ 8 ∧ 1 ≤ k ∧ k ≤ 8) && decide (c (8 * (r - 1) + (k - 1)) = 10 + h)
def shp (c : Nat → Nat) (h p : Nat) : Nat :=
  let a := own c h (p / 9) (p % 9)
  let b := own c h (p / 9) (p % 9 + 1)
  let d := own c h (p / 9 + 1) (p % 9)
  let e := own c h (p / 9 + 1) (p % 9 + 1)
  let m := a.toNat + b.toNat + d.toNat + e.toNat
  if m = 1 then 1 else if m = 3 then 3 else if m = 2 ∧ a = e then 2 else 0
def sqr (I : II) (p : Nat) (c : Nat → Nat) : Prop := ∀ j, j < 64 → I p j = nI (c j)
def cdo (c : Nat → Nat) : Prop := ∀ j, j < 64 → c j < 16
theorem own_out {c : Nat → Nat} {h r k : Nat} (hh : ¬ (1 ≤ r ∧ r ≤ 8 ∧ 1 ≤ k ∧ k ≤ 8)) : own c h r k = false := by simp [own, hh]
theorem own_in {c : Nat → Nat} {h r k : Nat} (h1 : 1 ≤ r) (h2 : r ≤ 8) (h3 : 1 ≤ k) (h4 : k ≤ 8) : own c h r k = decide (c (8 * (r - 1) + (k - 1)) = 10 + h) := by simp [own, h1, h2, h3, h4]
theorem ca_isOf {h r k : Nat} {row col : Int32} {c : Nat → Nat} {I : II} {J : JJ} {Q : QT} (hsq : sqr I 9 c) (hcd : cdo c) (hh : h < 6) (hr : row.toInt = (r : Int) - 1) (hk : col.toInt = (k : Int) - 1) (hr9 : r < 100) (hk9 : k < 100) (kq : Q (some (.int (nI (own c h r k).toNat))) 90 al_R0 I J) : CT m_X9_isOf 0 [.ref 8, .int (nI h), .int row, .int col] 90 al_R0 I J Q := by
  refine r_X9_isOf (by decide) (fun F wk b0 b42 b43 => ?_)
  have no : ¬ (1 ≤ r ∧ r ≤ 8 ∧ 1 ≤ k ∧ k ≤ 8) → F 42 [some (.ref 8), some (.int (nI h)), some (.int row), some (.int col)] [] 90 al_R0 I J := fun hn => by
    rw [own_out hn] at kq
    exact b42 _ _ _ _ _ _ (b43 _ _ _ _ _ _ (And.intro (Or.inl nI_0) kq))
  refine b0 _ _ _ _ _ _ (And.intro (fun c1 => ?_) (fun c1 => And.intro (fun c2 => ?_) (fun c2 => And.intro (fun c3 => ?_) (fun c3 => And.intro (fun c4 => ?_) (fun c4 => ?_)))))
  · exact no (by rw [i0_lt] at c1; omega)
  · exact no (by rw [in_le (by decide)] at c2; omega)
  · exact no (by rw [i0_lt] at c3; omega)
  · exact no (by rw [in_le (by decide)] at c4; omega)
  · rw [i0_lt] at c1 c3
    rw [in_le (by decide)] at c2 c4
    have er : row = nI (r - 1) := i_of (by omega) (by omega)
    have ek : col = nI (k - 1) := i_of (by omega) (by omega)
    have hj : 8 * (r - 1) + (k - 1) < 64 := by omega
    refine Exists.intro (8 * (r - 1) + (k - 1)) (And.intro hj (And.intro (by rw [er, ek, pk_mul, nI_add]) ?_))
    have hv := hsq _ hj
    have hc9 := hcd _ hj
    rw [own_in (by omega) (by omega) (by omega) (by omega)] at kq
    refine And.intro (fun c5 => ?_) (fun c5 => ?_)
    · rw [hv, nI_add, nI_eq (by omega) (by omega)] at c5
      rw [decide_eq_false c5] at kq
      exact b42 _ _ _ _ _ _ (b43 _ _ _ _ _ _ (And.intro (Or.inl nI_0) kq))
    · rw [hv, nI_add, nI_eq (by omega) (by omega)] at c5
      rw [decide_eq_true c5] at kq
      exact b43 _ _ _ _ _ _ (And.intro (Or.inr nI_1') kq)
theorem br_u {c A B : Prop} (h : ¬ c) (a : A) : (¬ c → A) ∧ (c → B) := ⟨fun _ => a, fun q => absurd q h⟩
theorem br_v {c A B : Prop} (h : c) (b : B) : (¬ c → A) ∧ (c → B) := ⟨fun q => absurd h q, fun _ => b⟩
/-- a bit to a number: two blocks that come together -/
theorem bit_eq (b : Bool) : (nI b.toNat = 0) = (b = false) := by cases b <;> simp <;> decide +kernel
set_option maxHeartbeats 1000000 in
theorem ca_shapeAt {h p : Nat} {c : Nat → Nat} {I : II} {J : JJ} {Q : QT} (hsq : sqr I 9 c) (hcd : cdo c) (hh : h < 6) (hp : p < 81) (kq : Q (some (.int (nI (shp c h p)))) 90 al_R0 I J) : CT m_X9_shapeAt 0 [.ref 8, .int (nI h), .int (nI p)] 90 al_R0 I J Q := by
  refine r_X9_shapeAt (by decide) (fun F wk b0 b68 b69 b78 b79 b89 b90 b100 b101 b112 b120 b137 b138 => ?_)
  have hd : nI p / nI 9 = nI (p / 9) := pk_div (by omega) (by decide) (by decide)
  have hm : nI p - nI p / nI 9 * nI 9 = nI (p % 9) := pk_rem (by omega) (by decide) (by decide)
  refine b0 _ _ _ _ _ _ (And.intro (by decide +kernel) (And.intro (by decide +kernel) ?_))
  rw [hm, hd]
  refine ca_isOf (r := p / 9) (k := p % 9) hsq hcd hh (by rw [i_sub (by omega) (by omega)]; rfl) (by rw [i_sub (by omega) (by omega)]; rfl) (by omega) (by omega) ?_
  refine ca_isOf (r := p / 9) (k := p % 9 + 1) hsq hcd hh (by rw [i_sub (by omega) (by omega)]; rfl) (by rw [nI_toInt (by omega)]; omega) (by omega) (by omega) ?_
  refine ca_isOf (r := p / 9 + 1) (k := p % 9) hsq hcd hh (by rw [nI_toInt (by omega)]; omega) (by rw [i_sub (by omega) (by omega)]; rfl) (by omega) (by omega) ?_
  refine ca_isOf (r := p / 9 + 1) (k := p % 9 + 1) hsq hcd hh (by rw [nI_toInt (by omega)]; omega) (by rw [nI_toInt (by omega)]; omega) (by omega) (by omega) ?_
  unfold shp at kq
  dsimp only at kq
  generalize own c h (p / 9) (p % 9) = A at kq ⊢
  generalize own c h (p / 9) (p % 9 + 1) = B at kq ⊢
  generalize own c h (p / 9 + 1) (p % 9) = D at kq ⊢
  generalize own c h (p / 9 + 1) (p % 9 + 1) = E at kq ⊢
  cases A <;> cases B <;> cases D <;> cases E <;> (
    simp at kq
    repeat (first
      | exact kq
      | refine br_t (by decide +kernel) ?_
      | refine br_f (by decide +kernel) ?_
      | refine br_u (by decide +kernel) ?_
      | refine br_v (by decide +kernel) ?_
      | refine b68 _ _ _ _ _ _ ?_
      | refine b69 _ _ _ _ _ _ ?_
      | refine b78 _ _ _ _ _ _ ?_
      | refine b79 _ _ _ _ _ _ ?_
      | refine b89 _ _ _ _ _ _ ?_
      | refine b90 _ _ _ _ _ _ ?_
      | refine b100 _ _ _ _ _ _ ?_
      | refine b101 _ _ _ _ _ _ ?_
      | refine b112 _ _ _ _ _ _ ?_
      | refine b120 _ _ _ _ _ _ ?_
      | refine b137 _ _ _ _ _ _ ?_
      | refine b138 _ _ _ _ _ _ ?_))
