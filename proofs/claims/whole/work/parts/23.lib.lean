/-! COUNTING, SEEKING, SETS -/
def cnt (P : Nat → Bool) : Nat → Nat
  | 0 => 0
  | n + 1 => cnt P n + (P n).toNat
theorem cnt_yes {P : Nat → Bool} {n : Nat} (h : P n = true) : cnt P (n + 1) = cnt P n + 1 := by simp [cnt, h]
theorem cnt_no {P : Nat → Bool} {n : Nat} (h : P n = false) : cnt P (n + 1) = cnt P n := by simp [cnt, h]
theorem cnt_le (P : Nat → Bool) : ∀ n, cnt P n ≤ n
  | 0 => Nat.le_refl 0
  | n + 1 => by
    have := cnt_le P n
    unfold cnt
    cases P n <;> simp <;> omega
theorem cnt_cong {P P' : Nat → Bool} : ∀ {n : Nat}, (∀ j, j < n → P j = P' j) → cnt P n = cnt P' n
  | 0, _ => rfl
  | n + 1, h => by rw [cnt, cnt, cnt_cong (fun j hj => h j (by omega)), h n (by omega)]
def anyb (P : Nat → Bool) : Nat → Bool
  | 0 => false
  | n + 1 => anyb P n || P n
theorem anyb_iff {P : Nat → Bool} : ∀ {n : Nat}, anyb P n = true ↔ ∃ j, j < n ∧ P j = true
  | 0 => ⟨fun h => by simp [anyb] at h, fun ⟨j, h, _⟩ => absurd h (by omega)⟩
  | n + 1 => by
    rw [anyb, Bool.or_eq_true, anyb_iff (n := n)]
    constructor
    · rintro (⟨j, h1, h2⟩ | h)
      · exact ⟨j, by omega, h2⟩
      · exact ⟨n, by omega, h⟩
    · rintro ⟨j, h1, h2⟩
      rcases Nat.lt_or_ge j n with q | q
      · exact Or.inl ⟨j, q, h2⟩
      · rw [show j = n by omega] at h2
        exact Or.inr h2
theorem anyb_no {P : Nat → Bool} {n : Nat} (h : ∀ j, j < n → P j = false) : anyb P n = false := by
  cases e : anyb P n with
  | false => rfl
  | true =>
    obtain ⟨j, h1, h2⟩ := anyb_iff.mp e
    rw [h j h1] at h2
    cases h2
theorem anyb_yes {P : Nat → Bool} {n j : Nat} (h : j < n) (h2 : P j = true) : anyb P n = true := anyb_iff.mpr ⟨j, h, h2⟩
/-- the first from s on within d places; s + d if there is none -/
def fnx (P : Nat → Bool) : Nat → Nat → Nat
  | s, 0 => s
  | s, d + 1 => if P s = true then s else fnx P (s + 1) d
theorem fnx_yes {P : Nat → Bool} {s d : Nat} (h : P s = true) : fnx P s (d + 1) = s := by simp [fnx, h]
theorem fnx_no {P : Nat → Bool} {s d : Nat} (h : P s = false) : fnx P s (d + 1) = fnx P (s + 1) d := by simp [fnx, h]
theorem fnx_le {P : Nat → Bool} : ∀ {d s : Nat}, s ≤ fnx P s d ∧ fnx P s d ≤ s + d
  | 0, s => ⟨Nat.le_refl _, Nat.le_refl _⟩
  | d + 1, s => by
    unfold fnx
    by_cases h : P s = true
    · rw [if_pos h]; omega
    · rw [if_neg h]
      have := fnx_le (P := P) (d := d) (s := s + 1)
      omega
theorem fnx_at {P : Nat → Bool} : ∀ {d s : Nat}, fnx P s d < s + d → P (fnx P s d) = true
  | 0, s, h => absurd h (by simp [fnx])
  | d + 1, s, h => by
    unfold fnx at h ⊢
    by_cases hp : P s = true
    · rw [if_pos hp]; exact hp
    · rw [if_neg hp] at h ⊢
      exact fnx_at (by omega)
theorem fnx_out {P : Nat → Bool} : ∀ {d s j : Nat}, s ≤ j → j < fnx P s d → P j = false
  | 0, s, j, h1, h2 => absurd h2 (by simp [fnx]; omega)
  | d + 1, s, j, h1, h2 => by
    unfold fnx at h2
    by_cases hp : P s = true
    · rw [if_pos hp] at h2; omega
    · rw [if_neg hp] at h2
      rcases Nat.lt_or_ge s j with q | q
      · exact fnx_out (d := d) (by omega) h2
      · rw [show j = s by omega]
        simpa using hp
def orb (P : Nat → Bool) : Nat → Int32
  | 0 => nI 0
  | n + 1 => if P n = true then orb P n ||| (nI 1 <<< (nI n &&& 31)) else orb P n
theorem orb_yes {P : Nat → Bool} {n : Nat} (h : P n = true) : orb P (n + 1) = orb P n ||| (nI 1 <<< (nI n &&& 31)) := by simp [orb, h]
theorem orb_no {P : Nat → Bool} {n : Nat} (h : P n = false) : orb P (n + 1) = orb P n := by simp [orb, h]
theorem nI_s (n : Nat) : nI (n + 1) = nI n + nI 1 := (nI_add n 1).symm
/-- a bit of a long -/
def gb (x : Int64) (j : Nat) : Bool := x.toBitVec.getLsbD j
theorem gb_or (x y : Int64) (j : Nat) : gb (x ||| y) j = (gb x j || gb y j) := by simp [gb]
theorem gb_and (x y : Int64) (j : Nat) : gb (x &&& y) j = (gb x j && gb y j) := by simp [gb]
theorem gb_xor (x y : Int64) (j : Nat) : gb (x ^^^ y) j = (gb x j ^^ gb y j) := by simp [gb]
theorem gb_m1 : ∀ j, j < 64 → gb (-1) j = true := by decide +kernel
theorem gb_0 (j : Nat) : gb 0 j = false := by simp [gb]
theorem gb_ext {x y : Int64} (h : ∀ j, j < 64 → gb x j = gb y j) : x = y := by
  apply Int64.toBitVec_inj.mp
  apply BitVec.eq_of_getLsbD_eq
  intro i hi
  exact h i hi
theorem gb_bits : ∀ q, q < 64 → ∀ j, j < 64 → gb (lN 1 <<< ((nI q).toInt64 &&& 63)) j = decide (j = q) := by decide +kernel
theorem gb_zero {x : Int64} : x = 0 ↔ ∀ j, j < 64 → gb x j = false := by
  constructor
  · rintro rfl j hj
    exact gb_0 j
  · intro h
    exact gb_ext (fun j hj => by rw [h j hj, gb_0])
/-- a row with one place changed -/
def ups {α : Type} (f : Nat → α) (k : Nat) (v : α) : Nat → α := fun j => if j = k then v else f j
theorem ups_s {α : Type} {f : Nat → α} {k : Nat} {v : α} : ups f k v k = v := by simp [ups]
theorem ups_n {α : Type} {f : Nat → α} {k j : Nat} {v : α} (h : j ≠ k) : ups f k v j = f j := by simp [ups, h]
theorem ups_row {α : Type} {f : Nat → Nat → α} {p k : Nat} {v : α} : al_up f p k v p = ups (f p) k v := by
  funext j
  simp [al_up, ups]
