/-! THE START: references, state -/
def RB (R : RR) : Prop := ∀ p j, (90 ≤ p ∨ 30 ≤ j) → R p j = none
theorem RB.up {R : RR} {p j : Nat} {v : Option Nat} (h : RB R) (hp : p < 90) (hj : j < 30) : RB (al_up R p j v) := fun q k hq => by
  rcases hq with g | g
  · rw [al_up_p (by omega)]; exact h q k (Or.inl g)
  · rw [al_up_j (by omega)]; exact h q k (Or.inr g)
theorem RB.h9 {b : Nat} {R : RR} (hb : b + 15 ≤ 90) (h : RB R) : ∀ i, i ≤ 6 → RB (R9h b R i)
  | 0, _ => h
  | i + 1, hi => ((RB.h9 hb h i (by omega)).up (by omega) (by omega)).up (by omega) (by omega)
theorem RB.r9 {b : Nat} {R : RR} (hb : b + 15 ≤ 90) (h : RB R) : RB (R9 b R) := RB.h9 hb (((h.up (by omega) (by omega)).up (by omega) (by omega)).up (by omega) (by omega)) 6 (Nat.le_refl 6)
theorem RB.h7 {R : RR} (h : RB R) : ∀ i, i ≤ 4 → RB (R7h R i)
  | 0, _ => h
  | i + 1, hi => ((RB.h7 h i (by omega)).up (by omega) (by omega)).up (by omega) (by omega)
theorem RB.n : RB RN := fun _ _ _ => rfl
theorem RB.l : RB Rl := ((((((RB.n).up (by decide) (by decide)).up (by decide) (by decide)).up (by decide) (by decide)).up (by decide) (by decide)).up (by decide) (by decide)).up (by decide) (by decide)
theorem RB.a : RB Ra := (RB.l.r9 (b := 8) (by decide)).up (by decide) (by decide)
theorem RB.b : RB Rb := (RB.a.r9 (b := 23) (by decide)).up (by decide) (by decide)
theorem RB.c : RB Rc := (((((((RB.b.up (by decide) (by decide)).up (by decide) (by decide)).up (by decide) (by decide)).up (by decide) (by decide)).up (by decide) (by decide)).up (by decide) (by decide)).up (by decide) (by decide)).up (by decide) (by decide)
theorem RB.d : RB Rd := ((((RB.c.r9 (b := 46) (by decide)).up (by decide) (by decide)).up (by decide) (by decide)).up (by decide) (by decide)).up (by decide) (by decide)
theorem RB.f : RB Rf := (((((RB.d.up (by decide) (by decide) : RB Re)).h7 4 (Nat.le_refl 4)).up (by decide) (by decide)).up (by decide) (by decide)).up (by decide) (by decide)
theorem RB.m : RB (R12 Rf) := (((((((((((((((((((((((((RB.f).up (by decide) (by decide)).up (by decide) (by decide)).up (by decide) (by decide)).up (by decide) (by decide)).up (by decide) (by decide)).up (by decide) (by decide)).up (by decide) (by decide)).up (by decide) (by decide)).up (by decide) (by decide)).up (by decide) (by decide)).up (by decide) (by decide)).up (by decide) (by decide)).up (by decide) (by decide)).up (by decide) (by decide)).up (by decide) (by decide)).up (by decide) (by decide)).up (by decide) (by decide)).up (by decide) (by decide)).up (by decide) (by decide)).up (by decide) (by decide)).up (by decide) (by decide)).up (by decide) (by decide)).up (by decide) (by decide)).up (by decide) (by decide)).up (by decide) (by decide)
theorem nth_out {α : Type} : ∀ {l : List α} {i : Nat} {d : α}, l.length ≤ i → al_nth l i d = d
  | [], _, _, _ => rfl
  | _ :: l, 0, d, h => absurd h (by simp)
  | _ :: l, i + 1, d, h => nth_out (l := l) (by simp at h; omega)
theorem r0_len : al_R0T.length = 90 := by decide +kernel
theorem r0_row : ∀ p, p < 90 → (al_nth al_R0T p []).length ≤ 30 := by decide +kernel
theorem RB.o : RB al_R0 := fun p j h => by
  show al_nth (al_nth al_R0T p []) j none = none
  rcases Nat.lt_or_ge p 90 with g | g
  · have := r0_row p g
    exact nth_out (by omega)
  · rw [nth_out (l := al_R0T) (by rw [r0_len]; exact g)]
    rfl
theorem eqR_t : ∀ p, p < 90 → ∀ j, j < 30 → R12 Rf p j = al_R0 p j := by decide +kernel
theorem eqR : R12 Rf = al_R0 := by
  funext p j
  by_cases h : p < 90 ∧ j < 30
  · exact eqR_t p h.1 j h.2
  · rw [RB.m p j (by omega), RB.o p j (by omega)]
def T0 : TW := (fun _ => 0, 0, fun _ _ => 0, fun _ _ => 0)
def S0 : SG := (T0, false, T0, (0, fun _ => 0), (fun _ => 0, fun _ => 0, fun _ _ => 0), fun _ => 0)
theorem VT_0 : VT T0 := ⟨Nat.zero_le _, fun _ _ => Or.inl (Nat.zero_le _), fun h hh => absurd hh (Nat.not_lt_zero h)⟩
theorem VS_0 : VS S0 := ⟨VT_0, fun h => absurd h (by decide), ⟨Nat.zero_le _, fun j hj => absurd hj (Nat.not_lt_zero j)⟩, fun s _ => ⟨⟨0, Nat.zero_le _, nI_0.symm⟩, Or.inl nI_0.symm⟩⟩
theorem CI_0 {I : II} (g1 : ∀ q, q ≠ 38 → q ≠ 39 → I q = ZI q) (g2 : ∀ j, j < 81 → I 39 j = -1) (g3 : I 38 7 = -1) : CI S0 I ZJ := by
  have z : ∀ q j, q ≠ 38 → q ≠ 39 → I q j = 0 := fun q j h1 h2 => by rw [g1 q h1 h2]; rfl
  refine ⟨⟨(z 8 3 (by decide) (by decide)).trans nI_0.symm, fun j _ => (z 9 j (by decide) (by decide)).trans nI_0.symm, ⟨fun j _ => gb_0 j, fun j _ => gb_0 j⟩, fun h hh f hf => z _ _ (by omega) (by omega), fun h hh k hk => z _ _ (by omega) (by omega)⟩, fun p hp => Or.inl (g2 p hp), Or.inl g3, fun n _ _ => Or.inl (z 72 n (by decide) (by decide)), ⟨(z 0 2 (by decide) (by decide)).trans nI_0.symm, fun h => absurd h (by decide)⟩, ⟨(z 45 3 (by decide) (by decide)).trans nI_0.symm, fun j hj => absurd hj (Nat.not_lt_zero j)⟩, fun s hs => ⟨z _ _ (by omega) (by omega), z _ _ (by omega) (by omega), fun k hk => rfl⟩, fun k hk => z 71 k (by decide) (by decide)⟩
theorem MI_0 {I : II} (g1 : ∀ q, q ≠ 38 → q ≠ 39 → I q = ZI q) : MI S0 I ZJ := by
  have z : ∀ q j, q ≠ 38 → q ≠ 39 → I q j = 0 := fun q j h1 h2 => by rw [g1 q h1 h2]; rfl
  refine ⟨⟨fun j _ => (z 75 j (by decide) (by decide)).trans nI_0.symm, fun h hh f hf => z _ _ (by decide) (by decide), fun h hh k hk => z _ _ (by decide) (by decide), (z 75 142 (by decide) (by decide)).trans nI_0.symm⟩, Or.inl ((z 74 5 (by decide) (by decide)).trans nI_0.symm), ⟨(z 74 2 (by decide) (by decide)).trans nI_0.symm, fun h => absurd h (by decide)⟩, ⟨(z 74 10 (by decide) (by decide)).trans nI_0.symm, fun j hj => absurd hj (Nat.not_lt_zero j)⟩, fun s hs => ⟨z _ _ (by decide) (by decide), z _ _ (by decide) (by decide), fun k hk => rfl⟩, ⟨fun k hk => z 77 _ (by decide) (by decide), (z 77 0 (by decide) (by decide)).trans (by decide +kernel)⟩⟩
