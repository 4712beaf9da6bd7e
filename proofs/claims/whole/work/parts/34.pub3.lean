/-! THE I-TH, SUMS OVER HOUSES, YEARS, TAPE, IMAGES, COUNTS -/
/-- the i-th from s on within d places; s + d if there is none -/
def ithp (P : Nat → Bool) : Nat → Nat → Nat → Nat
  | _, s, 0 => s
  | i, s, d + 1 => if P s = true then (if i = 0 then s else ithp P (i - 1) (s + 1) d) else ithp P i (s + 1) d
theorem ithp_le {P : Nat → Bool} : ∀ {d i s : Nat}, ithp P i s d ≤ s + d
  | 0, i, s => Nat.le_refl _
  | d + 1, i, s => by
    unfold ithp
    have h1 := ithp_le (P := P) (d := d) (i := i - 1) (s := s + 1)
    have h2 := ithp_le (P := P) (d := d) (i := i) (s := s + 1)
    split
    · split <;> omega
    · omega
theorem ithp_zero {P : Nat → Bool} : ∀ {d s : Nat}, ithp P 0 s d = fnx P s d
  | 0, s => rfl
  | d + 1, s => by
    unfold ithp fnx
    rw [ithp_zero (d := d)]
    simp
theorem ithp_ge {P : Nat → Bool} : ∀ {d i s : Nat}, ithp P i s d < s + d → s + i ≤ ithp P i s d
  | 0, i, s, h => absurd h (by unfold ithp; omega)
  | d + 1, i, s, h => by
    unfold ithp at h ⊢
    by_cases hp : P s = true
    · rw [if_pos hp] at h ⊢
      by_cases hi : i = 0
      · rw [if_pos hi] at h ⊢; omega
      · rw [if_neg hi] at h ⊢
        have := ithp_ge (P := P) (d := d) (i := i - 1) (s := s + 1) (by omega)
        omega
    · rw [if_neg hp] at h ⊢
      have := ithp_ge (P := P) (d := d) (i := i) (s := s + 1) (by omega)
      omega
theorem ithp_step {P : Nat → Bool} : ∀ {d i s : Nat}, ithp P i s d < s + d → fnx P (ithp P i s d + 1) (s + d - (ithp P i s d + 1)) = ithp P (i + 1) s d
  | 0, i, s, h => absurd h (by unfold ithp; omega)
  | d + 1, i, s, h => by
    by_cases hp : P s = true
    · by_cases hi : i = 0
      · subst hi
        rw [show ithp P 0 s (d + 1) = s by simp [ithp, hp], show ithp P (0 + 1) s (d + 1) = ithp P 0 (s + 1) d by simp [ithp, hp], ithp_zero, show s + (d + 1) - (s + 1) = d by omega]
      · have e1 : ithp P i s (d + 1) = ithp P (i - 1) (s + 1) d := by simp [ithp, hp, hi]
        have e2 : ithp P (i + 1) s (d + 1) = ithp P i (s + 1) d := by simp [ithp, hp]
        rw [e1] at h ⊢
        rw [e2]
        have := ithp_step (P := P) (d := d) (i := i - 1) (s := s + 1) (by omega)
        rw [show i - 1 + 1 = i by omega, show s + 1 + d = s + (d + 1) by omega] at this
        exact this
    · have e1 : ithp P i s (d + 1) = ithp P i (s + 1) d := by simp [ithp, hp]
      have e2 : ithp P (i + 1) s (d + 1) = ithp P (i + 1) (s + 1) d := by simp [ithp, hp]
      rw [e1] at h ⊢
      rw [e2]
      have := ithp_step (P := P) (d := d) (i := i) (s := s + 1) (by omega)
      rw [show s + 1 + d = s + (d + 1) by omega] at this
      exact this
theorem ithp_end {P : Nat → Bool} : ∀ {d i s : Nat}, ithp P i s d = s + d → ithp P (i + 1) s d = s + d
  | 0, i, s, h => rfl
  | d + 1, i, s, h => by
    by_cases hp : P s = true
    · by_cases hi : i = 0
      · rw [hi, show ithp P 0 s (d + 1) = s by simp [ithp, hp]] at h
        omega
      · have e1 : ithp P i s (d + 1) = ithp P (i - 1) (s + 1) d := by simp [ithp, hp, hi]
        have e2 : ithp P (i + 1) s (d + 1) = ithp P i (s + 1) d := by simp [ithp, hp]
        rw [e1] at h
        rw [e2]
        have := ithp_end (P := P) (d := d) (i := i - 1) (s := s + 1) (by omega)
        rw [show i - 1 + 1 = i by omega] at this
        omega
    · have e1 : ithp P i s (d + 1) = ithp P i (s + 1) d := by simp [ithp, hp]
      have e2 : ithp P (i + 1) s (d + 1) = ithp P (i + 1) (s + 1) d := by simp [ithp, hp]
      rw [e1] at h
      rw [e2]
      have := ithp_end (P := P) (d := d) (i := i) (s := s + 1) (by omega)
      omega
theorem ithp_all {P : Nat → Bool} {d s i : Nat} (h : ithp P i s d = s + d) : ∀ {j : Nat}, i ≤ j → ithp P j s d = s + d := by
  intro j hj
  obtain ⟨e, rfl⟩ : ∃ e, j = i + e := ⟨j - i, by omega⟩
  clear hj
  induction e with
  | zero => exact h
  | succ e ih => exact ithp_end ih
/-- the i-th corner of a house, 81 if there is none -/
def ithc (c : Nat → Nat) (h i : Nat) : Nat := ithp (cor c h) i 0 81
theorem ithc_le (c : Nat → Nat) (h i : Nat) : ithc c h i ≤ 81 := by have := ithp_le (P := cor c h) (d := 81) (i := i) (s := 0); unfold ithc; omega
theorem ithc_0 (c : Nat → Nat) (h : Nat) : fnx (cor c h) 0 (81 - 0) = ithc c h 0 := ithp_zero.symm
theorem ithc_s {c : Nat → Nat} {h i : Nat} (hl : ithc c h i < 81) : fnx (cor c h) (ithc c h i + 1) (81 - (ithc c h i + 1)) = ithc c h (i + 1) := by
  have := ithp_step (P := cor c h) (d := 81) (i := i) (s := 0) (by unfold ithc at hl; omega)
  rw [Nat.zero_add] at this
  exact this
theorem ithc_all {c : Nat → Nat} {h i j : Nat} (hl : ithc c h i = 81) (hj : i ≤ j) : ithc c h j = 81 := by
  have := ithp_all (P := cor c h) (d := 81) (s := 0) (i := i) (by unfold ithc at hl; omega) hj
  unfold ithc
  omega
theorem ithc_ge {c : Nat → Nat} {h i : Nat} (hl : ithc c h i < 81) : i ≤ ithc c h i := by
  have := ithp_ge (P := cor c h) (d := 81) (i := i) (s := 0) (by unfold ithc at hl; omega)
  unfold ithc
  omega
theorem nI_big (a : Int32) (h : ¬ a < 0) : ∃ m, m < 2 ^ 31 ∧ a = nI m := by
  rw [i0_lt] at h
  have h2 := Int32.toInt_lt a
  exact ⟨a.toInt.toNat, by omega, i_of (by omega) (by omega)⟩
theorem m1_s : (-1 : Int32) + nI 1 = nI 0 := by decide +kernel
theorem X_ith {a b : Int32} {S : SG} {I : II} {J : JJ} {Q : QT} (hC : CI S I J) (hV : VS S) (k1 : ∀ h m, h < S.1.2.1 → m < 2 ^ 31 → a = nI h → b = nI m → ithc S.1.1 h m < 81 → PX I J Q S (.int (nI (ithc S.1.1 h m)))) (k2 : (ing S.1.2.1 a ∨ b < 0) → PX I J Q (fnd 0 S) (.int (-1000000001))) (k3 : ∀ h m, h < S.1.2.1 → m < 2 ^ 31 → a = nI h → b = nI m → ithc S.1.1 h m = 81 → PX I J Q (fnd 3 S) (.int (-1000000004))) : CT m_X11_ith 0 [.ref 0, .int a, .int b] 90 al_R0 I J Q := by
  have h6 := hV.1.1
  refine r_X11_ith (by decide) (fun F wk b0 b12 b19 b32 b67 b77 b83 => ?_)
  have h12 : (ing S.1.2.1 a ∨ b < 0) → F 12 [some (.ref 0), some (.int a), some (.int b), none, none] [] 90 al_R0 I J := fun q => b12 _ _ _ _ _ _ (cx_finding hC (k := 0) (by decide) (by decide +kernel) (k2 q))
  refine b0 _ _ _ _ _ _ (cx_isHouse h6 hC.1.1 (fun h hh e => br_f (by decide +kernel) (And.intro (fun c => b19 _ _ _ _ _ _ ?_) (fun c => h12 (Or.inr (by simpa using c))))) (fun hn => br_t nI_0 (h12 (Or.inl hn))))
  obtain ⟨m, hm, e2⟩ := nI_big b (by simpa using c)
  have p1 := k1 h m hh hm e e2
  have p3 := k3 h m hh hm e e2
  subst e e2
  have h67 : ∀ k, k ≤ 81 → F 67 [some (.ref 0), some (.int (nI h)), some (.int (nI m)), some (.int (nI (ithc S.1.1 h m))), some (.int (nI k))] [] 90 al_R0 I J := fun k hk => by
    have hl := ithc_le S.1.1 h m
    refine b67 _ _ _ _ _ _ (And.intro (fun c2 => ?_) (fun c2 => ?_))
    · rw [nI_leI (by omega) (by omega)] at c2
      exact b77 _ _ _ _ _ _ (cx_finding hC (k := 3) (by decide) (by decide +kernel) (fun I2 J2 g1 g2 => b83 _ _ _ _ _ _ (p3 (by omega) I2 J2 g1 g2)))
    · rw [nI_leI (by omega) (by omega)] at c2
      exact b83 _ _ _ _ _ _ (p1 (by omega) I J hC (f74.rf I J))
  have loop : ∀ d k : Nat, k + d = 81 → k ≤ m → F 32 [some (.ref 0), some (.int (nI h)), some (.int (nI m)), some (.int (nI (ithc S.1.1 h k))), some (.int (nI k))] [] 90 al_R0 I J := by
    intro d
    induction d with
    | zero =>
      intro k hk hkm
      have hl := ithc_le S.1.1 h k
      have h81 : ithc S.1.1 h k = 81 := by
        rcases Nat.lt_or_ge (ithc S.1.1 h k) 81 with q | q
        · have := ithc_ge q; omega
        · omega
      have h9 := h67 k (by omega)
      rw [ithc_all h81 hkm, ← h81] at h9
      refine b32 _ _ _ _ _ _ (And.intro (fun _ => h9) (fun _ => br_t (nI_le (by omega) (by omega)) h9))
    | succ d ih =>
      intro k hk hkm
      have hl := ithc_le S.1.1 h k
      have h9 := h67 k (by omega)
      refine b32 _ _ _ _ _ _ (And.intro (fun c2 => ?_) (fun c2 => br_f (nI_ge (by omega) (by omega)) (And.intro (fun c3 => ?_) (fun c3 => ?_))))
      · rw [nI_leI (by omega) (by omega)] at c2
        rw [show m = k by omega] at h9
        rw [show m = k by omega]
        exact h9
      · rw [nI_leI (by omega) (by omega)] at c3
        have h81 : ithc S.1.1 h k = 81 := by omega
        rw [ithc_all h81 hkm, ← h81] at h9
        exact h9
      · rw [nI_leI (by omega) (by omega)] at c2 c3
        refine ca_cornerBehind (s := ithc S.1.1 h k + 1) hC.1.2.1 hV.1.cdo (by omega) (by omega) (nI_s _).symm ?_
        rw [ithc_s (by omega)]
        have h10 := ih (k + 1) (by omega) (by omega)
        rw [nI_s k] at h10
        exact h10
  refine ca_cornerBehind (s := 0) hC.1.2.1 hV.1.cdo (by omega) (by omega) m1_s ?_
  rw [ithc_0]
  exact loop 81 0 rfl (by omega)
theorem X_yields {S : SG} {I : II} {J : JJ} {Q : QT} (hC : CI S I J) (hV : VS S) (k1 : PX I J Q S (.int (nI (sm (fun h => rtN S.1 h * cts S.1 h) S.1.2.1)))) : CT m_X11_yields 0 [.ref 0] 90 al_R0 I J Q := by
  have h6 := hV.1.1
  refine r_X11_yields (by decide) (fun F wk b0 b4 b29 => ?_)
  have loop : ∀ (d i : Nat) (I' : II), i + d = S.1.2.1 → CI S I' J → k39 I I' → F 4 [some (.ref 0), some (.int (nI (sm (fun h => rtN S.1 h * cts S.1 h) i))), some (.int (nI i))] [] 90 al_R0 I' J := by
    intro d
    induction d with
    | zero =>
      intro i I' hi g1 g2
      refine b4 _ _ _ _ _ _ (br_t (by rw [g1.1.1]; exact nI_le (by omega) (by omega)) (b29 _ _ _ _ _ _ ?_))
      have h9 := k1 I' J g1 (k39.f g2)
      rw [show S.1.2.1 = i by omega] at h9
      exact h9
    | succ d ih =>
      intro i I' hi g1 g2
      refine b4 _ _ _ _ _ _ (br_f (by rw [g1.1.1]; exact nI_ge (by omega) (by omega)) (ca_taxOf g1.1 hV.1 g1.2.1 (by omega) (fun I2 g3 g4 => ?_)))
      have h9 := ih (i + 1) I2 (by omega) (g1.k39 g3 g4) (g2.tr g3)
      rw [sm, nI_s i, ← nI_add] at h9
      exact h9
  exact b0 _ _ _ _ _ _ (loop S.1.2.1 0 I (by omega) hC (k39.rf I))
/-- the least rate, 100 if there is none -/
def rfr (s : Nat) (a : Int32) : Nat := fnx (fun r => decide (a ≤ nI r * nI s)) 1 99
theorem X_rateFor {a : Int32} {S : SG} {I : II} {J : JJ} {Q : QT} (hC : CI S I J) (hV : VS S) (k1 : ¬ a < 0 → rfr (sm (cts S.1) S.1.2.1) a < 100 → PX I J Q S (.int (nI (rfr (sm (cts S.1) S.1.2.1) a)))) (k2 : a < 0 → PX I J Q (fnd 0 S) (.int (-1000000001))) (k3 : ¬ a < 0 → rfr (sm (cts S.1) S.1.2.1) a = 100 → PX I J Q (fnd 3 S) (.int (-1000000004))) : CT m_X11_rateFor 0 [.ref 0, .int a] 90 al_R0 I J Q := by
  have h6 := hV.1.1
  refine r_X11_rateFor (by decide) (fun F wk b0 b11 b15 b43 b45 b60 b66 => ?_)
  refine b0 _ _ _ _ _ _ (And.intro (fun c => ?_) (fun c => cx_finding hC (k := 0) (by decide) (by decide +kernel) (k2 (by simpa using c))))
  have hna : ¬ a < 0 := by simpa using c
  have loop2 : ∀ (I' : II), CI S I' J → k39 I I' → ∀ (d i : Nat), i + d = 100 → rfr (sm (cts S.1) S.1.2.1) a = fnx (fun r => decide (a ≤ nI r * nI (sm (cts S.1) S.1.2.1))) i d → F 45 [some (.ref 0), some (.int a), some (.int (nI (sm (cts S.1) S.1.2.1))), some (.int (nI i))] [] 90 al_R0 I' J := by
    intro I' g1 g2 d
    induction d with
    | zero =>
      intro i hi he
      obtain rfl : i = 100 := by omega
      refine b45 _ _ _ _ _ _ (br_t (by decide +kernel) (b66 _ _ _ _ _ _ (cx_finding g1 (k := 3) (by decide) (by decide +kernel) (fun I2 J2 q1 q2 => k3 hna he I2 J2 q1 (f74.tr (k39.f g2) q2)))))
    | succ d ih =>
      intro i hi he
      refine b45 _ _ _ _ _ _ (br_f (by rw [nI_ltI (by omega) (by omega)]; omega) (And.intro (fun c2 => ?_) (fun c2 => ?_)))
      · have h9 := ih (i + 1) (by omega) (by rw [he, fnx_no (decide_eq_false (Int32.not_le.mpr c2))])
        rw [nI_s i] at h9
        exact b60 _ _ _ _ _ _ h9
      · have h9 : rfr (sm (cts S.1) S.1.2.1) a = i := by rw [he, fnx_yes (decide_eq_true (Int32.not_lt.mp c2))]
        have h10 := k1 hna (by omega) I' J g1 (k39.f g2)
        rw [h9] at h10
        exact h10
  have loop : ∀ (d i : Nat) (I' : II), i + d = S.1.2.1 → CI S I' J → k39 I I' → F 15 [some (.ref 0), some (.int a), some (.int (nI (sm (cts S.1) i))), some (.int (nI i))] [] 90 al_R0 I' J := by
    intro d
    induction d with
    | zero =>
      intro i I' hi g1 g2
      have h9 := loop2 I' g1 g2 99 1 rfl rfl
      refine b15 _ _ _ _ _ _ (br_t (by rw [g1.1.1]; exact nI_le (by omega) (by omega)) (b43 _ _ _ _ _ _ ?_))
      rw [show S.1.2.1 = i by omega] at h9
      exact h9
    | succ d ih =>
      intro i I' hi g1 g2
      refine b15 _ _ _ _ _ _ (br_f (by rw [g1.1.1]; exact nI_ge (by omega) (by omega)) (ca_countsOf g1.1 hV.1 g1.2.1 (by omega) (fun I2 g3 g4 => ?_)))
      have h9 := ih (i + 1) I2 (by omega) (g1.k39 g3 g4) (g2.tr g3)
      rw [sm, nI_s i, ← nI_add] at h9
      exact h9
  exact b11 _ _ _ _ _ _ (loop S.1.2.1 0 I (by omega) hC (k39.rf I))
