/-! LINES: from the middle of a square to a point, by steps of rows (i) and columns (j); a, b: the last of them -/
def nx1 (a b : Nat) (s : Nat × Nat) : Nat × Nat := (if (2 * s.1 + 1) * (2 * b + 1) ≤ (2 * s.2 + 1) * (2 * a + 1) then s.1 + 1 else s.1, if (2 * s.2 + 1) * (2 * a + 1) ≤ (2 * s.1 + 1) * (2 * b + 1) then s.2 + 1 else s.2)
def sqn (a b : Nat) : Nat → Nat × Nat
  | 0 => (0, 0)
  | k + 1 => nx1 a b (sqn a b k)
/-- how many steps -/
def lns (a b : Nat) : Nat := fnx (fun k => decide (sqn a b k = (a, b))) 0 15
/-- whether the line goes through the inside of the square (i, j) -/
def thr (a b i j : Nat) : Bool := decide (i ≤ a) && decide (j ≤ b) && decide (2 * i * (2 * b + 1) < (2 * j + 1) * (2 * a + 1) + (2 * b + 1)) && decide (2 * j * (2 * a + 1) < (2 * i + 1) * (2 * b + 1) + (2 * a + 1))
theorem ln_A : ∀ a, a < 8 → ∀ b, b < 8 → lns a b ≤ 14 ∧ sqn a b (lns a b) = (a, b) ∧ ∀ m, m < lns a b → ((sqn a b m).1 < a ∨ (sqn a b m).2 < b) ∧ (sqn a b m).1 ≤ a ∧ (sqn a b m).2 ≤ b := by decide +kernel
theorem ln_B : ∀ a, a < 8 → ∀ b, b < 8 → ∀ i, i < 8 → ∀ j, j < 8 → anyb (fun m => decide (sqn a b m = (i, j))) (lns a b + 1) = thr a b i j := by decide +kernel
def dnb (q p : Nat) : Bool := decide (q / 8 < p / 9)
def rtb (q p : Nat) : Bool := decide (q % 8 < p % 9)
def ra (q p : Nat) : Nat := if q / 8 < p / 9 then p / 9 - q / 8 - 1 else q / 8 - p / 9
def rb (q p : Nat) : Nat := if q % 8 < p % 9 then p % 9 - q % 8 - 1 else q % 8 - p % 9
def rwi (q p i : Nat) : Nat := if q / 8 < p / 9 then q / 8 + i else q / 8 - i
def cli (q p j : Nat) : Nat := if q % 8 < p % 9 then q % 8 + j else q % 8 - j
def sqi (q p : Nat) (s : Nat × Nat) : Nat := 8 * rwi q p s.1 + cli q p s.2
/-- the squares of the line -/
def lin (q p s : Nat) : Bool := anyb (fun m => decide (s = sqi q p (sqn (ra q p) (rb q p) m))) (lns (ra q p) (rb q p) + 1)
theorem ra_lt {q p : Nat} (hq : q < 64) (hp : p < 81) : ra q p < 8 := by unfold ra; split <;> omega
theorem rb_lt {q p : Nat} (hq : q < 64) (hp : p < 81) : rb q p < 8 := by unfold rb; split <;> omega
theorem rwi_lt {q p i : Nat} (hq : q < 64) (hp : p < 81) (hi : i ≤ ra q p) : rwi q p i < 8 := by
  unfold rwi
  unfold ra at hi
  split
  · rename_i h; rw [if_pos h] at hi; omega
  · omega
theorem cli_lt {q p j : Nat} (hq : q < 64) (hp : p < 81) (hj : j ≤ rb q p) : cli q p j < 8 := by
  unfold cli
  unfold rb at hj
  split
  · rename_i h; rw [if_pos h] at hj; omega
  · omega
/-- a square is on the line if and only if the line goes through its inside -/
theorem lin_iff {q p s : Nat} (hq : q < 64) (hp : p < 81) : lin q p s = true ↔ ∃ i j, i ≤ ra q p ∧ j ≤ rb q p ∧ thr (ra q p) (rb q p) i j = true ∧ s = sqi q p (i, j) := by
  have ha := ra_lt hq hp
  have hb := rb_lt hq hp
  obtain ⟨-, hA2, hA3⟩ := ln_A _ ha _ hb
  unfold lin
  rw [anyb_iff]
  constructor
  · rintro ⟨m, hm, h⟩
    have h := of_decide_eq_true h
    have hle : (sqn (ra q p) (rb q p) m).1 ≤ ra q p ∧ (sqn (ra q p) (rb q p) m).2 ≤ rb q p := by
      rcases Nat.lt_or_ge m (lns (ra q p) (rb q p)) with g | g
      · exact (hA3 m g).2
      · rw [show m = lns (ra q p) (rb q p) by omega, hA2]
        exact ⟨Nat.le_refl _, Nat.le_refl _⟩
    refine ⟨(sqn (ra q p) (rb q p) m).1, (sqn (ra q p) (rb q p) m).2, hle.1, hle.2, ?_, h⟩
    rw [← ln_B _ ha _ hb _ (by omega) _ (by omega)]
    exact anyb_yes hm (decide_eq_true rfl)
  · rintro ⟨i, j, hi, hj, ht, hs⟩
    rw [← ln_B _ ha _ hb _ (by omega) _ (by omega)] at ht
    obtain ⟨m, hm, h⟩ := anyb_iff.mp ht
    have h := of_decide_eq_true h
    exact ⟨m, hm, decide_eq_true (by rw [h]; exact hs)⟩
set_option maxHeartbeats 2000000 in
theorem ca_lineOf {q p : Nat} {R : RR} {I : II} {J : JJ} {Q : QT} (hq : q < 64) (hp : p < 81) (kq : ∀ L : Int64, (∀ s, s < 64 → gb L s = lin q p s) → Q (some (.long L)) 90 R I J) : CT m_X8_lineOf 0 [.int (nI q), .int (nI p)] 90 R I J Q := by
  refine r_X8_lineOf (by decide) (fun F wk b0 b61 b62 b73 b74 b90 b111 b137 b150 b169 => ?_)
  have ha := ra_lt hq hp
  have hb := rb_lt hq hp
  obtain ⟨hA1, hA2, hA3⟩ := ln_A _ ha _ hb
  -- names for the numbers
  obtain ⟨dv, hdv⟩ : ∃ x : Int32, x = nI 2 * nI (p / 9) - (nI 2 * nI (q / 8) + nI 1) := ⟨_, rfl⟩
  obtain ⟨rv, hrv⟩ : ∃ x : Int32, x = nI 2 * nI (p % 9) - (nI 2 * nI (q % 8) + nI 1) := ⟨_, rfl⟩
  obtain ⟨rs, hrs⟩ : ∃ x : Int32, x = if q / 8 < p / 9 then nI 1 else -1 := ⟨_, rfl⟩
  obtain ⟨cs, hcs⟩ : ∃ x : Int32, x = if q % 8 < p % 9 then nI 1 else -1 := ⟨_, rfl⟩
  have loop : ∀ (e k : Nat) (L : Int64), k + e = lns (ra q p) (rb q p) → (∀ s, s < 64 → gb L s = anyb (fun m => decide (s = sqi q p (sqn (ra q p) (rb q p) m))) (k + 1)) → F 90 [some (.int (nI q)), some (.int (nI p)), some (.int (nI (rwi q p (sqn (ra q p) (rb q p) k).1))), some (.int (nI (cli q p (sqn (ra q p) (rb q p) k).2))), some (.int dv), some (.int rv), some (.int (nI (2 * ra q p + 1))), some (.int (nI (2 * rb q p + 1))), some (.int rs), some (.int cs), some (.int (nI (2 * (sqn (ra q p) (rb q p) k).1 + 1))), some (.int (nI (2 * (sqn (ra q p) (rb q p) k).2 + 1))), some (.long L), none, some (.int (nI k)), none] [] 90 R I J := by
    intro e
    induction e with
    | zero =>
      intro k L hk hL
      obtain rfl : k = lns (ra q p) (rb q p) := by omega
      have h169 : F 169 [some (.int (nI q)), some (.int (nI p)), some (.int (nI (rwi q p (sqn (ra q p) (rb q p) (lns (ra q p) (rb q p))).1))), some (.int (nI (cli q p (sqn (ra q p) (rb q p) (lns (ra q p) (rb q p))).2))), some (.int dv), some (.int rv), some (.int (nI (2 * ra q p + 1))), some (.int (nI (2 * rb q p + 1))), some (.int rs), some (.int cs), some (.int (nI (2 * (sqn (ra q p) (rb q p) (lns (ra q p) (rb q p))).1 + 1))), some (.int (nI (2 * (sqn (ra q p) (rb q p) (lns (ra q p) (rb q p))).2 + 1))), some (.long L), none, some (.int (nI (lns (ra q p) (rb q p)))), none] [] 90 R I J := b169 _ _ _ _ _ _ (kq L hL)
      refine b90 _ _ _ _ _ _ (And.intro (fun _ => h169) (fun _ => And.intro (fun c2 => ?_) (fun c2 => br_t ?_ h169)))
      · rw [hA2] at c2
        exact absurd c2 (nI_nlt (Nat.le_refl _) (by omega))
      · rw [hA2]
        exact nI_le (Nat.le_refl _) (by omega)
    | succ e ih =>
      intro k L hk hL
      obtain ⟨h1, h2, h3⟩ := hA3 k (by omega)
      obtain ⟨k1, k2⟩ : (sqn (ra q p) (rb q p) (k + 1)).1 ≤ ra q p ∧ (sqn (ra q p) (rb q p) (k + 1)).2 ≤ rb q p := by
        rcases Nat.lt_or_ge (k + 1) (lns (ra q p) (rb q p)) with g | g
        · exact (hA3 _ g).2
        · rw [show k + 1 = lns (ra q p) (rb q p) by omega, hA2]
          exact ⟨Nat.le_refl _, Nat.le_refl _⟩
      have hstep : sqn (ra q p) (rb q p) (k + 1) = nx1 (ra q p) (rb q p) (sqn (ra q p) (rb q p) k) := rfl
      have IH := ih (k + 1)
      generalize hs1 : sqn (ra q p) (rb q p) (k + 1) = S1 at *
      generalize hs0 : sqn (ra q p) (rb q p) k = S0 at *
      obtain ⟨i, j⟩ := S0
      obtain ⟨i1, j1⟩ := S1
      dsimp only at h1 h2 h3 k1 k2 IH ⊢
      simp only [nx1, Prod.mk.injEq] at hstep
      obtain ⟨hi1, hj1⟩ := hstep
      generalize hea : ra q p = a at *
      generalize heb : rb q p = b at *
      have hx : (nI (2 * i + 1) * nI (2 * b + 1) - nI (2 * j + 1) * nI (2 * a + 1)).toInt = (((2 * i + 1) * (2 * b + 1) : Nat) : Int) - ((2 * j + 1) * (2 * a + 1) : Nat) := by
        rw [pk_mul, pk_mul]
        exact i_sub (Nat.lt_of_le_of_lt (Nat.mul_le_mul (show 2 * i + 1 ≤ 15 by omega) (show 2 * b + 1 ≤ 15 by omega)) (by decide)) (Nat.lt_of_le_of_lt (Nat.mul_le_mul (show 2 * j + 1 ≤ 15 by omega) (show 2 * a + 1 ≤ 15 by omega)) (by decide))
      generalize hX : (2 * i + 1) * (2 * b + 1) = X at *
      generalize hY : (2 * j + 1) * (2 * a + 1) = Y at *
      generalize hO : nI (2 * i + 1) * nI (2 * b + 1) - nI (2 * j + 1) * nI (2 * a + 1) = O at *
      -- the row and the column behind the step
      have er : (if X ≤ Y then nI (rwi q p i) + rs else nI (rwi q p i)) = nI (rwi q p i1) := by
        by_cases hc : X ≤ Y
        · rw [if_pos hc] at hi1 ⊢
          rw [hi1, hrs]
          unfold rwi
          unfold ra at hea
          by_cases hd : q / 8 < p / 9
          · rw [if_pos hd, if_pos hd, if_pos hd, nI_add]
            rfl
          · rw [if_neg hd] at hea
            rw [if_neg hd, if_neg hd, if_neg hd, show q / 8 - i = (q / 8 - (i + 1)) + 1 by omega, pk_m1]
        · rw [if_neg hc] at hi1 ⊢
          rw [hi1]
      have ec : (if Y ≤ X then nI (cli q p j) + cs else nI (cli q p j)) = nI (cli q p j1) := by
        by_cases hc : Y ≤ X
        · rw [if_pos hc] at hj1 ⊢
          rw [hj1, hcs]
          unfold cli
          unfold rb at heb
          by_cases hd : q % 8 < p % 9
          · rw [if_pos hd, if_pos hd, if_pos hd, nI_add]
            rfl
          · rw [if_neg hd] at heb
            rw [if_neg hd, if_neg hd, if_neg hd, show q % 8 - j = (q % 8 - (j + 1)) + 1 by omega, pk_m1]
        · rw [if_neg hc] at hj1 ⊢
          rw [hj1]
      have ei : (if X ≤ Y then nI (2 * i + 1) + nI 2 else nI (2 * i + 1)) = nI (2 * i1 + 1) := by
        by_cases hc : X ≤ Y
        · rw [if_pos hc] at hi1 ⊢
          rw [hi1, nI_add]
          congr 1
        · rw [if_neg hc] at hi1 ⊢
          rw [hi1]
      have ej : (if Y ≤ X then nI (2 * j + 1) + nI 2 else nI (2 * j + 1)) = nI (2 * j1 + 1) := by
        by_cases hc : Y ≤ X
        · rw [if_pos hc] at hj1 ⊢
          rw [hj1, nI_add]
          congr 1
        · rw [if_neg hc] at hj1 ⊢
          rw [hj1]
      have hsq64 : 8 * rwi q p i1 + cli q p j1 < 64 := by
        have g1 := rwi_lt hq hp (i := i1) (by rw [hea]; exact k1)
        have g2 := cli_lt hq hp (j := j1) (by rw [heb]; exact k2)
        omega
      have h150 : F 150 [some (.int (nI q)), some (.int (nI p)), some (.int (nI (rwi q p i1))), some (.int (nI (cli q p j1))), some (.int dv), some (.int rv), some (.int (nI (2 * a + 1))), some (.int (nI (2 * b + 1))), some (.int rs), some (.int cs), some (.int (nI (2 * i1 + 1))), some (.int (nI (2 * j1 + 1))), some (.long L), none, some (.int (nI k)), some (.int O)] [] 90 R I J := by
        have h9 := IH (L ||| (lN 1 <<< ((nI 8 * nI (rwi q p i1) + nI (cli q p j1)).toInt64 &&& 63))) (by omega) (fun s hs => by
          rw [pk_mul, nI_add, gb_or, gb_bits _ hsq64 s hs, hL s hs]
          show _ = (anyb _ (k + 1) || decide (s = sqi q p (sqn a b (k + 1))))
          rw [hs1]
          rfl)
        rw [nI_s k] at h9
        refine b150 _ _ _ _ _ _ (wk _ _ _ _ _ _ _ _ ?_ h9)
        simp [al_le]
      have h137 : F 137 [some (.int (nI q)), some (.int (nI p)), some (.int (nI (rwi q p i1))), some (.int (nI (cli q p j))), some (.int dv), some (.int rv), some (.int (nI (2 * a + 1))), some (.int (nI (2 * b + 1))), some (.int rs), some (.int cs), some (.int (nI (2 * i1 + 1))), some (.int (nI (2 * j + 1))), some (.long L), none, some (.int (nI k)), some (.int O)] [] 90 R I J := by
        refine b137 _ _ _ _ _ _ (And.intro (fun c3 => ?_) (fun c3 => ?_))
        · rw [i0_lt, hx] at c3
          rw [if_neg (by omega)] at ec ej
          rw [ec, ej]
          exact h150
        · rw [i0_lt, hx] at c3
          rw [if_pos (by omega)] at ec ej
          rw [← ec, ← ej] at h150
          exact h150
      have h111 : F 111 [some (.int (nI q)), some (.int (nI p)), some (.int (nI (rwi q p i))), some (.int (nI (cli q p j))), some (.int dv), some (.int rv), some (.int (nI (2 * a + 1))), some (.int (nI (2 * b + 1))), some (.int rs), some (.int cs), some (.int (nI (2 * i + 1))), some (.int (nI (2 * j + 1))), some (.long L), none, some (.int (nI k)), none] [] 90 R I J := by
        refine b111 _ _ _ _ _ _ ?_
        rw [← hO] at h137 hx
        refine And.intro (fun c3 => ?_) (fun c3 => ?_)
        · rw [← nI_0, in_lt (by decide), hx] at c3
          rw [if_neg (by omega)] at hi1
          subst hi1
          exact h137
        · rw [← nI_0, in_lt (by decide), hx] at c3
          rw [if_pos (by omega)] at er ei
          rw [← er, ← ei] at h137
          exact h137
      refine b90 _ _ _ _ _ _ (br_f (nI_ge (by omega) (by omega)) (And.intro (fun c2 => h111) (fun c2 => br_f ?_ h111)))
      rw [nI_ltI (by omega) (by omega)] at c2
      exact nI_ge (by omega) (by omega)
  have er0 : rwi q p 0 = q / 8 := by unfold rwi; split <;> omega
  have ec0 : cli q p 0 = q % 8 := by unfold cli; split <;> omega
  have hdi : dv.toInt = 2 * ((p / 9 : Nat) : Int) - (2 * ((q / 8 : Nat) : Int) + 1) := by
    rw [hdv, pk_mul, pk_mul, nI_add, i_sub (by omega) (by omega)]
    omega
  have hri : rv.toInt = 2 * ((p % 9 : Nat) : Int) - (2 * ((q % 8 : Nat) : Int) + 1) := by
    rw [hrv, pk_mul, pk_mul, nI_add, i_sub (by omega) (by omega)]
    omega
  have hab : (if 0 ≤ dv then dv else 0 - dv) = nI (2 * ra q p + 1) := by
    unfold ra
    by_cases h : q / 8 < p / 9
    · rw [if_pos h, if_pos (by rw [i0_le]; omega)]
      exact i_of (by omega) (by omega)
    · rw [if_neg h, if_neg (by rw [i0_le]; omega), hdv, pk_mul, pk_mul, nI_add, ← nI_0]
      apply i_of _ (by omega)
      have e1 : nI 0 - (nI (2 * (p / 9)) - nI (2 * (q / 8) + 1)) = nI (2 * (q / 8) + 1) - nI (2 * (p / 9)) := by
        rw [nI_0, Int32.zero_sub, Int32.neg_sub]
      rw [e1, i_sub (by omega) (by omega)]
      omega
  have hbb : (if 0 ≤ rv then rv else 0 - rv) = nI (2 * rb q p + 1) := by
    unfold rb
    by_cases h : q % 8 < p % 9
    · rw [if_pos h, if_pos (by rw [i0_le]; omega)]
      exact i_of (by omega) (by omega)
    · rw [if_neg h, if_neg (by rw [i0_le]; omega), hrv, pk_mul, pk_mul, nI_add, ← nI_0]
      apply i_of _ (by omega)
      have e1 : nI 0 - (nI (2 * (p % 9)) - nI (2 * (q % 8) + 1)) = nI (2 * (q % 8) + 1) - nI (2 * (p % 9)) := by
        rw [nI_0, Int32.zero_sub, Int32.neg_sub]
      rw [e1, i_sub (by omega) (by omega)]
      omega
  have h74 : F 74 [some (.int (nI q)), some (.int (nI p)), some (.int (nI (q / 8))), some (.int (nI (q % 8))), some (.int dv), some (.int rv), some (.int (nI (2 * ra q p + 1))), some (.int (nI (2 * rb q p + 1))), some (.int rs), none, none, none, none, none, none, none] [.int cs] 90 R I J := by
    refine b74 _ _ _ _ _ _ ?_
    have h9 := loop _ 0 (lN 1 <<< ((nI q).toInt64 &&& 63)) (Nat.zero_add _) (fun s hs => by
      rw [gb_bits q hq s hs]
      show _ = (false || decide (s = 8 * rwi q p 0 + cli q p 0))
      rw [er0, ec0, Bool.false_or, show 8 * (q / 8) + q % 8 = q by omega])
    rw [show (sqn (ra q p) (rb q p) 0) = (0, 0) from rfl, er0, ec0] at h9
    exact h9
  have h62 : F 62 [some (.int (nI q)), some (.int (nI p)), some (.int (nI (q / 8))), some (.int (nI (q % 8))), some (.int dv), some (.int rv), some (.int (nI (2 * ra q p + 1))), some (.int (nI (2 * rb q p + 1))), none, none, none, none, none, none, none, none] [.int rs] 90 R I J := by
    refine b62 _ _ _ _ _ _ (And.intro (fun c1 => ?_) (fun c1 => ?_))
    · rw [← nI_0, ix_le (by decide)] at c1
      rw [hcs, if_neg (by omega)] at h74
      exact b73 _ _ _ _ _ _ h74
    · rw [← nI_0, ix_le (by decide)] at c1
      rw [hcs, if_pos (by omega)] at h74
      exact h74
  refine b0 _ _ _ _ _ _ (And.intro (by decide +kernel) (And.intro (by decide +kernel) (And.intro (by decide +kernel) (And.intro (by decide +kernel) ?_))))
  rw [pk_rem (a := q) (d := 8) (by omega) (by decide) (by decide), pk_rem (a := p) (d := 9) (by omega) (by decide) (by decide), pk_div (a := q) (d := 8) (by omega) (by decide) (by decide), pk_div (a := p) (d := 9) (by omega) (by decide) (by decide), ← hdv]
  rw [← hab, ← hbb] at h62
  rw [hrv] at h62
  refine And.intro (fun c1 => ?_) (fun c1 => ?_)
  · rw [← nI_0, ix_le (by decide)] at c1
    rw [hrs, if_neg (show ¬ q / 8 < p / 9 by omega)] at h62
    exact b61 _ _ _ _ _ _ h62
  · rw [← nI_0, ix_le (by decide)] at c1
    rw [hrs, if_pos (show q / 8 < p / 9 by omega)] at h62
    exact h62
