/-! THE REFERENCE: lines -/
theorem t_add {a b : Int32} {x y : Int} (ha : a.toInt = x) (hb : b.toInt = y) (h1 : -1000000 ≤ x + y) (h2 : x + y ≤ 1000000) : (a + b).toInt = x + y := by
  rw [Int32.toInt_add, ha, hb]
  exact Int.bmod_eq_of_le_mul_two (by omega) (by omega)
theorem t_sub {a b : Int32} {x y : Int} (ha : a.toInt = x) (hb : b.toInt = y) (h1 : -1000000 ≤ x - y) (h2 : x - y ≤ 1000000) : (a - b).toInt = x - y := by
  rw [Int32.toInt_sub, ha, hb]
  exact Int.bmod_eq_of_le_mul_two (by omega) (by omega)
theorem t_mul {a b : Int32} {x y : Int} (ha : a.toInt = x) (hb : b.toInt = y) (h1 : -1000000 ≤ x * y) (h2 : x * y ≤ 1000000) : (a * b).toInt = x * y := by
  rw [Int32.toInt_mul, ha, hb]
  exact Int.bmod_eq_of_le_mul_two (by omega) (by omega)
theorem t_neg {a : Int32} {x : Int} (ha : a.toInt = x) (h1 : -1000000 ≤ x) (h2 : x ≤ 1000000) : (-a).toInt = -x := by
  rw [Int32.toInt_neg, ha]
  exact Int.bmod_eq_of_le_mul_two (by omega) (by omega)
theorem t_max {a b : Int32} {x y : Int} (ha : a.toInt = x) (hb : b.toInt = y) : (if a < b then b else a).toInt = max x y := by
  split <;> rename_i h <;> rw [Int32.lt_iff_toInt_lt] at h <;> omega
theorem t_min {a b : Int32} {x y : Int} (ha : a.toInt = x) (hb : b.toInt = y) : (if b < a then b else a).toInt = min x y := by
  split <;> rename_i h <;> rw [Int32.lt_iff_toInt_lt] at h <;> omega
theorem g_core {a b i j : Nat} {o p s t w : Int} (hi : i ≤ a + 1) (hj : j ≤ b + 1)
  (h1 : (o = (2 * (j : Int) - 1) * (2 * a + 1) ∧ p = (2 * (j : Int) + 1) * (2 * a + 1)) ∨ (o = (2 * (j : Int) + 1) * (2 * a + 1) ∧ p = (2 * (j : Int) - 1) * (2 * a + 1)))
  (h2 : (s = (2 * (i : Int) - 1) * (2 * b + 1) ∧ t = (2 * (i : Int) + 1) * (2 * b + 1)) ∨ (s = (2 * (i : Int) + 1) * (2 * b + 1) ∧ t = (2 * (i : Int) - 1) * (2 * b + 1)))
  (hw : w = (2 * b + 1 : Int) * (2 * a + 1)) :
  max 0 (max (min o p) (min s t)) < min w (min (max o p) (max s t)) ↔ thr a b i j = true := by
  have e1 : ∀ x : Int, (2 * x - 1) * (2 * a + 1) = 2 * (x * (2 * a + 1)) - (2 * a + 1) := fun x => by rw [Int.sub_mul, Int.mul_assoc, Int.one_mul]
  have e2 : ∀ x : Int, (2 * x + 1) * (2 * a + 1) = 2 * (x * (2 * a + 1)) + (2 * a + 1) := fun x => by rw [Int.add_mul, Int.mul_assoc, Int.one_mul]
  have e3 : ∀ x : Int, (2 * x - 1) * (2 * b + 1) = 2 * (x * (2 * b + 1)) - (2 * b + 1) := fun x => by rw [Int.sub_mul, Int.mul_assoc, Int.one_mul]
  have e4 : ∀ x : Int, (2 * x + 1) * (2 * b + 1) = 2 * (x * (2 * b + 1)) + (2 * b + 1) := fun x => by rw [Int.add_mul, Int.mul_assoc, Int.one_mul]
  have w2 : w = (2 * (a : Int) + 1) * (2 * b + 1) := by rw [hw, Int.mul_comm]
  rw [e1, e2] at h1
  rw [e3, e4] at h2
  rw [e2] at hw
  rw [e4] at w2
  have k1 : (2 * i * (2 * b + 1) : Nat) = 2 * (i * (2 * b + 1)) := Nat.mul_assoc _ _ _
  have k2 : (2 * j * (2 * a + 1) : Nat) = 2 * (j * (2 * a + 1)) := Nat.mul_assoc _ _ _
  have k3 : ((2 * j + 1) * (2 * a + 1) : Nat) = 2 * (j * (2 * a + 1)) + (2 * a + 1) := by rw [Nat.add_mul, Nat.mul_assoc, Nat.one_mul]
  have k4 : ((2 * i + 1) * (2 * b + 1) : Nat) = 2 * (i * (2 * b + 1)) + (2 * b + 1) := by rw [Nat.add_mul, Nat.mul_assoc, Nat.one_mul]
  unfold thr
  rw [k1, k2, k3, k4]
  have c1 : ((j * (2 * a + 1) : Nat) : Int) = (j : Int) * (2 * a + 1) := by simp
  have c2 : ((i * (2 * b + 1) : Nat) : Int) = (i : Int) * (2 * b + 1) := by simp
  have c3 : ((b * (2 * a + 1) : Nat) : Int) = (b : Int) * (2 * a + 1) := by simp
  have c4 : ((a * (2 * b + 1) : Nat) : Int) = (a : Int) * (2 * b + 1) := by simp
  rw [← c1] at h1
  rw [← c2] at h2
  rw [← c3] at hw
  rw [← c4] at w2
  have m1 : j ≤ b → j * (2 * a + 1) ≤ b * (2 * a + 1) := fun h => Nat.mul_le_mul_right _ h
  have m2 : j = b + 1 → j * (2 * a + 1) = b * (2 * a + 1) + (2 * a + 1) := fun h => by rw [h, Nat.add_mul, Nat.one_mul]
  have m3 : i ≤ a → i * (2 * b + 1) ≤ a * (2 * b + 1) := fun h => Nat.mul_le_mul_right _ h
  have m4 : i = a + 1 → i * (2 * b + 1) = a * (2 * b + 1) + (2 * b + 1) := fun h => by rw [h, Nat.add_mul, Nat.one_mul]
  generalize j * (2 * a + 1) = A at *
  generalize i * (2 * b + 1) = B at *
  generalize b * (2 * a + 1) = C at *
  generalize a * (2 * b + 1) = D at *
  have n1 : min o p = 2 * (A : Int) - (2 * a + 1) ∧ max o p = 2 * (A : Int) + (2 * a + 1) := by rcases h1 with h1 | h1 <;> omega
  have n2 : min s t = 2 * (B : Int) - (2 * b + 1) ∧ max s t = 2 * (B : Int) + (2 * b + 1) := by rcases h2 with h2 | h2 <;> omega
  rw [n1.1, n1.2, n2.1, n2.2]
  clear n1 n2 h1 h2 e1 e2 e3 e4 k1 k2 k3 k4 c1 c2 c3 c4
  simp only [Bool.and_eq_true, decide_eq_true_eq, Int.max_lt, Int.lt_min]
  constructor
  · rintro ⟨⟨g1, g2, g3⟩, ⟨g4, g5, g6⟩, g7, g8, g9⟩
    refine ⟨⟨⟨?_, ?_⟩, ?_⟩, ?_⟩ <;> omega
  · rintro ⟨⟨⟨g1, g2⟩, g3⟩, g4⟩
    have m1 := m1 g2
    have m3 := m3 g1
    clear m2 m4
    refine ⟨⟨?_, ?_, ?_⟩, ⟨?_, ?_, ?_⟩, ?_, ?_, ?_⟩ <;> omega

set_option maxHeartbeats 1000000 in
theorem ma_goes {q p i j : Nat} {r k : Int32} {R : RR} {I : II} {J : JJ} {Q : QT} (hq : q < 64) (hp : p < 81) (hi : i ≤ ra q p + 1) (hj : j ≤ rb q p + 1) (hr : r.toInt = if q / 8 < p / 9 then ((q / 8 : Nat) : Int) + i else ((q / 8 : Nat) : Int) - i) (hk : k.toInt = if q % 8 < p % 9 then ((q % 8 : Nat) : Int) + j else ((q % 8 : Nat) : Int) - j) (kq : Q (some (.int (nI (thr (ra q p) (rb q p) i j).toNat))) 90 R I J) : CT m_X12_goesThrough 0 [.int (nI (2 * (q % 8) + 1)), .int (nI (2 * (q / 8) + 1)), .int (nI (2 * (p % 9))), .int (nI (2 * (p / 9))), .int k, .int r] 90 R I J Q := by
  have ha := ra_lt hq hp
  have hb := rb_lt hq hp
  refine r_X12_goesThrough (by decide) (fun F wk b0 b32 b35 b56 b59 b78 b81 b102 b105 b169 b170 => ?_)
  have hab : (if 0 ≤ nI (2 * (p / 9)) - nI (2 * (q / 8) + 1) then nI (2 * (p / 9)) - nI (2 * (q / 8) + 1) else 0 - (nI (2 * (p / 9)) - nI (2 * (q / 8) + 1))) = nI (2 * ra q p + 1) := by
    have e0 : (nI (2 * (p / 9)) - nI (2 * (q / 8) + 1)).toInt = ((2 * (p / 9) : Nat) : Int) - ((2 * (q / 8) + 1 : Nat) : Int) := i_sub (by omega) (by omega)
    unfold ra
    by_cases h : q / 8 < p / 9
    · rw [if_pos h, if_pos (by rw [i0_le]; omega)]
      exact i_of (by omega) (by omega)
    · rw [if_neg h, if_neg (by rw [i0_le]; omega)]
      apply i_of _ (by omega)
      rw [t_sub (x := 0) (by decide) e0 (by omega) (by omega)]
      omega
  have hbb : (if 0 ≤ nI (2 * (p % 9)) - nI (2 * (q % 8) + 1) then nI (2 * (p % 9)) - nI (2 * (q % 8) + 1) else 0 - (nI (2 * (p % 9)) - nI (2 * (q % 8) + 1))) = nI (2 * rb q p + 1) := by
    have e0 : (nI (2 * (p % 9)) - nI (2 * (q % 8) + 1)).toInt = ((2 * (p % 9) : Nat) : Int) - ((2 * (q % 8) + 1 : Nat) : Int) := i_sub (by omega) (by omega)
    unfold rb
    by_cases h : q % 8 < p % 9
    · rw [if_pos h, if_pos (by rw [i0_le]; omega)]
      exact i_of (by omega) (by omega)
    · rw [if_neg h, if_neg (by rw [i0_le]; omega)]
      apply i_of _ (by omega)
      rw [t_sub (x := 0) (by decide) e0 (by omega) (by omega)]
      omega
  -- the signed height and width
  obtain ⟨hs, hhs⟩ : ∃ x : Int32, x = if q % 8 < p % 9 then nI (2 * ra q p + 1) else - nI (2 * ra q p + 1) := ⟨_, rfl⟩
  obtain ⟨ws, hws⟩ : ∃ x : Int32, x = if q / 8 < p / 9 then nI (2 * rb q p + 1) else - nI (2 * rb q p + 1) := ⟨_, rfl⟩
  obtain ⟨k1, hk1⟩ : ∃ x : Int32, x = nI 2 * k - nI (2 * (q % 8) + 1) := ⟨_, rfl⟩
  obtain ⟨k2, hk2⟩ : ∃ x : Int32, x = nI 2 * k + nI 2 - nI (2 * (q % 8) + 1) := ⟨_, rfl⟩
  obtain ⟨r1, hr1⟩ : ∃ x : Int32, x = nI 2 * r - nI (2 * (q / 8) + 1) := ⟨_, rfl⟩
  obtain ⟨r2, hr2⟩ : ∃ x : Int32, x = nI 2 * r + nI 2 - nI (2 * (q / 8) + 1) := ⟨_, rfl⟩
  have ha0 : 0 ≤ ((q / 8 : Nat) : Int) ∧ ((q / 8 : Nat) : Int) ≤ 7 := by omega
  have hb0 : 0 ≤ ((q % 8 : Nat) : Int) ∧ ((q % 8 : Nat) : Int) ≤ 7 := by omega
  have rT : -9 ≤ r.toInt ∧ r.toInt ≤ 16 := by rw [hr]; split <;> omega
  have kT : -9 ≤ k.toInt ∧ k.toInt ≤ 16 := by rw [hk]; split <;> omega
  have K2 : (nI 2 * k).toInt = 2 * k.toInt := t_mul (nT (by omega)) rfl (by omega) (by omega)
  have R2 : (nI 2 * r).toInt = 2 * r.toInt := t_mul (nT (by omega)) rfl (by omega) (by omega)
  have k1T : k1.toInt = 2 * k.toInt - ((2 * (q % 8) + 1 : Nat) : Int) := by rw [hk1]; exact t_sub K2 (nT (by omega)) (by omega) (by omega)
  have k2T : k2.toInt = 2 * k.toInt + 2 - ((2 * (q % 8) + 1 : Nat) : Int) := by rw [hk2]; exact t_sub (t_add K2 (nT (by omega)) (by omega) (by omega)) (nT (by omega)) (by omega) (by omega)
  have r1T : r1.toInt = 2 * r.toInt - ((2 * (q / 8) + 1 : Nat) : Int) := by rw [hr1]; exact t_sub R2 (nT (by omega)) (by omega) (by omega)
  have r2T : r2.toInt = 2 * r.toInt + 2 - ((2 * (q / 8) + 1 : Nat) : Int) := by rw [hr2]; exact t_sub (t_add R2 (nT (by omega)) (by omega) (by omega)) (nT (by omega)) (by omega) (by omega)
  have aT : (nI (2 * ra q p + 1)).toInt = 2 * (ra q p : Int) + 1 := by rw [nT (by omega)]; omega
  have bT : (nI (2 * rb q p + 1)).toInt = 2 * (rb q p : Int) + 1 := by rw [nT (by omega)]; omega
  have bnd : ∀ x y : Int, -40 ≤ x → x ≤ 40 → -20 ≤ y → y ≤ 20 → -1000000 ≤ x * y ∧ x * y ≤ 1000000 := fun x y h1 h2 h3 h4 => by
    have a1 : x.natAbs ≤ 40 := by omega
    have a2 : y.natAbs ≤ 20 := by omega
    have a3 : (x * y).natAbs ≤ 40 * 20 := by rw [Int.natAbs_mul]; exact Nat.mul_le_mul a1 a2
    omega
  have hsT : hs.toInt = if q % 8 < p % 9 then 2 * (ra q p : Int) + 1 else - (2 * (ra q p : Int) + 1) := by
    rw [hhs]
    split
    · exact aT
    · exact t_neg aT (by omega) (by omega)
  have wsT : ws.toInt = if q / 8 < p / 9 then 2 * (rb q p : Int) + 1 else - (2 * (rb q p : Int) + 1) := by
    rw [hws]
    split
    · exact bT
    · exact t_neg bT (by omega) (by omega)
  have sb : -20 ≤ hs.toInt ∧ hs.toInt ≤ 20 := by rw [hsT]; split <;> omega
  have wb : -20 ≤ ws.toInt ∧ ws.toInt ≤ 20 := by rw [wsT]; split <;> omega
  have B1 := bnd k1.toInt hs.toInt (by omega) (by omega) sb.1 sb.2
  have B2 := bnd k2.toInt hs.toInt (by omega) (by omega) sb.1 sb.2
  have B3 := bnd r1.toInt ws.toInt (by omega) (by omega) wb.1 wb.2
  have B4 := bnd r2.toInt ws.toInt (by omega) (by omega) wb.1 wb.2
  have B5 := bnd (2 * (rb q p : Int) + 1) (2 * (ra q p : Int) + 1) (by omega) (by omega) (by omega) (by omega)
  have V1 := t_mul (a := k1) (b := hs) rfl rfl B1.1 B1.2
  have V2 := t_mul (a := k2) (b := hs) rfl rfl B2.1 B2.2
  have V3 := t_mul (a := r1) (b := ws) rfl rfl B3.1 B3.2
  have V4 := t_mul (a := r2) (b := ws) rfl rfl B4.1 B4.2
  have V5 := t_mul (a := nI (2 * rb q p + 1)) (b := nI (2 * ra q p + 1)) bT aT B5.1 B5.2
  have G1 : ((k1 * hs).toInt = (2 * (j : Int) - 1) * (2 * ra q p + 1) ∧ (k2 * hs).toInt = (2 * (j : Int) + 1) * (2 * ra q p + 1)) ∨ ((k1 * hs).toInt = (2 * (j : Int) + 1) * (2 * ra q p + 1) ∧ (k2 * hs).toInt = (2 * (j : Int) - 1) * (2 * ra q p + 1)) := by
    rw [V1, V2, hsT]
    by_cases h : q % 8 < p % 9
    · rw [if_pos h] at hk ⊢
      left
      constructor
      · congr 1; omega
      · congr 1; omega
    · rw [if_neg h] at hk ⊢
      right
      constructor
      · rw [Int.mul_neg, ← Int.neg_mul]; congr 1; omega
      · rw [Int.mul_neg, ← Int.neg_mul]; congr 1; omega
  have G2 : ((r1 * ws).toInt = (2 * (i : Int) - 1) * (2 * rb q p + 1) ∧ (r2 * ws).toInt = (2 * (i : Int) + 1) * (2 * rb q p + 1)) ∨ ((r1 * ws).toInt = (2 * (i : Int) + 1) * (2 * rb q p + 1) ∧ (r2 * ws).toInt = (2 * (i : Int) - 1) * (2 * rb q p + 1)) := by
    rw [V3, V4, wsT]
    by_cases h : q / 8 < p / 9
    · rw [if_pos h] at hr ⊢
      left
      constructor
      · congr 1; omega
      · congr 1; omega
    · rw [if_neg h] at hr ⊢
      right
      constructor
      · rw [Int.mul_neg, ← Int.neg_mul]; congr 1; omega
      · rw [Int.mul_neg, ← Int.neg_mul]; congr 1; omega
  have fin := g_core hi hj G1 G2 V5
  have IN := t_max (a := 0) (x := 0) (by decide) (t_max (t_min (a := k1 * hs) (b := k2 * hs) rfl rfl) (t_min (a := r1 * ws) (b := r2 * ws) rfl rfl))
  have OUT := t_min (a := nI (2 * rb q p + 1) * nI (2 * ra q p + 1)) rfl (t_min (t_max (a := k1 * hs) (b := k2 * hs) rfl rfl) (t_max (a := r1 * ws) (b := r2 * ws) rfl rfl))
  rw [← IN, ← OUT, ← Int32.lt_iff_toInt_lt] at fin
  have h105 : F 105 [some (.int (nI (2 * (q % 8) + 1))), some (.int (nI (2 * (q / 8) + 1))), some (.int (nI (2 * (p % 9)))), some (.int (nI (2 * (p / 9)))), some (.int k), some (.int r), some (.int (nI (2 * rb q p + 1))), some (.int (nI (2 * ra q p + 1))), some (.int (k1 * hs)), some (.int (k2 * hs)), some (.int (r1 * ws)), none, none, none] [.int ws, .int r2] 90 R I J := by
    refine b105 _ _ _ _ _ _ (And.intro (fun c => b169 _ _ _ _ _ _ (b170 _ _ _ _ _ _ (And.intro (Or.inl nI_0) ?_))) (fun c => b170 _ _ _ _ _ _ (And.intro (Or.inr nI_1') ?_)))
    · have e : thr (ra q p) (rb q p) i j = false := Bool.eq_false_iff.mpr (fun hh => absurd (fin.mpr hh) (Int32.not_lt.mpr c))
      rw [e] at kq
      exact kq
    · have e : thr (ra q p) (rb q p) i j = true := fin.mp (Int32.not_le.mp c)
      rw [e] at kq
      exact kq
  have h81 : F 81 [some (.int (nI (2 * (q % 8) + 1))), some (.int (nI (2 * (q / 8) + 1))), some (.int (nI (2 * (p % 9)))), some (.int (nI (2 * (p / 9)))), some (.int k), some (.int r), some (.int (nI (2 * rb q p + 1))), some (.int (nI (2 * ra q p + 1))), some (.int (k1 * hs)), some (.int (k2 * hs)), none, none, none, none] [.int ws, .int r1] 90 R I J := by
    refine b81 _ _ _ _ _ _ (And.intro (fun c => b102 _ _ _ _ _ _ ?_) (fun c => ?_))
    · rw [nI_leI (by omega) (by omega)] at c
      rw [hws, if_neg (show ¬ q / 8 < p / 9 by omega), hr2] at h105
      rw [hws, if_neg (show ¬ q / 8 < p / 9 by omega)]
      exact h105
    · rw [nI_leI (by omega) (by omega)] at c
      rw [hws, if_pos (show q / 8 < p / 9 by omega), hr2] at h105
      rw [hws, if_pos (show q / 8 < p / 9 by omega)]
      exact h105
  have h59 : F 59 [some (.int (nI (2 * (q % 8) + 1))), some (.int (nI (2 * (q / 8) + 1))), some (.int (nI (2 * (p % 9)))), some (.int (nI (2 * (p / 9)))), some (.int k), some (.int r), some (.int (nI (2 * rb q p + 1))), some (.int (nI (2 * ra q p + 1))), some (.int (k1 * hs)), none, none, none, none, none] [.int hs, .int k2] 90 R I J := by
    refine b59 _ _ _ _ _ _ (And.intro (fun c => b78 _ _ _ _ _ _ ?_) (fun c => ?_))
    · rw [nI_leI (by omega) (by omega)] at c
      rw [hws, if_neg (show ¬ q / 8 < p / 9 by omega), hr1] at h81
      exact h81
    · rw [nI_leI (by omega) (by omega)] at c
      rw [hws, if_pos (show q / 8 < p / 9 by omega), hr1] at h81
      exact h81
  have h35 : F 35 [some (.int (nI (2 * (q % 8) + 1))), some (.int (nI (2 * (q / 8) + 1))), some (.int (nI (2 * (p % 9)))), some (.int (nI (2 * (p / 9)))), some (.int k), some (.int r), some (.int (nI (2 * rb q p + 1))), some (.int (nI (2 * ra q p + 1))), none, none, none, none, none, none] [.int hs, .int k1] 90 R I J := by
    refine b35 _ _ _ _ _ _ (And.intro (fun c => b56 _ _ _ _ _ _ ?_) (fun c => ?_))
    · rw [nI_leI (by omega) (by omega)] at c
      rw [hhs, if_neg (show ¬ q % 8 < p % 9 by omega), hk2] at h59
      rw [hhs, if_neg (show ¬ q % 8 < p % 9 by omega)]
      exact h59
    · rw [nI_leI (by omega) (by omega)] at c
      rw [hhs, if_pos (show q % 8 < p % 9 by omega), hk2] at h59
      rw [hhs, if_pos (show q % 8 < p % 9 by omega)]
      exact h59
  refine b0 _ _ _ _ _ _ ?_
  refine And.intro (fun c => b32 _ _ _ _ _ _ ?_) (fun c => ?_)
  · rw [nI_leI (by omega) (by omega)] at c
    rw [hhs, if_neg (show ¬ q % 8 < p % 9 by omega), hk1, ← hab, ← hbb] at h35
    exact h35
  · rw [nI_leI (by omega) (by omega)] at c
    rw [hhs, if_pos (show q % 8 < p % 9 by omega), hk1, ← hab, ← hbb] at h35
    exact h35
theorem ma_goesr {q p i j : Nat} {r k : Int32} {R : RR} {I : II} {J : JJ} {Q : QT} (hq : q < 64) (hp : p < 81) (hi : i ≤ ra q p + 1) (hj : j ≤ rb q p + 1) (hr : r.toInt = if q / 8 < p / 9 then ((q / 8 : Nat) : Int) + i else ((q / 8 : Nat) : Int) - i) (hk : k.toInt = if q % 8 < p % 9 then ((q % 8 : Nat) : Int) + j else ((q % 8 : Nat) : Int) - j) (kq : Q (some (.int (nI (thr (ra q p) (rb q p) i j).toNat))) 90 R I J) : CT m_X12_goesThrough 0 [.int (nI 2 * nI (q % 8) + nI 1), .int (nI 2 * nI (q / 8) + nI 1), .int (nI 2 * nI (p % 9)), .int (nI 2 * nI (p / 9)), .int k, .int r] 90 R I J Q := by
  rw [pk_mul, pk_mul, pk_mul, pk_mul, nI_add, nI_add]
  exact ma_goes hq hp hi hj hr hk kq
theorem lin_rc {q p i j R C : Nat} (hq : q < 64) (hp : p < 81) (hR : 1 ≤ R ∧ R ≤ 8) (hC : 1 ≤ C ∧ C ≤ 8) (hr : (R : Int) - 1 = if q / 8 < p / 9 then ((q / 8 : Nat) : Int) + i else ((q / 8 : Nat) : Int) - i) (hk : (C : Int) - 1 = if q % 8 < p % 9 then ((q % 8 : Nat) : Int) + j else ((q % 8 : Nat) : Int) - j) : lin q p (8 * (R - 1) + (C - 1)) = thr (ra q p) (rb q p) i j := by
  rw [Bool.eq_iff_iff, lin_iff hq hp]
  constructor
  · rintro ⟨i', j', h1, h2, h3, h4⟩
    have g1 := rwi_lt hq hp h1
    have g2 := cli_lt hq hp h2
    have h4 : 8 * (R - 1) + (C - 1) = 8 * rwi q p i' + cli q p j' := h4
    have e1 : R - 1 = rwi q p i' := by omega
    have e2 : C - 1 = cli q p j' := by omega
    have f1 : i' = i := by
      unfold rwi at e1
      unfold ra at h1
      by_cases d : q / 8 < p / 9
      · rw [if_pos d] at e1 hr; omega
      · rw [if_neg d] at e1 hr h1; omega
    have f2 : j' = j := by
      unfold cli at e2
      unfold rb at h2
      by_cases d : q % 8 < p % 9
      · rw [if_pos d] at e2 hk; omega
      · rw [if_neg d] at e2 hk h2; omega
    rw [f1, f2] at h3
    exact h3
  · intro h
    have h' := h
    unfold thr at h'
    simp only [Bool.and_eq_true, decide_eq_true_eq] at h'
    refine ⟨i, j, h'.1.1.1, h'.1.1.2, h, ?_⟩
    show 8 * (R - 1) + (C - 1) = 8 * rwi q p i + cli q p j
    unfold rwi cli
    by_cases d : q / 8 < p / 9
    · rw [if_pos d] at hr ⊢
      by_cases d2 : q % 8 < p % 9
      · rw [if_pos d2] at hk ⊢; omega
      · rw [if_neg d2] at hk ⊢; omega
    · rw [if_neg d] at hr ⊢
      by_cases d2 : q % 8 < p % 9
      · rw [if_pos d2] at hk ⊢; omega
      · rw [if_neg d2] at hk ⊢; omega
def hit (c : Nat → Nat) (q p R C : Nat) : Bool := decide (1 ≤ R ∧ R ≤ 8 ∧ 1 ≤ C ∧ C ≤ 8) && (wal (c (8 * (R - 1) + (C - 1))) && lin q p (8 * (R - 1) + (C - 1)))
theorem hit_clr {c : Nat → Nat} {q p R C : Nat} (h : hit c q p R C = true) : clr c q p = false := by
  unfold hit at h
  simp only [Bool.and_eq_true, decide_eq_true_eq] at h
  unfold clr
  rw [anyb_yes (j := 8 * (R - 1) + (C - 1)) (by omega) (by rw [h.2.1, h.2.2]; rfl)]
  rfl
theorem clr_hit {c : Nat → Nat} {q p : Nat} (hq : q < 64) (hp : p < 81) (h : ∀ R C, min (q / 8 + 1) (p / 9) ≤ R → R ≤ max (q / 8) (p / 9) + 1 → min (q % 8 + 1) (p % 9) ≤ C → C ≤ max (q % 8) (p % 9) + 1 → hit c q p R C = false) : clr c q p = true := by
  unfold clr
  rw [anyb_no (fun s hs => ?_)]
  · rfl
  · by_cases hl : lin q p s = true
    · obtain ⟨i, j, h1, h2, h3, h4⟩ := (lin_iff hq hp).mp hl
      have g1 := rwi_lt hq hp h1
      have g2 := cli_lt hq hp h2
      have h4 : s = 8 * rwi q p i + cli q p j := h4
      have f1 : min (q / 8 + 1) (p / 9) ≤ rwi q p i + 1 ∧ rwi q p i + 1 ≤ max (q / 8) (p / 9) + 1 := by
        unfold rwi
        unfold ra at h1
        by_cases d : q / 8 < p / 9
        · rw [if_pos d] at h1 ⊢; omega
        · rw [if_neg d] at h1 ⊢; omega
      have f2 : min (q % 8 + 1) (p % 9) ≤ cli q p j + 1 ∧ cli q p j + 1 ≤ max (q % 8) (p % 9) + 1 := by
        unfold cli
        unfold rb at h2
        by_cases d : q % 8 < p % 9
        · rw [if_pos d] at h2 ⊢; omega
        · rw [if_neg d] at h2 ⊢; omega
      have hh := h _ _ f1.1 f1.2 f2.1 f2.2
      unfold hit at hh
      rw [show 8 * (rwi q p i + 1 - 1) + (cli q p j + 1 - 1) = s by omega, hl, decide_eq_true (by omega)] at hh
      rw [hl]
      simpa using hh
    · rw [Bool.eq_false_iff.mpr hl]; rfl
theorem mn_t {v : Int32} {R : RR} {I : II} {J : JJ} {Q : QT} (h : nI 1 < v) (kq : Q (some (.int (nI 1))) 90 R I J) : CT m_X12_hinders 0 [.int v] 90 R I J Q := by
  refine r_X12_hinders (by decide) (fun F wk b0 b9 b10 => ?_)
  exact b0 _ _ _ _ _ _ (br_f (Int32.not_le.mpr h) (b10 _ _ _ _ _ _ (And.intro (Or.inr nI_1') kq)))
theorem mn_f {v : Int32} {R : RR} {I : II} {J : JJ} {Q : QT} (h : ¬ nI 1 < v) (kq : Q (some (.int (nI 0))) 90 R I J) : CT m_X12_hinders 0 [.int v] 90 R I J Q := by
  refine r_X12_hinders (by decide) (fun F wk b0 b9 b10 => ?_)
  exact b0 _ _ _ _ _ _ (br_t (Int32.not_lt.mp h) (b9 _ _ _ _ _ _ (b10 _ _ _ _ _ _ (And.intro (Or.inl nI_0) kq))))
theorem stv_w {c : Nat → Nat} (hcd : cdo c) {R C : Nat} : nI 1 < stv c R C ↔ (1 ≤ R ∧ R ≤ 8 ∧ 1 ≤ C ∧ C ≤ 8) ∧ wal (c (8 * (R - 1) + (C - 1))) = true := by
  unfold stv
  by_cases e : 1 ≤ R ∧ R ≤ 8 ∧ 1 ≤ C ∧ C ≤ 8
  · have := hcd (8 * (R - 1) + (C - 1)) (by omega)
    rw [if_pos e, nI_ltI (by omega) (by omega)]
    unfold wal
    rw [decide_eq_true_eq]
    constructor
    · intro h; exact ⟨e, by omega⟩
    · intro h; omega
  · rw [if_neg e]
    constructor
    · intro h; exact absurd h (by decide +kernel)
    · intro h; exact absurd h.1 e
set_option maxHeartbeats 1000000 in
theorem ma_isClear {q p : Nat} {c : Nat → Nat} {I : II} {J : JJ} {Q : QT} (hsq : sqr I 75 c) (hcd : cdo c) (hq : q < 64) (hp : p < 81) (kq : Q (some (.int (nI (clr c q p).toNat))) 90 al_R0 I J) : CT m_X12_isClear 0 [.ref 74, .int (nI q), .int (nI p)] 90 al_R0 I J Q := by
  refine r_X12_isClear (by decide) (fun F wk b0 b33 b55 b112 b118 b124 => ?_)
  have hall := clr_hit (c := c) hq hp
  obtain ⟨lr, hlr⟩ : ∃ n, n = min (q / 8 + 1) (p / 9) := ⟨_, rfl⟩
  obtain ⟨hr, hhr⟩ : ∃ n, n = max (q / 8) (p / 9) + 1 := ⟨_, rfl⟩
  obtain ⟨lc, hlc⟩ : ∃ n, n = min (q % 8 + 1) (p % 9) := ⟨_, rfl⟩
  obtain ⟨hc, hhc⟩ : ∃ n, n = max (q % 8) (p % 9) + 1 := ⟨_, rfl⟩
  rw [← hlr, ← hhr, ← hlc, ← hhc] at hall
  have s1 : ∀ n : Nat, n < 100 → (nI n - nI 1).toInt = (n : Int) - 1 := fun n hn => by rw [i_sub (by omega) (by omega)]; rfl
  have mR : (if nI (p / 9) - nI 1 < nI (q / 8) then nI (p / 9) - nI 1 else nI (q / 8)) = nI lr - nI 1 := by
    apply Int32.toInt_inj.mp
    rw [t_min (nT (by omega)) (s1 _ (by omega)), s1 _ (by omega)]
    omega
  have xR : (if nI (q / 8) < nI (p / 9) then nI (p / 9) else nI (q / 8)).toInt = (hr : Int) - 1 := by
    rw [t_max (nT (by omega)) (nT (by omega))]
    omega
  have mC : (if nI (p % 9) - nI 1 < nI (q % 8) then nI (p % 9) - nI 1 else nI (q % 8)) = nI lc - nI 1 := by
    apply Int32.toInt_inj.mp
    rw [t_min (nT (by omega)) (s1 _ (by omega)), s1 _ (by omega)]
    omega
  have xC : (if nI (q % 8) < nI (p % 9) then nI (p % 9) else nI (q % 8)).toInt = (hc : Int) - 1 := by
    rw [t_max (nT (by omega)) (nT (by omega))]
    omega
  have up1 : ∀ n : Nat, nI n - nI 1 + nI 1 = nI (n + 1) - nI 1 := fun n => by
    rw [← nI_add, Int32.add_sub_cancel, Int32.sub_add_cancel]
  have outer : ∀ d R : Nat, R + d = hr + 1 → lr ≤ R → (∀ R' C', lr ≤ R' → R' < R → lc ≤ C' → C' ≤ hc → hit c q p R' C' = false) → F 33 [some (.ref 74), some (.int (nI q)), some (.int (nI p)), some (.int (nI (q / 8))), some (.int (nI (q % 8))), some (.int (nI (p / 9))), some (.int (nI (p % 9))), some (.int (nI R - nI 1)), none] [] 90 al_R0 I J := by
    intro d
    induction d with
    | zero =>
      intro R hR hl hn
      have e := hall (fun R' C' h1 h2 h3 h4 => hn R' C' h1 (by omega) h3 h4)
      rw [e] at kq
      refine b33 _ _ _ _ _ _ (br_t ?_ (b124 _ _ _ _ _ _ (And.intro (Or.inr nI_1') kq)))
      rw [Int32.lt_iff_toInt_lt, xR, s1 _ (by omega)]
      omega
    | succ d ih =>
      intro R hR hl hn
      have inner : ∀ e C : Nat, C + e = hc + 1 → lc ≤ C → (∀ C', lc ≤ C' → C' < C → hit c q p R C' = false) → F 55 [some (.ref 74), some (.int (nI q)), some (.int (nI p)), some (.int (nI (q / 8))), some (.int (nI (q % 8))), some (.int (nI (p / 9))), some (.int (nI (p % 9))), some (.int (nI R - nI 1)), some (.int (nI C - nI 1))] [] 90 al_R0 I J := by
        intro e
        induction e with
        | zero =>
          intro C hC hlC hnC
          have h9 := ih (R + 1) (by omega) (by omega) (fun R' C' h1 h2 h3 h4 => by
            rcases Nat.lt_or_ge R' R with g | g
            · exact hn R' C' h1 g h3 h4
            · obtain rfl : R' = R := by omega
              exact hnC C' h3 (by omega))
          rw [← up1] at h9
          refine b55 _ _ _ _ _ _ (br_t ?_ (b118 _ _ _ _ _ _ (wk _ _ _ _ _ _ _ _ (by simp [al_le]) h9)))
          rw [Int32.lt_iff_toInt_lt, xC, s1 _ (by omega)]
          omega
        | succ e ihe =>
          intro C hC hlC hnC
          have go : hit c q p R C = false → F 112 [some (.ref 74), some (.int (nI q)), some (.int (nI p)), some (.int (nI (q / 8))), some (.int (nI (q % 8))), some (.int (nI (p / 9))), some (.int (nI (p % 9))), some (.int (nI R - nI 1)), some (.int (nI C - nI 1))] [] 90 al_R0 I J := fun hf => by
            have h9 := ihe (C + 1) (by omega) (by omega) (fun C' h1 h2 => by
              rcases Nat.lt_or_ge C' C with g | g
              · exact hnC C' h1 g
              · obtain rfl : C' = C := by omega
                exact hf)
            rw [← up1] at h9
            exact b112 _ _ _ _ _ _ h9
          refine b55 _ _ _ _ _ _ (br_f ?_ (ma_standsAt (r := R) (k := C) hsq (s1 _ (by omega)) (s1 _ (by omega)) (by omega) (by omega) ?_))
          · rw [Int32.lt_iff_toInt_lt, xC, s1 _ (by omega)]
            omega
          · by_cases hw : nI 1 < stv c R C
            · have hw2 := (stv_w hcd).mp hw
              obtain ⟨i, hi1, hi2⟩ : ∃ i, i ≤ ra q p + 1 ∧ (R : Int) - 1 = if q / 8 < p / 9 then ((q / 8 : Nat) : Int) + (i : Nat) else ((q / 8 : Nat) : Int) - (i : Nat) := by
                unfold ra
                by_cases dd : q / 8 < p / 9
                · rw [if_pos dd]; exact ⟨R - 1 - q / 8, by omega, by rw [if_pos dd]; omega⟩
                · rw [if_neg dd]; exact ⟨q / 8 + 1 - R, by omega, by rw [if_neg dd]; omega⟩
              obtain ⟨j, hj1, hj2⟩ : ∃ j, j ≤ rb q p + 1 ∧ (C : Int) - 1 = if q % 8 < p % 9 then ((q % 8 : Nat) : Int) + (j : Nat) else ((q % 8 : Nat) : Int) - (j : Nat) := by
                unfold rb
                by_cases dd : q % 8 < p % 9
                · rw [if_pos dd]; exact ⟨C - 1 - q % 8, by omega, by rw [if_pos dd]; omega⟩
                · rw [if_neg dd]; exact ⟨q % 8 + 1 - C, by omega, by rw [if_neg dd]; omega⟩
              have el := lin_rc hq hp ⟨hw2.1.1, hw2.1.2.1⟩ hw2.1.2.2 hi2 hj2
              refine mn_t hw (br_f (by decide +kernel) (ma_goesr hq hp hi1 hj1 ((s1 _ (by omega)).trans hi2) ((s1 _ (by omega)).trans hj2) ?_))
              rw [← el]
              have eh : hit c q p R C = lin q p (8 * (R - 1) + (C - 1)) := by
                unfold hit
                rw [decide_eq_true hw2.1, hw2.2, Bool.true_and, Bool.true_and]
              refine And.intro (fun c3 => go ?_) (fun c3 => ?_)
              · rw [eh]; exact bz_f c3
              · rw [hit_clr (eh.trans (bz_t c3))] at kq
                exact And.intro (Or.inl nI_0) kq
            · refine mn_f hw (br_t nI_0 (go ?_))
              cases hh : hit c q p R C with
              | false => rfl
              | true =>
                unfold hit at hh
                simp only [Bool.and_eq_true, decide_eq_true_eq] at hh
                exact absurd ((stv_w hcd).mpr ⟨hh.1, hh.2.1⟩) hw
      refine b33 _ _ _ _ _ _ (br_f ?_ ?_)
      · rw [Int32.lt_iff_toInt_lt, xR, s1 _ (by omega)]
        omega
      · have h9 := inner (hc + 1 - lc) lc (by omega) (Nat.le_refl _) (fun C' h1 h2 => by omega)
        rw [← mC] at h9
        exact h9
  refine b0 _ _ _ _ _ _ (And.intro (by decide +kernel) (And.intro (by decide +kernel) (And.intro (by decide +kernel) (And.intro (by decide +kernel) ?_))))
  rw [pk_rem (a := q) (d := 8) (by omega) (by decide) (by decide), pk_rem (a := p) (d := 9) (by omega) (by decide) (by decide), pk_div (a := q) (d := 8) (by omega) (by decide) (by decide), pk_div (a := p) (d := 9) (by omega) (by decide) (by decide)]
  have h9 := outer (hr + 1 - lr) lr (by omega) (Nat.le_refl _) (fun R' C' h1 h2 => by omega)
  rw [← mR] at h9
  exact h9
def opk (c : Nat → Nat) (p k : Nat) : Bool := decide (stv c (p / 9 + 1 - k / 2) (p % 9 + 1 - k % 2) = nI 0 ∨ stv c (p / 9 + 1 - k / 2) (p % 9 + 1 - k % 2) = nI 1)
def opn (c : Nat → Nat) (p : Nat) : Bool := anyb (opk c p) 4
theorem ma_isOpen {p : Nat} {c : Nat → Nat} {I : II} {J : JJ} {Q : QT} (hsq : sqr I 75 c) (hp : p < 81) (kq : Q (some (.int (nI (opn c p).toNat))) 90 al_R0 I J) : CT m_X12_isOpen 0 [.ref 74, .int (nI p)] 90 al_R0 I J Q := by
  refine r_X12_isOpen (by decide) (fun F wk b0 b4 b46 b50 b51 b58 => ?_)
  have loop : ∀ d k : Nat, k + d = 4 → F 4 [some (.ref 74), some (.int (nI p)), some (.int (nI (anyb (opk c p) k).toNat)), some (.int (nI k)), none] [] 90 al_R0 I J := by
    intro d
    induction d with
    | zero =>
      intro k hk
      obtain rfl : k = 4 := by omega
      exact b4 _ _ _ _ _ _ (br_t (nI_le (by omega) (by omega)) (b58 _ _ _ _ _ _ (And.intro (i_bit _) kq)))
    | succ d ih =>
      intro k hk
      have h9 := ih (k + 1) (by omega)
      rw [anyb, nI_s k] at h9
      have yes : ∀ o v : Option Value, (anyb (opk c p) k || opk c p k) = true → F 46 [some (.ref 74), some (.int (nI p)), o, some (.int (nI k)), v] [] 90 al_R0 I J := fun o v hy => by
        rw [hy] at h9
        exact b46 _ _ _ _ _ _ (b51 _ _ _ _ _ _ (wk _ _ _ _ _ _ _ _ (by simp [al_le]) h9))
      refine b4 _ _ _ _ _ _ (br_f (nI_ge (by omega) (by omega)) (And.intro (by decide +kernel) (And.intro (by decide +kernel) (And.intro (by decide +kernel) (And.intro (by decide +kernel) ?_)))))
      dsimp only [o_iload, o_lload, o_aload, o_istore, o_astore, o_lstore, o_iinc, o_ic, o_lc, o_sc, o_iadd, o_isub, o_imul, o_iand, o_ior, o_ixor, o_ishl, o_ishr, o_ladd, o_lsub, o_land, o_lor, o_lxor, o_lshl, o_lshr, o_i2l, o_l2i, o_lcmp, o_dup, o_dup2, o_pop, o_getI, o_getJ, o_getR, o_putI, o_putZ, o_putJ, o_iald, o_zald, o_lald, o_aald, o_iast, o_zast, o_last, o_alen, o_cpyI, o_cpyJ, o_iret, o_zret, o_lret, o_aret, o_vret, o_idiv, o_irem, o_ineg, o_ifeq, o_ifne, o_iflt, o_ifge, o_ifgt, o_ifle, o_iceq, o_icne, o_iclt, o_icge, o_icgt, o_icle, al_gL, al_sL, al_sJ, al_gd]
      rw [pk_rem (a := p) (d := 9) (by omega) (by decide) (by decide), pk_div (a := p) (d := 9) (by omega) (by decide) (by decide), pk_rem (a := k) (d := 2) (by omega) (by decide) (by decide), pk_div (a := k) (d := 2) (by omega) (by decide) (by decide)]
      refine ma_standsAt (r := p / 9 + 1 - k / 2) (k := p % 9 + 1 - k % 2) hsq (by rw [i_sub (by omega) (by omega)]; omega) (by rw [i_sub (by omega) (by omega)]; omega) (by omega) (by omega) ?_
      refine And.intro (fun c1 => yes _ _ (by rw [bz_t c1]; rfl)) (fun c1 => ?_)
      have c1 := bz_f c1
      refine And.intro (fun c2 => yes _ _ ?_) (fun c2 => And.intro (fun c3 => ?_) (fun c3 => yes _ _ ?_))
      · rw [show opk c p k = true from decide_eq_true (Or.inl (c2.trans nI_0.symm)), Bool.or_true]
      · rw [c1, show opk c p k = false from decide_eq_false (fun h => h.elim (fun g => c2 (g.trans nI_0)) c3)] at h9
        exact b50 _ _ _ _ _ _ (b51 _ _ _ _ _ _ (wk _ _ _ _ _ _ _ _ (by simp [al_le]) h9))
      · rw [show opk c p k = true from decide_eq_true (Or.inr c3), Bool.or_true]
  exact b0 _ _ _ _ _ _ (loop 4 0 rfl)
theorem opn_sen {c : Nat → Nat} {p : Nat} (hp : p < 81) (ho : opn c p = false) {q : Nat} (hq : q < 64) : sen c p q = false := by
  cases hs : sen c p q with
  | false => rfl
  | true =>
    exfalso
    unfold sen clr at hs
    rw [Bool.and_eq_true, Bool.not_eq_true'] at hs
    have e1 : thr (ra q p) (rb q p) (ra q p) (rb q p) = true := by
      unfold thr
      simp only [Bool.and_eq_true, decide_eq_true_eq]
      have k1 : 2 * ra q p * (2 * rb q p + 1) < (2 * ra q p + 1) * (2 * rb q p + 1) := Nat.mul_lt_mul_of_pos_right (by omega) (by omega)
      have k2 : 2 * rb q p * (2 * ra q p + 1) < (2 * rb q p + 1) * (2 * ra q p + 1) := Nat.mul_lt_mul_of_pos_right (by omega) (by omega)
      have k3 : (2 * ra q p + 1) * (2 * rb q p + 1) = (2 * rb q p + 1) * (2 * ra q p + 1) := Nat.mul_comm _ _
      refine ⟨⟨⟨Nat.le_refl _, Nat.le_refl _⟩, ?_⟩, ?_⟩ <;> omega
    have e2 : lin q p (sqi q p (ra q p, rb q p)) = true := (lin_iff hq hp).mpr ⟨_, _, Nat.le_refl _, Nat.le_refl _, e1, rfl⟩
    have g1 := rwi_lt hq hp (Nat.le_refl (ra q p))
    have g2 := cli_lt hq hp (Nat.le_refl (rb q p))
    have r1 : rwi q p (ra q p) + 1 = p / 9 + 1 - (if q / 8 < p / 9 then 1 else 0) := by
      unfold rwi ra
      by_cases d : q / 8 < p / 9
      · rw [if_pos d, if_pos d, if_pos d]; omega
      · rw [if_neg d, if_neg d, if_neg d]; omega
    have r2 : cli q p (rb q p) + 1 = p % 9 + 1 - (if q % 8 < p % 9 then 1 else 0) := by
      unfold cli rb
      by_cases d : q % 8 < p % 9
      · rw [if_pos d, if_pos d, if_pos d]; omega
      · rw [if_neg d, if_neg d, if_neg d]; omega
    have e3 : sqi q p (ra q p, rb q p) = 8 * rwi q p (ra q p) + cli q p (rb q p) := rfl
    have e4 : wal (c (sqi q p (ra q p, rb q p))) = false := by
      cases hw : wal (c (sqi q p (ra q p, rb q p))) with
      | false => rfl
      | true =>
        have := anyb_yes (P := fun s => lin q p s && wal (c s)) (n := 64) (j := sqi q p (ra q p, rb q p)) (by omega) (by rw [e2, hw]; rfl)
        rw [this] at hs
        exact absurd hs.2 (by decide)
    have e5 : opk c p (2 * (if q / 8 < p / 9 then 1 else 0) + (if q % 8 < p % 9 then 1 else 0)) = true := by
      unfold opk
      rw [show (2 * (if q / 8 < p / 9 then 1 else 0) + (if q % 8 < p % 9 then 1 else 0)) / 2 = (if q / 8 < p / 9 then 1 else 0) by split <;> split <;> rfl, show (2 * (if q / 8 < p / 9 then 1 else 0) + (if q % 8 < p % 9 then 1 else 0)) % 2 = (if q % 8 < p % 9 then 1 else 0) by split <;> split <;> rfl, ← r1, ← r2]
      apply decide_eq_true
      unfold stv
      rw [if_pos (by omega), show 8 * (rwi q p (ra q p) + 1 - 1) + (cli q p (rb q p) + 1 - 1) = sqi q p (ra q p, rb q p) by omega]
      unfold wal at e4
      have e4 := of_decide_eq_false e4
      rcases (show c (sqi q p (ra q p, rb q p)) = 0 ∨ c (sqi q p (ra q p, rb q p)) = 1 by omega) with g | g
      · exact Or.inl (by rw [g])
      · exact Or.inr (by rw [g])
    have : opn c p = true := anyb_yes (j := 2 * (if q / 8 < p / 9 then 1 else 0) + (if q % 8 < p % 9 then 1 else 0)) (by split <;> split <;> omega) e5
    rw [ho] at this
    exact absurd this (by decide)
