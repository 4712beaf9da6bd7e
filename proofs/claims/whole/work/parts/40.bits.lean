/-! HOW MANY BITS: by bytes -/
def mk8 (b : Nat) : Nat → Nat
  | 0 => 0
  | k + 1 => 256 * mk8 b k + b
theorem mk8_s (b k : Nat) : mk8 b (k + 1) = 256 * mk8 b k + b := rfl
theorem land_split {a b c d : Nat} (hb : b < 256) (hd : d < 256) : (256 * a + b) &&& (256 * c + d) = 256 * (a &&& c) + (b &&& d) := by
  apply Nat.eq_of_testBit_eq
  intro j
  have hbd : b &&& d < 2 ^ 8 := Nat.and_lt_two_pow b hd
  rw [Nat.testBit_and, show 256 * a = 2 ^ 8 * a from rfl, show 256 * c = 2 ^ 8 * c from rfl, show 256 * (a &&& c) = 2 ^ 8 * (a &&& c) from rfl, Nat.testBit_two_pow_mul_add a hb j, Nat.testBit_two_pow_mul_add c hd j, Nat.testBit_two_pow_mul_add (a &&& c) hbd j]
  split
  · rw [Nat.testBit_and]
  · rw [Nat.testBit_and]
def t1 (m x : Nat) : Nat := x - (x / 2 &&& m)
def t2 (m x : Nat) : Nat := (x &&& m) + (x / 4 &&& m)
def t3 (m x : Nat) : Nat := (x + x / 16) &&& m
def p8 (b : Nat) : Nat := cnt (fun j => b.testBit j) 8
theorem b8_1 : ∀ b, b < 256 → ∀ e, e < 2 → (128 * e + b / 2) &&& 85 = (b / 2) &&& 85 ∧ (b / 2 &&& 85) ≤ b ∧ t1 85 b < 256 := by decide +kernel
theorem b8_2 : ∀ b, b < 256 → ∀ e, e < 4 → (64 * e + b / 4) &&& 51 = (b / 4) &&& 51 ∧ t2 51 b < 128 ∧ t2 51 b % 16 ≤ 6 ∧ t2 51 b / 16 ≤ 6 := by decide +kernel
theorem b8_3 : ∀ b, b < 128 → b / 16 ≤ 6 → ∀ e, e < 8 → (b + b / 16 + 16 * e) &&& 15 = (b + b / 16) &&& 15 := by decide +kernel
theorem b8_p : ∀ b, b < 256 → t3 15 (t2 51 (t1 85 b)) = p8 b ∧ p8 b ≤ 8 := by decide +kernel
theorem t1_s {k y b : Nat} (hb : b < 256) : t1 (mk8 85 (k + 1)) (256 * y + b) = 256 * t1 (mk8 85 k) y + t1 85 b := by
  obtain ⟨h1, h2, h3⟩ := b8_1 b hb (y % 2) (by omega)
  unfold t1
  rw [mk8_s, show (256 * y + b) / 2 = 256 * (y / 2) + (128 * (y % 2) + b / 2) by omega, land_split (by omega) (by omega), h1]
  have h4 : (y / 2 &&& mk8 85 k) ≤ y / 2 := Nat.and_le_left
  omega
theorem t2_s {k y b : Nat} (hb : b < 256) : t2 (mk8 51 (k + 1)) (256 * y + b) = 256 * t2 (mk8 51 k) y + t2 51 b := by
  obtain ⟨h1, h2, h3⟩ := b8_2 b hb (y % 4) (by omega)
  unfold t2
  rw [mk8_s, show (256 * y + b) / 4 = 256 * (y / 4) + (64 * (y % 4) + b / 4) by omega, land_split (by omega) (by omega), land_split (by omega) (by omega), h1]
  omega
theorem t3_s {k y b : Nat} (hb : b < 128) (hb2 : b / 16 ≤ 6) (hy : y % 16 ≤ 6) : t3 (mk8 15 (k + 1)) (256 * y + b) = 256 * t3 (mk8 15 k) y + t3 15 b := by
  have h1 := b8_3 b hb hb2 (y % 16) (by omega)
  unfold t3
  rw [mk8_s, show 256 * y + b + (256 * y + b) / 16 = 256 * (y + y / 16) + (b + b / 16 + 16 * (y % 16)) by omega, land_split (by omega) (by omega), h1]
theorem t2_low : ∀ (k x : Nat), x < 256 ^ k → t2 (mk8 51 k) x % 16 ≤ 6
  | 0, x, h => by
    have : x = 0 := by simpa using h
    subst this
    decide
  | k + 1, x, h => by
    have e : x = 256 * (x / 256) + x % 256 := by omega
    have h1 := b8_2 (x % 256) (by omega) 0 (by omega)
    rw [e, t2_s (by omega)]
    omega
theorem t1_lt {k x : Nat} (h : x < 256 ^ k) : t1 (mk8 85 k) x < 256 ^ k := Nat.lt_of_le_of_lt (Nat.sub_le _ _) h
def swr (k x : Nat) : Nat := t3 (mk8 15 k) (t2 (mk8 51 k) (t1 (mk8 85 k) x))
theorem swr_s {k y b : Nat} (hb : b < 256) (hy : y < 256 ^ k) : swr (k + 1) (256 * y + b) = 256 * swr k y + p8 b := by
  unfold swr
  have h1 := (b8_1 b hb 0 (by omega)).2.2
  have h2 := b8_2 (t1 85 b) h1 0 (by omega)
  rw [t1_s hb, t2_s h1, t3_s h2.2.1 h2.2.2.2 (t2_low k _ (t1_lt hy)), (b8_p b hb).1]
theorem cnt_add (P : Nat → Bool) (m : Nat) : ∀ n, cnt P (m + n) = cnt P m + cnt (fun j => P (m + j)) n
  | 0 => rfl
  | n + 1 => by
    rw [← Nat.add_assoc, cnt, cnt_add P m n, cnt, Nat.add_assoc]
def pcn (k x : Nat) : Nat := cnt (fun j => x.testBit j) (8 * k)
theorem pcn_s {k y b : Nat} (hb : b < 256) : pcn (k + 1) (256 * y + b) = p8 b + pcn k y := by
  unfold pcn
  rw [show 8 * (k + 1) = 8 + 8 * k by omega, cnt_add]
  congr 1
  · refine cnt_cong (fun j hj => ?_)
    rw [show 256 * y = 2 ^ 8 * y from rfl, Nat.testBit_two_pow_mul_add y hb j, if_pos hj]
  · refine cnt_cong (fun j hj => ?_)
    rw [show 256 * y = 2 ^ 8 * y from rfl, Nat.testBit_two_pow_mul_add y hb (8 + j), if_neg (by omega), show 8 + j - 8 = j by omega]
theorem swr_8 {x : Nat} (h : x < 256 ^ 8) : ∃ u0 u1 u2 u3 u4 u5 u6 u7 c0 c1 c2 c3 c4 c5 c6 c7 : Nat, swr 8 x = u0 ∧ pcn 8 x = c0 + c1 + c2 + c3 + c4 + c5 + c6 + c7 ∧ c0 ≤ 8 ∧ c1 ≤ 8 ∧ c2 ≤ 8 ∧ c3 ≤ 8 ∧ c4 ≤ 8 ∧ c5 ≤ 8 ∧ c6 ≤ 8 ∧ c7 ≤ 8 ∧ u0 = 256 * u1 + c0 ∧ u1 = 256 * u2 + c1 ∧ u2 = 256 * u3 + c2 ∧ u3 = 256 * u4 + c3 ∧ u4 = 256 * u5 + c4 ∧ u5 = 256 * u6 + c5 ∧ u6 = 256 * u7 + c6 ∧ u7 = c7 := by
  have e : ∀ y, y = 256 * (y / 256) + y % 256 := fun y => by omega
  have hl : ∀ y, y % 256 < 256 := fun y => by omega
  have q : ∀ y, p8 (y % 256) ≤ 8 := fun y => (b8_p (y % 256) (hl y)).2
  generalize e1 : x / 256 = x1
  generalize e2 : x1 / 256 = x2
  generalize e3 : x2 / 256 = x3
  generalize e4 : x3 / 256 = x4
  generalize e5 : x4 / 256 = x5
  generalize e6 : x5 / 256 = x6
  generalize e7 : x6 / 256 = x7
  have h7 : x7 / 256 = 0 := by omega
  have s8 : swr 8 x = 256 * swr 7 x1 + p8 (x % 256) := by
    have := swr_s (k := 7) (y := x1) (hl x) (by omega)
    rw [← e1, ← e x, e1] at this
    exact this
  have r8 : pcn 8 x = p8 (x % 256) + pcn 7 x1 := by
    have := pcn_s (k := 7) (y := x1) (hl x)
    rw [← e1, ← e x, e1] at this
    exact this
  have s7 : swr 7 x1 = 256 * swr 6 x2 + p8 (x1 % 256) := by
    have := swr_s (k := 6) (y := x2) (hl x1) (by omega)
    rw [← e2, ← e x1, e2] at this
    exact this
  have r7 : pcn 7 x1 = p8 (x1 % 256) + pcn 6 x2 := by
    have := pcn_s (k := 6) (y := x2) (hl x1)
    rw [← e2, ← e x1, e2] at this
    exact this
  have s6 : swr 6 x2 = 256 * swr 5 x3 + p8 (x2 % 256) := by
    have := swr_s (k := 5) (y := x3) (hl x2) (by omega)
    rw [← e3, ← e x2, e3] at this
    exact this
  have r6 : pcn 6 x2 = p8 (x2 % 256) + pcn 5 x3 := by
    have := pcn_s (k := 5) (y := x3) (hl x2)
    rw [← e3, ← e x2, e3] at this
    exact this
  have s5 : swr 5 x3 = 256 * swr 4 x4 + p8 (x3 % 256) := by
    have := swr_s (k := 4) (y := x4) (hl x3) (by omega)
    rw [← e4, ← e x3, e4] at this
    exact this
  have r5 : pcn 5 x3 = p8 (x3 % 256) + pcn 4 x4 := by
    have := pcn_s (k := 4) (y := x4) (hl x3)
    rw [← e4, ← e x3, e4] at this
    exact this
  have s4 : swr 4 x4 = 256 * swr 3 x5 + p8 (x4 % 256) := by
    have := swr_s (k := 3) (y := x5) (hl x4) (by omega)
    rw [← e5, ← e x4, e5] at this
    exact this
  have r4 : pcn 4 x4 = p8 (x4 % 256) + pcn 3 x5 := by
    have := pcn_s (k := 3) (y := x5) (hl x4)
    rw [← e5, ← e x4, e5] at this
    exact this
  have s3 : swr 3 x5 = 256 * swr 2 x6 + p8 (x5 % 256) := by
    have := swr_s (k := 2) (y := x6) (hl x5) (by omega)
    rw [← e6, ← e x5, e6] at this
    exact this
  have r3 : pcn 3 x5 = p8 (x5 % 256) + pcn 2 x6 := by
    have := pcn_s (k := 2) (y := x6) (hl x5)
    rw [← e6, ← e x5, e6] at this
    exact this
  have s2 : swr 2 x6 = 256 * swr 1 x7 + p8 (x6 % 256) := by
    have := swr_s (k := 1) (y := x7) (hl x6) (by omega)
    rw [← e7, ← e x6, e7] at this
    exact this
  have r2 : pcn 2 x6 = p8 (x6 % 256) + pcn 1 x7 := by
    have := pcn_s (k := 1) (y := x7) (hl x6)
    rw [← e7, ← e x6, e7] at this
    exact this
  have s1 : swr 1 x7 = p8 (x7 % 256) := by
    have := swr_s (k := 0) (y := 0) (hl x7) (by decide)
    rw [show 256 * 0 + x7 % 256 = x7 by omega, show swr 0 0 = 0 by decide] at this
    exact this.trans (by omega)
  have r1 : pcn 1 x7 = p8 (x7 % 256) := by
    have := pcn_s (k := 0) (y := 0) (hl x7)
    rw [show 256 * 0 + x7 % 256 = x7 by omega, show pcn 0 0 = 0 from rfl] at this
    exact this.trans (by omega)
  refine ⟨swr 8 x, swr 7 x1, swr 6 x2, swr 5 x3, swr 4 x4, swr 3 x5, swr 2 x6, swr 1 x7, p8 (x % 256), p8 (x1 % 256), p8 (x2 % 256), p8 (x3 % 256), p8 (x4 % 256), p8 (x5 % 256), p8 (x6 % 256), p8 (x7 % 256), rfl, ?_, q x, q x1, q x2, q x3, q x4, q x5, q x6, q x7, s8, s7, s6, s5, s4, s3, s2, s1⟩
  omega
theorem swr_4 {x : Nat} (h : x < 256 ^ 4) : ∃ u0 u1 u2 u3 c0 c1 c2 c3 : Nat, swr 4 x = u0 ∧ pcn 4 x = c0 + c1 + c2 + c3 ∧ c0 ≤ 8 ∧ c1 ≤ 8 ∧ c2 ≤ 8 ∧ c3 ≤ 8 ∧ u0 = 256 * u1 + c0 ∧ u1 = 256 * u2 + c1 ∧ u2 = 256 * u3 + c2 ∧ u3 = c3 := by
  have e : ∀ y, y = 256 * (y / 256) + y % 256 := fun y => by omega
  have hl : ∀ y, y % 256 < 256 := fun y => by omega
  have q : ∀ y, p8 (y % 256) ≤ 8 := fun y => (b8_p (y % 256) (hl y)).2
  generalize e1 : x / 256 = x1
  generalize e2 : x1 / 256 = x2
  generalize e3 : x2 / 256 = x3
  have h7 : x3 / 256 = 0 := by omega
  have s4 : swr 4 x = 256 * swr 3 x1 + p8 (x % 256) := by
    have := swr_s (k := 3) (y := x1) (hl x) (by omega)
    rw [← e1, ← e x, e1] at this
    exact this
  have r4 : pcn 4 x = p8 (x % 256) + pcn 3 x1 := by
    have := pcn_s (k := 3) (y := x1) (hl x)
    rw [← e1, ← e x, e1] at this
    exact this
  have s3 : swr 3 x1 = 256 * swr 2 x2 + p8 (x1 % 256) := by
    have := swr_s (k := 2) (y := x2) (hl x1) (by omega)
    rw [← e2, ← e x1, e2] at this
    exact this
  have r3 : pcn 3 x1 = p8 (x1 % 256) + pcn 2 x2 := by
    have := pcn_s (k := 2) (y := x2) (hl x1)
    rw [← e2, ← e x1, e2] at this
    exact this
  have s2 : swr 2 x2 = 256 * swr 1 x3 + p8 (x2 % 256) := by
    have := swr_s (k := 1) (y := x3) (hl x2) (by omega)
    rw [← e3, ← e x2, e3] at this
    exact this
  have r2 : pcn 2 x2 = p8 (x2 % 256) + pcn 1 x3 := by
    have := pcn_s (k := 1) (y := x3) (hl x2)
    rw [← e3, ← e x2, e3] at this
    exact this
  have s1 : swr 1 x3 = p8 (x3 % 256) := by
    have := swr_s (k := 0) (y := 0) (hl x3) (by decide)
    rw [show 256 * 0 + x3 % 256 = x3 by omega, show swr 0 0 = 0 by decide] at this
    exact this.trans (by omega)
  have r1 : pcn 1 x3 = p8 (x3 % 256) := by
    have := pcn_s (k := 0) (y := 0) (hl x3)
    rw [show 256 * 0 + x3 % 256 = x3 by omega, show pcn 0 0 = 0 from rfl] at this
    exact this.trans (by omega)
  refine ⟨swr 4 x, swr 3 x1, swr 2 x2, swr 1 x3, p8 (x % 256), p8 (x1 % 256), p8 (x2 % 256), p8 (x3 % 256), rfl, ?_, q x, q x1, q x2, q x3, s4, s3, s2, s1⟩
  omega
theorem fold_8 {x : Nat} (h : x < 256 ^ 8) : ((swr 8 x + swr 8 x / 256) + (swr 8 x + swr 8 x / 256) / 65536 + ((swr 8 x + swr 8 x / 256) + (swr 8 x + swr 8 x / 256) / 65536) / 4294967296) % 128 = pcn 8 x ∧ swr 8 x < 2 ^ 60 := by
  obtain ⟨u0, u1, u2, u3, u4, u5, u6, u7, c0, c1, c2, c3, c4, c5, c6, c7, hs, hp, q0, q1, q2, q3, q4, q5, q6, q7, v0, v1, v2, v3, v4, v5, v6, v7⟩ := swr_8 h
  rw [hs, hp]
  clear hs hp h
  rw [show u0 / 256 = u1 by omega, show (u0 + u1) / 65536 = u2 + u3 by omega]
  have w3 : u3 = 4294967296 * u7 + (16777216 * c6 + 65536 * c5 + 256 * c4 + c3) := by omega
  have w2 : u2 = 4294967296 * u6 + (16777216 * c5 + 65536 * c4 + 256 * c3 + c2) := by omega
  have w1 : u1 = 4294967296 * u5 + (16777216 * c4 + 65536 * c3 + 256 * c2 + c1) := by omega
  have w0 : u0 = 4294967296 * u4 + (16777216 * c3 + 65536 * c2 + 256 * c1 + c0) := by omega
  have w : (u0 + u1 + (u2 + u3)) / 4294967296 = u4 + u5 + u6 + u7 := by
    clear v0 v1 v2 v3 v4 v5 v6 v7
    omega
  rw [w]
  clear w w0 w1 w2 w3
  constructor
  · omega
  · omega
theorem fold_4 {x : Nat} (h : x < 256 ^ 4) : ((swr 4 x + swr 4 x / 256) + (swr 4 x + swr 4 x / 256) / 65536) % 64 = pcn 4 x ∧ swr 4 x < 2 ^ 28 := by
  obtain ⟨u0, u1, u2, u3, c0, c1, c2, c3, hs, hp, q0, q1, q2, q3, v0, v1, v2, v3⟩ := swr_4 h
  rw [hs, hp]
  clear hs hp h
  rw [show u0 / 256 = u1 by omega, show (u0 + u1) / 65536 = u2 + u3 by omega]
  constructor
  · omega
  · omega
/-- the two counters of the JDK -/
def uL (x : Int64) : Nat := x.toUInt64.toNat
theorem uL_lt (x : Int64) : uL x < 256 ^ 8 := x.toUInt64.toNat_lt
theorem uL_and (x y : Int64) : uL (x &&& y) = uL x &&& uL y := UInt64.toNat_and x.toUInt64 y.toUInt64
theorem uL_add {x y : Int64} (h : uL x + uL y < 2 ^ 64) : uL (x + y) = uL x + uL y := by
  have := UInt64.toNat_add x.toUInt64 y.toUInt64
  exact this.trans (Nat.mod_eq_of_lt h)
theorem uL_sub {x y : Int64} (h : uL y ≤ uL x) : uL (x - y) = uL x - uL y := UInt64.toNat_sub_of_le x.toUInt64 y.toUInt64 (UInt64.le_iff_toNat_le.mpr h)
theorem uL_shr {x : Int64} {s k : Nat} (hs : ((nI s).toInt64.toUInt64 &&& Int64.toUInt64 63).toNat % 64 = k) : uL ((x.toUInt64 >>> ((nI s).toInt64.toUInt64 &&& Int64.toUInt64 63)).toInt64) = uL x / 2 ^ k := by
  have := UInt64.toNat_shiftRight x.toUInt64 ((nI s).toInt64.toUInt64 &&& Int64.toUInt64 63)
  rw [hs, Nat.shiftRight_eq_div_pow] at this
  exact this
theorem uL_i (x : Int64) : (x.toInt32).toBitVec.toNat = uL x % 2 ^ 32 := by
  rw [Int64.toBitVec_toInt32, BitVec.signExtend_eq_setWidth_of_le x.toBitVec (by decide), BitVec.toNat_setWidth]
  rfl
theorem cj_bitsL {x : Int64} {n : Nat} {R : RR} {I : II} {J : JJ} {Q : QT} (hn : n ≤ 90) (kq : Q (some (.int (nI (cnt (gb x) 64)))) n R I J) : CT m_J13_bitCount_95d88 0 [.long x] n R I J Q := by
  refine r_J13_bitCount_95d88 hn (fun F wk b0 => ?_)
  refine b0 _ _ _ _ _ _ ?_
  have hx := uL_lt x
  have m5 : uL 6148914691236517205 = mk8 85 8 := by decide +kernel
  have m3 : uL 3689348814741910323 = mk8 51 8 := by decide +kernel
  have mf : uL 1085102592571150095 = mk8 15 8 := by decide +kernel
  generalize e1 : x - ((x.toUInt64 >>> ((nI 1).toInt64.toUInt64 &&& Int64.toUInt64 63)).toInt64 &&& 6148914691236517205) = y1
  have h1 : uL y1 = t1 (mk8 85 8) (uL x) := by
    have a1 : uL ((x.toUInt64 >>> ((nI 1).toInt64.toUInt64 &&& Int64.toUInt64 63)).toInt64 &&& 6148914691236517205) = uL x / 2 &&& mk8 85 8 := by
      rw [uL_and, uL_shr (k := 1) (by decide +kernel), m5]
    rw [← e1, uL_sub (by rw [a1]; exact Nat.le_trans Nat.and_le_left (Nat.div_le_self _ _)), a1]
    rfl
  generalize e2 : (y1 &&& 3689348814741910323) + ((y1.toUInt64 >>> ((nI 2).toInt64.toUInt64 &&& Int64.toUInt64 63)).toInt64 &&& 3689348814741910323) = y2
  have h2 : uL y2 = t2 (mk8 51 8) (uL y1) := by
    have a1 : uL ((y1.toUInt64 >>> ((nI 2).toInt64.toUInt64 &&& Int64.toUInt64 63)).toInt64 &&& 3689348814741910323) = uL y1 / 4 &&& mk8 51 8 := by
      rw [uL_and, uL_shr (k := 2) (by decide +kernel), m3]
    have a2 : uL (y1 &&& 3689348814741910323) = uL y1 &&& mk8 51 8 := by rw [uL_and, m3]
    have l1 : (uL y1 &&& mk8 51 8) ≤ mk8 51 8 := Nat.and_le_right
    have l2 : (uL y1 / 4 &&& mk8 51 8) ≤ mk8 51 8 := Nat.and_le_right
    have l3 : mk8 51 8 < 2 ^ 62 := by decide +kernel
    rw [← e2, uL_add (by rw [a1, a2]; omega), a1, a2]
    rfl
  have h2l : uL y2 < 2 ^ 63 := by
    have l1 : (uL y1 &&& mk8 51 8) ≤ mk8 51 8 := Nat.and_le_right
    have l2 : (uL y1 / 4 &&& mk8 51 8) ≤ mk8 51 8 := Nat.and_le_right
    have l3 : mk8 51 8 < 2 ^ 62 := by decide +kernel
    rw [h2]
    unfold t2
    omega
  generalize e3 : (y2 + (y2.toUInt64 >>> ((nI 4).toInt64.toUInt64 &&& Int64.toUInt64 63)).toInt64) &&& 1085102592571150095 = y3
  have h3 : uL y3 = swr 8 (uL x) := by
    have a1 : uL ((y2.toUInt64 >>> ((nI 4).toInt64.toUInt64 &&& Int64.toUInt64 63)).toInt64) = uL y2 / 16 := uL_shr (k := 4) (by decide +kernel)
    rw [← e3, uL_and, uL_add (by rw [a1]; omega), a1, mf]
    unfold swr t3
    rw [h2, h1]
  obtain ⟨f1, f2⟩ := fold_8 hx
  rw [← h3] at f1 f2
  generalize e4 : y3 + (y3.toUInt64 >>> ((nI 8).toInt64.toUInt64 &&& Int64.toUInt64 63)).toInt64 = y4
  have h4 : uL y4 = uL y3 + uL y3 / 256 := by
    have a1 : uL ((y3.toUInt64 >>> ((nI 8).toInt64.toUInt64 &&& Int64.toUInt64 63)).toInt64) = uL y3 / 256 := uL_shr (k := 8) (by decide +kernel)
    rw [← e4, uL_add (by rw [a1]; omega), a1]
  generalize e5 : y4 + (y4.toUInt64 >>> ((nI 16).toInt64.toUInt64 &&& Int64.toUInt64 63)).toInt64 = y5
  have h5 : uL y5 = uL y4 + uL y4 / 65536 := by
    have a1 : uL ((y4.toUInt64 >>> ((nI 16).toInt64.toUInt64 &&& Int64.toUInt64 63)).toInt64) = uL y4 / 65536 := uL_shr (k := 16) (by decide +kernel)
    rw [← e5, uL_add (by rw [a1]; omega), a1]
  generalize e6 : y5 + (y5.toUInt64 >>> ((nI 32).toInt64.toUInt64 &&& Int64.toUInt64 63)).toInt64 = y6
  have h6 : uL y6 = uL y5 + uL y5 / 4294967296 := by
    have a1 : uL ((y5.toUInt64 >>> ((nI 32).toInt64.toUInt64 &&& Int64.toUInt64 63)).toInt64) = uL y5 / 4294967296 := uL_shr (k := 32) (by decide +kernel)
    rw [← e6, uL_add (by rw [a1]; omega), a1]
  have hv : y6.toInt32 &&& nI 127 = nI (cnt (gb x) 64) := by
    rw [pk_and (y6.toInt32) 7 (by decide +kernel), uL_i, Nat.mod_mod_of_dvd _ (show 2 ^ 7 ∣ 2 ^ 32 by decide), h6, h5, h4, show (2 : Nat) ^ 7 = 128 from rfl, f1]
    rfl
  rw [← hv, ← e6, ← e5, ← e4, ← e3, ← e2, ← e1] at kq
  exact kq
def uI (x : Int32) : Nat := x.toUInt32.toNat
theorem uI_lt (x : Int32) : uI x < 256 ^ 4 := x.toUInt32.toNat_lt
theorem uI_and (x y : Int32) : uI (x &&& y) = uI x &&& uI y := UInt32.toNat_and x.toUInt32 y.toUInt32
theorem uI_add {x y : Int32} (h : uI x + uI y < 2 ^ 32) : uI (x + y) = uI x + uI y := by
  have := UInt32.toNat_add x.toUInt32 y.toUInt32
  exact this.trans (Nat.mod_eq_of_lt h)
theorem uI_sub {x y : Int32} (h : uI y ≤ uI x) : uI (x - y) = uI x - uI y := UInt32.toNat_sub_of_le x.toUInt32 y.toUInt32 (UInt32.le_iff_toNat_le.mpr h)
theorem uI_shr {x : Int32} {s k : Nat} (hs : ((nI s).toUInt32 &&& Int32.toUInt32 31).toNat % 32 = k) : uI ((x.toUInt32 >>> ((nI s).toUInt32 &&& Int32.toUInt32 31)).toInt32) = uI x / 2 ^ k := by
  have := UInt32.toNat_shiftRight x.toUInt32 ((nI s).toUInt32 &&& Int32.toUInt32 31)
  rw [hs, Nat.shiftRight_eq_div_pow] at this
  exact this
theorem cj_bitsI {x : Int32} {n : Nat} {R : RR} {I : II} {J : JJ} {Q : QT} (hn : n ≤ 90) (kq : Q (some (.int (nI (pcn 4 (uI x))))) n R I J) : CT m_J6_bitCount_0f7a4 0 [.int x] n R I J Q := by
  refine r_J6_bitCount_0f7a4 hn (fun F wk b0 => ?_)
  refine b0 _ _ _ _ _ _ ?_
  have hx := uI_lt x
  have m5 : uI 1431655765 = mk8 85 4 := by decide +kernel
  have m3 : uI 858993459 = mk8 51 4 := by decide +kernel
  have mf : uI 252645135 = mk8 15 4 := by decide +kernel
  generalize e1 : x - ((x.toUInt32 >>> ((nI 1).toUInt32 &&& Int32.toUInt32 31)).toInt32 &&& 1431655765) = y1
  have h1 : uI y1 = t1 (mk8 85 4) (uI x) := by
    have a1 : uI ((x.toUInt32 >>> ((nI 1).toUInt32 &&& Int32.toUInt32 31)).toInt32 &&& 1431655765) = uI x / 2 &&& mk8 85 4 := by
      rw [uI_and, uI_shr (k := 1) (by decide +kernel), m5]
    rw [← e1, uI_sub (by rw [a1]; exact Nat.le_trans Nat.and_le_left (Nat.div_le_self _ _)), a1]
    rfl
  generalize e2 : (y1 &&& 858993459) + ((y1.toUInt32 >>> ((nI 2).toUInt32 &&& Int32.toUInt32 31)).toInt32 &&& 858993459) = y2
  have h2 : uI y2 = t2 (mk8 51 4) (uI y1) := by
    have a1 : uI ((y1.toUInt32 >>> ((nI 2).toUInt32 &&& Int32.toUInt32 31)).toInt32 &&& 858993459) = uI y1 / 4 &&& mk8 51 4 := by
      rw [uI_and, uI_shr (k := 2) (by decide +kernel), m3]
    have a2 : uI (y1 &&& 858993459) = uI y1 &&& mk8 51 4 := by rw [uI_and, m3]
    have l1 : (uI y1 &&& mk8 51 4) ≤ mk8 51 4 := Nat.and_le_right
    have l2 : (uI y1 / 4 &&& mk8 51 4) ≤ mk8 51 4 := Nat.and_le_right
    have l3 : mk8 51 4 < 2 ^ 30 := by decide +kernel
    rw [← e2, uI_add (by rw [a1, a2]; omega), a1, a2]
    rfl
  have h2l : uI y2 < 2 ^ 31 := by
    have l1 : (uI y1 &&& mk8 51 4) ≤ mk8 51 4 := Nat.and_le_right
    have l2 : (uI y1 / 4 &&& mk8 51 4) ≤ mk8 51 4 := Nat.and_le_right
    have l3 : mk8 51 4 < 2 ^ 30 := by decide +kernel
    rw [h2]
    unfold t2
    omega
  generalize e3 : (y2 + (y2.toUInt32 >>> ((nI 4).toUInt32 &&& Int32.toUInt32 31)).toInt32) &&& 252645135 = y3
  have h3 : uI y3 = swr 4 (uI x) := by
    have a1 : uI ((y2.toUInt32 >>> ((nI 4).toUInt32 &&& Int32.toUInt32 31)).toInt32) = uI y2 / 16 := uI_shr (k := 4) (by decide +kernel)
    rw [← e3, uI_and, uI_add (by rw [a1]; omega), a1, mf]
    unfold swr t3
    rw [h2, h1]
  obtain ⟨f1, f2⟩ := fold_4 hx
  rw [← h3] at f1 f2
  generalize e4 : y3 + (y3.toUInt32 >>> ((nI 8).toUInt32 &&& Int32.toUInt32 31)).toInt32 = y4
  have h4 : uI y4 = uI y3 + uI y3 / 256 := by
    have a1 : uI ((y3.toUInt32 >>> ((nI 8).toUInt32 &&& Int32.toUInt32 31)).toInt32) = uI y3 / 256 := uI_shr (k := 8) (by decide +kernel)
    rw [← e4, uI_add (by rw [a1]; omega), a1]
  generalize e5 : y4 + (y4.toUInt32 >>> ((nI 16).toUInt32 &&& Int32.toUInt32 31)).toInt32 = y5
  have h5 : uI y5 = uI y4 + uI y4 / 65536 := by
    have a1 : uI ((y4.toUInt32 >>> ((nI 16).toUInt32 &&& Int32.toUInt32 31)).toInt32) = uI y4 / 65536 := uI_shr (k := 16) (by decide +kernel)
    rw [← e5, uI_add (by rw [a1]; omega), a1]
  have hv : y5 &&& nI 63 = nI (pcn 4 (uI x)) := by
    rw [pk_and y5 6 (by decide +kernel)]
    show nI (uI y5 % 64) = _
    rw [h5, h4, f1]
  rw [← hv, ← e5, ← e4, ← e3, ← e2, ← e1] at kq
  exact kq
