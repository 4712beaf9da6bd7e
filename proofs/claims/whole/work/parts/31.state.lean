/-! THE WHOLE STATE, as numbers; what the class holds of it -/
/-- a corner of some house at a point -/
def hcp (c : Nat → Nat) (p : Nat) : Bool := anyb (fun h => cor c h p) 6
/-- the index of the greatest, the least of several (0 if all are 0) -/
def am (f : Nat → Nat) : Nat → Nat
  | 0 => 0
  | n + 1 => if mx f n < f n then n else am f n
/-- THE ROUND: the points that are left behind k squares -/
def lft (c : Nat → Nat) : Nat → Nat → Bool
  | 0 => fun p => hcp c p && anyb (sen c p) 64
  | k + 1 => fun p => lft c k p && !(sen c p (am (fun q => cnt (fun p' => lft c k p' && sen c p' q) 81) 64))
def nwf (c : Nat → Nat) (k q : Nat) : Nat := cnt (fun p => lft c k p && sen c p q) 81
def trb (c : Nat → Nat) (k : Nat) : Nat := am (nwf c k) 64
def trn (c : Nat → Nat) : Nat := fnx (fun k => decide (mx (nwf c k) 64 = 0)) 0 64
def trc (I : II) (c : Nat → Nat) : Prop := I 38 7 = -1 ∨ (I 38 7 = nI (trn c) ∧ ∀ k, k < trn c → I 44 k = nI (trb c k))
/-- PLOTS: sets of 3 rows and 4 columns -/
def pon (s r k : Nat) : Bool := decide (1 ≤ r ∧ r ≤ 3 ∧ 1 ≤ k ∧ k ≤ 4) && s.testBit (4 * (r - 1) + (k - 1))
def pcp (s p : Nat) : Bool :=
  let a := pon s (p / 5) (p % 5)
  let b := pon s (p / 5) (p % 5 + 1)
  let d := pon s (p / 5 + 1) (p % 5)
  let e := pon s (p / 5 + 1) (p % 5 + 1)
  (((a ^^ b) ^^ d) ^^ e) || ((a == e) && (b == d) && (a != b))
def pcor (s : Nat) : Nat := cnt (pcp s) 20
def pbit (s : Nat) : Nat := cnt (fun j => s.testBit j) 12
def pst (s part : Nat) : Nat := part ||| (((part &&& 3822) >>> 1 ||| ((part &&& 1911) <<< 1) ||| (part >>> 4) ||| (part <<< 4)) &&& s)
def pit (s : Nat) : Nat → Nat
  | 0 => 2 ^ (fnx (fun j => s.testBit j) 0 12)
  | k + 1 => pst s (pit s k)
def phg (s : Nat) : Bool := decide (pit s 12 = s)
def plF (n : Nat) : Nat → Nat × Nat
  | 0 => (81, 0)
  | s + 1 => if pbit s = n ∧ phg s = true ∧ pcor s < (plF n s).1 then (pcor s, s) else plF n s
def plC (n : Nat) : Nat := (plF n 4096).1
def plS (n : Nat) : Nat := (plF n 4096).2
def plc (I : II) : Prop := ∀ n, 1 ≤ n → n ≤ 12 → I 72 n = 0 ∨ (I 72 n = nI (plC n) ∧ I 73 n = nI (plS n))
/-- now; whether something is kept, and what; the tape; the sheets (bits, size, numbers); the findings -/
abbrev SG : Type := TW × Bool × TW × (Nat × (Nat → Int32)) × ((Nat → Int32) × (Nat → Int32) × (Nat → Nat → Int64)) × (Nat → Int32)
def sht (I : II) (J : JJ) (B : (Nat → Int32) × (Nat → Int32) × (Nat → Nat → Int64)) : Prop := ∀ s, s < 4 → I (63 + 2 * s) 0 = B.1 s ∧ I (63 + 2 * s) 1 = B.2.1 s ∧ ∀ k, k < 40 → J (64 + 2 * s) k = B.2.2 s k
def kpt (I : II) (J : JJ) (b : Bool) (T : TW) : Prop := I 0 2 = nI b.toNat ∧ (b = true → CTn 23 T I J)
def tap (I : II) (t : Nat × (Nat → Int32)) : Prop := I 45 3 = nI t.1 ∧ ∀ j, j < t.1 → I 61 j = t.2 j
def fdg (I : II) (f : Nat → Int32) : Prop := ∀ k, k < 7 → I 71 k = f k
def CI (S : SG) (I : II) (J : JJ) : Prop := CTn 8 S.1 I J ∧ scc I S.1.1 ∧ trc I S.1.1 ∧ plc I ∧ kpt I J S.2.1 S.2.2.1 ∧ tap I S.2.2.2.1 ∧ sht I J S.2.2.2.2.1 ∧ fdg I S.2.2.2.2.2
def VB (B : (Nat → Int32) × (Nat → Int32) × (Nat → Nat → Int64)) : Prop := ∀ s, s < 4 → (∃ z, z ≤ 40 ∧ B.2.1 s = nI z) ∧ (B.1 s = nI 0 ∨ B.1 s = nI 8 ∨ B.1 s = nI 16 ∨ B.1 s = nI 64)
def VS (S : SG) : Prop := VT S.1 ∧ (S.2.1 = true → VT S.2.2.1) ∧ (S.2.2.2.1.1 ≤ 120 ∧ ∀ j, j < S.2.2.2.1.1 → ∃ b, b < 256 ∧ S.2.2.2.1.2 j = nI b) ∧ VB S.2.2.2.2.1
/-- behind a call of the class: its new state, and the rest as it was -/
def f74 (I : II) (J : JJ) (I' : II) (J' : JJ) : Prop := ∀ p, 74 ≤ p → I' p = I p ∧ J' p = J p
def PX (I : II) (J : JJ) (Q : QT) (S : SG) (v : Value) : Prop := ∀ (I' : II) (J' : JJ), CI S I' J' → f74 I J I' J' → Q (some v) 90 al_R0 I' J'
theorem f74.rf (I : II) (J : JJ) : f74 I J I J := fun _ _ => ⟨rfl, rfl⟩
theorem f74.tr {I I' I'' : II} {J J' J'' : JJ} (h1 : f74 I J I' J') (h2 : f74 I' J' I'' J'') : f74 I J I'' J'' := fun p hp => ⟨((h2 p hp).1).trans (h1 p hp).1, ((h2 p hp).2).trans (h1 p hp).2⟩
def sT (S : SG) (T : TW) : SG := (T, S.2)
def fnd (k : Nat) (S : SG) : SG := (S.1, S.2.1, S.2.2.1, S.2.2.2.1, S.2.2.2.2.1, ups S.2.2.2.2.2 k (S.2.2.2.2.2 k + nI 1))
theorem trc.keep {I I' : II} {c : Nat → Nat} (h : trc I c) (h1 : I' 38 = I 38) (h2 : I' 44 = I 44) : trc I' c := by
  unfold trc at h ⊢
  rw [h1, h2]
  exact h
theorem plc.keep {I I' : II} (h : plc I) (h1 : I' 72 = I 72) (h2 : I' 73 = I 73) : plc I' := by
  unfold plc at h ⊢
  rw [h1, h2]
  exact h
theorem scc.keep {I I' : II} {c : Nat → Nat} (h : scc I c) (h1 : I' 39 = I 39) : scc I' c := by
  unfold scc at h ⊢
  rw [h1]
  exact h
theorem tap.keep {I I' : II} {t : Nat × (Nat → Int32)} (h : tap I t) (h1 : I' 45 = I 45) (h2 : I' 61 = I 61) : tap I' t := by
  unfold tap at h ⊢
  rw [h1, h2]
  exact h
theorem fdg.keep {I I' : II} {f : Nat → Int32} (h : fdg I f) (h1 : I' 71 = I 71) : fdg I' f := by
  unfold fdg at h ⊢
  rw [h1]
  exact h
theorem kpt.keep {I I' : II} {J J' : JJ} {b : Bool} {T : TW} (h : kpt I J b T) (h0 : I' 0 = I 0) (h1 : ∀ p, 23 ≤ p → p < 38 → I' p = I p ∧ J' p = J p) : kpt I' J' b T := ⟨by rw [h0]; exact h.1, fun hb => (h.2 hb).keep h1⟩
theorem sht.keep {I I' : II} {J J' : JJ} {B : (Nat → Int32) × (Nat → Int32) × (Nat → Nat → Int64)} (h : sht I J B) (h1 : ∀ p, 63 ≤ p → p < 71 → I' p = I p ∧ J' p = J p) : sht I' J' B := fun s hs => by
  obtain ⟨q1, q2, q3⟩ := h s hs
  rw [(h1 (63 + 2 * s) (by omega) (by omega)).1]
  refine ⟨q1, q2, fun k hk => ?_⟩
  rw [(h1 (64 + 2 * s) (by omega) (by omega)).2]
  exact q3 k hk
/-- only what is kept of the seen changed -/
theorem CI.k39 {S : SG} {I I' : II} {J : JJ} (h : CI S I J) (hk : k39 I I') (hs : scc I' S.1.1) : CI S I' J := by
  obtain ⟨h1, h2, h3, h4, h5, h6, h7, h8⟩ := h
  exact ⟨k39.T hk tb8 h1, hs, h3.keep (hk 38 (by decide)) (hk 44 (by decide)), h4.keep (hk 72 (by decide)) (hk 73 (by decide)), h5.keep (hk 0 (by decide)) (fun p q1 q2 => ⟨hk p (by omega), rfl⟩), h6.keep (hk 45 (by decide)) (hk 61 (by decide)), h7.keep (fun p q1 q2 => ⟨hk p (by omega), rfl⟩), h8.keep (hk 71 (by decide))⟩
theorem k39.f {I I' : II} {J : JJ} (h : k39 I I') : f74 I J I' J := fun p hp => ⟨h p (by omega), rfl⟩
theorem ca_finding {w : Int32} {k : Nat} {I : II} {J : JJ} {Q : QT} (hk : k < 7) (hw : (-1000000001 : Int32) - w = nI k) (kq : Q (some (.int w)) 90 al_R0 (al_up I 71 k (I 71 k + nI 1)) J) : CT m_X11_finding 0 [.ref 0, .int w] 90 al_R0 I J Q := by
  refine r_X11_finding (by decide) (fun F wk b0 b25 => ?_)
  refine b0 _ _ _ _ _ _ ?_
  refine And.intro (fun c1 => ?_) (fun c1 => And.intro (fun c2 => ?_) (fun c2 => ?_))
  · exact absurd c1 (by rw [hw]; exact nI_pos (by omega))
  · exact absurd c2 (by rw [hw]; exact nI_ge hk (by omega))
  · refine Exists.intro k (And.intro hk (And.intro hw (Exists.intro k (And.intro hk (And.intro hw ?_)))))
    exact b25 _ _ _ _ _ _ kq
theorem cx_finding {w : Int32} {k : Nat} {S : SG} {I : II} {J : JJ} {Q : QT} (hC : CI S I J) (hk : k < 7) (hw : (-1000000001 : Int32) - w = nI k) (kq : PX I J Q (fnd k S) (.int w)) : CT m_X11_finding 0 [.ref 0, .int w] 90 al_R0 I J Q := by
  refine ca_finding hk hw (kq _ _ ?_ ?_)
  · obtain ⟨h1, h2, h3, h4, h5, h6, h7, h8⟩ := hC
    have hp : ∀ p, p ≠ 71 → al_up I 71 k (I 71 k + nI 1) p = I p := fun p hp => al_up_row hp
    refine ⟨h1.keep (fun p q1 q2 => ⟨hp p (by omega), rfl⟩), h2.keep (hp 39 (by decide)), h3.keep (hp 38 (by decide)) (hp 44 (by decide)), h4.keep (hp 72 (by decide)) (hp 73 (by decide)), h5.keep (hp 0 (by decide)) (fun p q1 q2 => ⟨hp p (by omega), rfl⟩), h6.keep (hp 45 (by decide)) (hp 61 (by decide)), h7.keep (fun p q1 q2 => ⟨hp p (by omega), rfl⟩), fun j hj => ?_⟩
    show al_up I 71 k (I 71 k + nI 1) 71 j = ups S.2.2.2.2.2 k (S.2.2.2.2.2 k + nI 1) j
    by_cases e : j = k
    · subst e
      rw [al_up_s, ups_s, h8 j hk]
    · rw [al_up_j e, ups_n e, h8 j hj]
  · exact fun p hp => ⟨al_up_row (by omega), rfl⟩
/-- a number in range, or none -/
def ing (N : Nat) (x : Int32) : Prop := ∀ q, q < N → ¬ x = nI q
theorem cx_isSquare {a : Int32} {R : RR} {I : II} {J : JJ} {Q : QT} (k1 : ∀ q : Nat, q < 64 → a = nI q → Q (some (.int (nI 1))) 90 R I J) (k2 : ing 64 a → Q (some (.int (nI 0))) 90 R I J) : CT m_X11_isSquare 0 [.int a] 90 R I J Q := by
  refine r_X11_isSquare (by decide) (fun F wk b0 b14 b15 => ?_)
  have hx := pk_ix a (n := 64) (by decide)
  refine b0 _ _ _ _ _ _ (And.intro (fun c1 => ?_) (fun c1 => And.intro (fun c2 => ?_) (fun c2 => ?_)))
  · refine b14 _ _ _ _ _ _ (b15 _ _ _ _ _ _ (And.intro (Or.inl nI_0) (k2 ?_)))
    rintro q hq rfl; exact nI_pos (by omega) c1
  · refine b14 _ _ _ _ _ _ (b15 _ _ _ _ _ _ (And.intro (Or.inl nI_0) (k2 ?_)))
    rintro q hq rfl; exact nI_ge hq (by omega) c2
  · rcases hx with h | h | ⟨q, hq, e⟩
    · exact absurd h c1
    · exact absurd h c2
    · exact b15 _ _ _ _ _ _ (And.intro (Or.inr nI_1') (k1 q hq e))
theorem cx_isPoint {a : Int32} {R : RR} {I : II} {J : JJ} {Q : QT} (k1 : ∀ q : Nat, q < 81 → a = nI q → Q (some (.int (nI 1))) 90 R I J) (k2 : ing 81 a → Q (some (.int (nI 0))) 90 R I J) : CT m_X11_isPoint 0 [.int a] 90 R I J Q := by
  refine r_X11_isPoint (by decide) (fun F wk b0 b14 b15 => ?_)
  have hx := pk_ix a (n := 81) (by decide)
  refine b0 _ _ _ _ _ _ (And.intro (fun c1 => ?_) (fun c1 => And.intro (fun c2 => ?_) (fun c2 => ?_)))
  · refine b14 _ _ _ _ _ _ (b15 _ _ _ _ _ _ (And.intro (Or.inl nI_0) (k2 ?_)))
    rintro q hq rfl; exact nI_pos (by omega) c1
  · refine b14 _ _ _ _ _ _ (b15 _ _ _ _ _ _ (And.intro (Or.inl nI_0) (k2 ?_)))
    rintro q hq rfl; exact nI_ge hq (by omega) c2
  · rcases hx with h | h | ⟨q, hq, e⟩
    · exact absurd h c1
    · exact absurd h c2
    · exact b15 _ _ _ _ _ _ (And.intro (Or.inr nI_1') (k1 q hq e))
theorem cx_isKind {a : Int32} {R : RR} {I : II} {J : JJ} {Q : QT} (k1 : ∀ q : Nat, q < 6 → a = nI q → Q (some (.int (nI 1))) 90 R I J) (k2 : ing 6 a → Q (some (.int (nI 0))) 90 R I J) : CT m_X11_isKind 0 [.int a] 90 R I J Q := by
  refine r_X11_isKind (by decide) (fun F wk b0 b14 b15 => ?_)
  have hx := pk_ix a (n := 6) (by decide)
  refine b0 _ _ _ _ _ _ (And.intro (fun c1 => ?_) (fun c1 => And.intro (fun c2 => ?_) (fun c2 => ?_)))
  · refine b14 _ _ _ _ _ _ (b15 _ _ _ _ _ _ (And.intro (Or.inl nI_0) (k2 ?_)))
    rintro q hq rfl; exact nI_pos (by omega) c1
  · refine b14 _ _ _ _ _ _ (b15 _ _ _ _ _ _ (And.intro (Or.inl nI_0) (k2 ?_)))
    rintro q hq rfl; exact nI_ge hq (by omega) c2
  · rcases hx with h | h | ⟨q, hq, e⟩
    · exact absurd h c1
    · exact absurd h c2
    · exact b15 _ _ _ _ _ _ (And.intro (Or.inr nI_1') (k1 q hq e))
theorem cx_isSheet {a : Int32} {R : RR} {I : II} {J : JJ} {Q : QT} (k1 : ∀ q : Nat, q < 4 → a = nI q → Q (some (.int (nI 1))) 90 R I J) (k2 : ing 4 a → Q (some (.int (nI 0))) 90 R I J) : CT m_X11_isSheet 0 [.int a] 90 R I J Q := by
  refine r_X11_isSheet (by decide) (fun F wk b0 b13 b14 => ?_)
  have hx := pk_ix a (n := 4) (by decide)
  refine b0 _ _ _ _ _ _ (And.intro (fun c1 => ?_) (fun c1 => And.intro (fun c2 => ?_) (fun c2 => ?_)))
  · refine b13 _ _ _ _ _ _ (b14 _ _ _ _ _ _ (And.intro (Or.inl nI_0) (k2 ?_)))
    rintro q hq rfl; exact nI_pos (by omega) c1
  · refine b13 _ _ _ _ _ _ (b14 _ _ _ _ _ _ (And.intro (Or.inl nI_0) (k2 ?_)))
    rintro q hq rfl; exact nI_ge hq (by omega) c2
  · rcases hx with h | h | ⟨q, hq, e⟩
    · exact absurd h c1
    · exact absurd h c2
    · exact b14 _ _ _ _ _ _ (And.intro (Or.inr nI_1') (k1 q hq e))
theorem cx_isRate {a : Int32} {R : RR} {I : II} {J : JJ} {Q : QT} (k1 : ∀ q : Nat, 1 ≤ q → q ≤ 99 → a = nI q → Q (some (.int (nI 1))) 90 R I J) (k2 : (∀ q, 1 ≤ q → q ≤ 99 → ¬ a = nI q) → Q (some (.int (nI 0))) 90 R I J) : CT m_X11_isRate 0 [.int a] 90 R I J Q := by
  refine r_X11_isRate (by decide) (fun F wk b0 b15 b16 => ?_)
  refine b0 _ _ _ _ _ _ (And.intro (fun c1 => ?_) (fun c1 => And.intro (fun c2 => ?_) (fun c2 => ?_)))
  · refine b15 _ _ _ _ _ _ (b16 _ _ _ _ _ _ (And.intro (Or.inl nI_0) (k2 ?_)))
    rintro q h1 h2 rfl
    rw [nI_ltI (by omega) (by omega)] at c1
    omega
  · refine b15 _ _ _ _ _ _ (b16 _ _ _ _ _ _ (And.intro (Or.inl nI_0) (k2 ?_)))
    rintro q h1 h2 rfl
    rw [nI_ltI (by omega) (by omega)] at c2
    omega
  · rw [ix_lt (by decide)] at c1
    rw [in_lt (by decide)] at c2
    exact b16 _ _ _ _ _ _ (And.intro (Or.inr nI_1') (k1 a.toInt.toNat (by omega) (by omega) (i_of (by omega) (by omega))))
theorem cx_isWealth {a : Int32} {R : RR} {I : II} {J : JJ} {Q : QT} (k1 : ∀ q : Nat, q < 10000 → a = nI q → Q (some (.int (nI 1))) 90 R I J) (k2 : ing 10000 a → Q (some (.int (nI 0))) 90 R I J) : CT m_X11_isWealth 0 [.int a] 90 R I J Q := by
  refine r_X11_isWealth (by decide) (fun F wk b0 b15 b16 => ?_)
  refine b0 _ _ _ _ _ _ (And.intro (fun c1 => ?_) (fun c1 => And.intro (fun c2 => ?_) (fun c2 => ?_)))
  · refine b15 _ _ _ _ _ _ (b16 _ _ _ _ _ _ (And.intro (Or.inl nI_0) (k2 ?_)))
    rintro q h1 rfl
    exact nI_pos (by omega) c1
  · refine b15 _ _ _ _ _ _ (b16 _ _ _ _ _ _ (And.intro (Or.inl nI_0) (k2 ?_)))
    rintro q h1 rfl
    rw [nI_ltI (by omega) (by omega)] at c2
    omega
  · rw [i0_lt] at c1
    rw [in_lt (by decide)] at c2
    exact b16 _ _ _ _ _ _ (And.intro (Or.inr nI_1') (k1 a.toInt.toNat (by omega) (i_of (by omega) (by omega))))
theorem cx_isHouse {a : Int32} {nh : Nat} {I : II} {J : JJ} {Q : QT} (hn : nh ≤ 6) (hI : I 8 3 = nI nh) (k1 : ∀ q : Nat, q < nh → a = nI q → Q (some (.int (nI 1))) 90 al_R0 I J) (k2 : ing nh a → Q (some (.int (nI 0))) 90 al_R0 I J) : CT m_X11_isHouse 0 [.ref 0, .int a] 90 al_R0 I J Q := by
  refine r_X11_isHouse (by decide) (fun F wk b0 b19 b20 => ?_)
  have hx := pk_ix a (n := nh) (by omega)
  refine b0 _ _ _ _ _ _ (And.intro (fun c1 => ?_) (fun c1 => And.intro (fun c2 => ?_) (fun c2 => ?_)))
  · refine b19 _ _ _ _ _ _ (b20 _ _ _ _ _ _ (And.intro (Or.inl nI_0) (k2 ?_)))
    rintro q hq rfl; exact nI_pos (by omega) c1
  · refine b19 _ _ _ _ _ _ (b20 _ _ _ _ _ _ (And.intro (Or.inl nI_0) (k2 ?_)))
    rintro q hq rfl
    rw [hI] at c2
    exact nI_ge hq (by omega) c2
  · rw [hI] at c2
    rcases hx with h | h | ⟨q, hq, e⟩
    · exact absurd h c1
    · exact absurd h c2
    · exact b20 _ _ _ _ _ _ (And.intro (Or.inr nI_1') (k1 q hq e))
