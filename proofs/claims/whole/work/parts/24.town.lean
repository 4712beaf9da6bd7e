/-! TOWN: reads -/
def cor (c : Nat → Nat) (h p : Nat) : Bool := decide (¬ shp c h p = 0)
theorem shp_lt (c : Nat → Nat) (h p : Nat) : shp c h p < 4 := by
  unfold shp
  dsimp only
  split
  · omega
  · split
    · omega
    · split <;> omega
theorem cor_no {c : Nat → Nat} {h p : Nat} (e : nI (shp c h p) = 0) : cor c h p = false := by
  have := shp_lt c h p
  rw [← nI_0, nI_eq (by omega) (by omega)] at e
  simp [cor, e]
theorem cor_yes {c : Nat → Nat} {h p : Nat} (e : ¬ nI (shp c h p) = 0) : cor c h p = true := by
  have := shp_lt c h p
  rw [← nI_0, nI_eq (by omega) (by omega)] at e
  simp [cor, e]
theorem ca_squaresThatAre {x : Nat} {c : Nat → Nat} {I : II} {J : JJ} {Q : QT} (hsq : sqr I 9 c) (hcd : cdo c) (hx : x < 100) (kq : Q (some (.int (nI (cnt (fun j => decide (c j = x)) 64)))) 90 al_R0 I J) : CT m_X9_squaresThatAre 0 [.ref 8, .int (nI x)] 90 al_R0 I J Q := by
  refine r_X9_squaresThatAre (by decide) (fun F wk b0 b4 b23 b29 => ?_)
  have loop : ∀ d i : Nat, i + d = 64 → F 4 [some (.ref 8), some (.int (nI x)), some (.int (nI (cnt (fun j => decide (c j = x)) i))), some (.int (nI i))] [] 90 al_R0 I J := by
    intro d
    induction d with
    | zero =>
      intro i hi
      obtain rfl : i = 64 := by omega
      exact b4 _ _ _ _ _ _ (br_t (nI_le (by omega) (by omega)) (b29 _ _ _ _ _ _ kq))
    | succ d ih =>
      intro i hi
      have h9 := ih (i + 1) (by omega)
      have hv := hsq i (by omega)
      have hc9 := hcd i (by omega)
      refine b4 _ _ _ _ _ _ (br_f (nI_ge (by omega) (by omega)) (Exists.intro i (And.intro (by omega) (And.intro rfl (And.intro (fun c2 => ?_) (fun c2 => ?_))))))
      · rw [hv, nI_eq (by omega) (by omega)] at c2
        rw [cnt_no (by simp [c2]), nI_s i] at h9
        exact b23 _ _ _ _ _ _ h9
      · rw [hv, nI_eq (by omega) (by omega)] at c2
        rw [cnt_yes (by simp [c2]), nI_s i, nI_s (cnt _ i)] at h9
        exact b23 _ _ _ _ _ _ h9
  exact b0 _ _ _ _ _ _ (loop 64 0 rfl)
theorem ca_squaresOfHouses {c : Nat → Nat} {I : II} {J : JJ} {Q : QT} (hsq : sqr I 9 c) (hcd : cdo c) (kq : Q (some (.int (nI (cnt (fun j => decide (10 ≤ c j)) 64)))) 90 al_R0 I J) : CT m_X9_squaresOfHouses 0 [.ref 8] 90 al_R0 I J Q := by
  refine r_X9_squaresOfHouses (by decide) (fun F wk b0 b4 b24 b30 => ?_)
  have loop : ∀ d i : Nat, i + d = 64 → F 4 [some (.ref 8), some (.int (nI (cnt (fun j => decide (10 ≤ c j)) i))), some (.int (nI i))] [] 90 al_R0 I J := by
    intro d
    induction d with
    | zero =>
      intro i hi
      obtain rfl : i = 64 := by omega
      exact b4 _ _ _ _ _ _ (br_t (nI_le (by omega) (by omega)) (b30 _ _ _ _ _ _ kq))
    | succ d ih =>
      intro i hi
      have h9 := ih (i + 1) (by omega)
      have hv := hsq i (by omega)
      have hc9 := hcd i (by omega)
      refine b4 _ _ _ _ _ _ (br_f (nI_ge (by omega) (by omega)) (Exists.intro i (And.intro (by omega) (And.intro rfl (And.intro (fun c2 => ?_) (fun c2 => ?_))))))
      · rw [hv, nI_ltI (by omega) (by omega)] at c2
        rw [cnt_no (by simp; omega), nI_s i] at h9
        exact b24 _ _ _ _ _ _ h9
      · rw [hv, nI_ltI (by omega) (by omega)] at c2
        rw [cnt_yes (by simp; omega), nI_s i, nI_s (cnt _ i)] at h9
        exact b24 _ _ _ _ _ _ h9
  exact b0 _ _ _ _ _ _ (loop 64 0 rfl)
theorem ca_cornersOf {h : Nat} {c : Nat → Nat} {I : II} {J : JJ} {Q : QT} (hsq : sqr I 9 c) (hcd : cdo c) (hh : h < 6) (kq : Q (some (.int (nI (cnt (cor c h) 81)))) 90 al_R0 I J) : CT m_X9_cornersOf 0 [.ref 8, .int (nI h)] 90 al_R0 I J Q := by
  refine r_X9_cornersOf (by decide) (fun F wk b0 b4 b22 b28 => ?_)
  have loop : ∀ d i : Nat, i + d = 81 → F 4 [some (.ref 8), some (.int (nI h)), some (.int (nI (cnt (cor c h) i))), some (.int (nI i))] [] 90 al_R0 I J := by
    intro d
    induction d with
    | zero =>
      intro i hi
      obtain rfl : i = 81 := by omega
      exact b4 _ _ _ _ _ _ (br_t (nI_le (by omega) (by omega)) (b28 _ _ _ _ _ _ kq))
    | succ d ih =>
      intro i hi
      have h9 := ih (i + 1) (by omega)
      refine b4 _ _ _ _ _ _ (br_f (nI_ge (by omega) (by omega)) (ca_shapeAt hsq hcd hh (by omega) (And.intro (fun c2 => ?_) (fun c2 => ?_))))
      · rw [cnt_no (cor_no c2), nI_s i] at h9
        exact b22 _ _ _ _ _ _ h9
      · rw [cnt_yes (cor_yes c2), nI_s i, nI_s (cnt _ i)] at h9
        exact b22 _ _ _ _ _ _ h9
  exact b0 _ _ _ _ _ _ (loop 81 0 rfl)
theorem ca_cornerBehind {h s : Nat} {pt : Int32} {c : Nat → Nat} {I : II} {J : JJ} {Q : QT} (hsq : sqr I 9 c) (hcd : cdo c) (hh : h < 6) (hs : s ≤ 81) (hpt : pt + nI 1 = nI s) (kq : Q (some (.int (nI (fnx (cor c h) s (81 - s))))) 90 al_R0 I J) : CT m_X9_cornerBehind 0 [.ref 8, .int (nI h), .int pt] 90 al_R0 I J Q := by
  refine r_X9_cornerBehind (by decide) (fun F wk b0 b4 b21 b27 => ?_)
  have loop : ∀ d i : Nat, i + d = 81 → fnx (cor c h) s (81 - s) = fnx (cor c h) i d → F 4 [some (.ref 8), some (.int (nI h)), some (.int pt), some (.int (nI i))] [] 90 al_R0 I J := by
    intro d
    induction d with
    | zero =>
      intro i hi he
      obtain rfl : i = 81 := by omega
      rw [he] at kq
      exact b4 _ _ _ _ _ _ (br_t (nI_le (by omega) (by omega)) (b27 _ _ _ _ _ _ kq))
    | succ d ih =>
      intro i hi he
      refine b4 _ _ _ _ _ _ (br_f (nI_ge (by omega) (by omega)) (ca_shapeAt hsq hcd hh (by omega) (And.intro (fun c2 => ?_) (fun c2 => ?_))))
      · have h9 := ih (i + 1) (by omega) (by rw [he, fnx_no (cor_no c2)])
        rw [nI_s i] at h9
        exact b21 _ _ _ _ _ _ h9
      · rw [he, fnx_yes (cor_yes c2)] at kq
        exact kq
  refine b0 _ _ _ _ _ _ ?_
  have h9 := loop (81 - s) s (by omega) rfl
  rw [← hpt] at h9
  exact h9
theorem ca_cornersInCommon {a b : Nat} {c : Nat → Nat} {I : II} {J : JJ} {Q : QT} (hsq : sqr I 9 c) (hcd : cdo c) (ha : a < 6) (hb : b < 6) (kq : Q (some (.int (nI (cnt (fun p => cor c a p && cor c b p) 81)))) 90 al_R0 I J) : CT m_X9_cornersInCommon 0 [.ref 8, .int (nI a), .int (nI b)] 90 al_R0 I J Q := by
  refine r_X9_cornersInCommon (by decide) (fun F wk b0 b5 b35 b41 => ?_)
  have loop : ∀ d i : Nat, i + d = 81 → F 5 [some (.ref 8), some (.int (nI a)), some (.int (nI b)), some (.int (nI (cnt (fun p => cor c a p && cor c b p) i))), some (.int (nI i))] [] 90 al_R0 I J := by
    intro d
    induction d with
    | zero =>
      intro i hi
      obtain rfl : i = 81 := by omega
      exact b5 _ _ _ _ _ _ (br_t (nI_le (by omega) (by omega)) (b41 _ _ _ _ _ _ kq))
    | succ d ih =>
      intro i hi
      have h9 := ih (i + 1) (by omega)
      refine b5 _ _ _ _ _ _ (br_f (nI_ge (by omega) (by omega)) (ca_shapeAt hsq hcd ha (by omega) (And.intro (fun c2 => ?_) (fun c2 => ca_shapeAt hsq hcd hb (by omega) (And.intro (fun c3 => ?_) (fun c3 => ?_))))))
      · rw [cnt_no (by simp [cor_no c2]), nI_s i] at h9
        exact b35 _ _ _ _ _ _ h9
      · rw [cnt_no (by simp [cor_no c3]), nI_s i] at h9
        exact b35 _ _ _ _ _ _ h9
      · rw [cnt_yes (by simp [cor_yes c2, cor_yes c3]), nI_s i, nI_s (cnt _ i)] at h9
        exact b35 _ _ _ _ _ _ h9
  exact b0 _ _ _ _ _ _ (loop 81 0 rfl)
theorem ca_ownersAt {p nh : Nat} {c : Nat → Nat} {I : II} {J : JJ} {Q : QT} (hsq : sqr I 9 c) (hcd : cdo c) (hp : p < 81) (hn : nh ≤ 6) (hI : I 8 3 = nI nh) (kq : Q (some (.int (orb (fun h => cor c h p) nh))) 90 al_R0 I J) : CT m_X9_ownersAt 0 [.ref 8, .int (nI p)] 90 al_R0 I J Q := by
  refine r_X9_ownersAt (by decide) (fun F wk b0 b4 b27 b33 => ?_)
  have loop : ∀ d i : Nat, i + d = nh → F 4 [some (.ref 8), some (.int (nI p)), some (.int (orb (fun h => cor c h p) i)), some (.int (nI i))] [] 90 al_R0 I J := by
    intro d
    induction d with
    | zero =>
      intro i hi
      obtain rfl : i = nh := by omega
      exact b4 _ _ _ _ _ _ (br_t (by rw [hI]; exact nI_le (by omega) (by omega)) (b33 _ _ _ _ _ _ kq))
    | succ d ih =>
      intro i hi
      have h9 := ih (i + 1) (by omega)
      refine b4 _ _ _ _ _ _ (br_f (by rw [hI]; exact nI_ge (by omega) (by omega)) (ca_shapeAt hsq hcd (by omega) hp (And.intro (fun c2 => ?_) (fun c2 => ?_))))
      · rw [orb_no (P := fun h => cor c h p) (n := i) (cor_no c2), nI_s i] at h9
        exact b27 _ _ _ _ _ _ h9
      · rw [orb_yes (P := fun h => cor c h p) (n := i) (cor_yes c2), nI_s i] at h9
        exact b27 _ _ _ _ _ _ h9
  exact b0 _ _ _ _ _ _ (loop nh 0 (by omega))
theorem ca_isLessersCorner {h p : Nat} {c : Nat → Nat} {I : II} {J : JJ} {Q : QT} (hsq : sqr I 9 c) (hcd : cdo c) (hh : h < 6) (hp : p < 81) (kq : Q (some (.int (nI (anyb (fun g => cor c g p) h).toNat))) 90 al_R0 I J) : CT m_X9_isLessersCorner 0 [.ref 8, .int (nI h), .int (nI p)] 90 al_R0 I J Q := by
  refine r_X9_isLessersCorner (by decide) (fun F wk b0 b2 b18 b24 => ?_)
  have loop : ∀ d i : Nat, i + d = h → (∀ g, g < i → cor c g p = false) → F 2 [some (.ref 8), some (.int (nI h)), some (.int (nI p)), some (.int (nI i))] [] 90 al_R0 I J := by
    intro d
    induction d with
    | zero =>
      intro i hi hno
      obtain rfl : i = h := by omega
      rw [anyb_no hno] at kq
      exact b2 _ _ _ _ _ _ (br_t (nI_le (by omega) (by omega)) (b24 _ _ _ _ _ _ (And.intro (Or.inl nI_0) kq)))
    | succ d ih =>
      intro i hi hno
      refine b2 _ _ _ _ _ _ (br_f (nI_ge (by omega) (by omega)) (ca_shapeAt hsq hcd (by omega) hp (And.intro (fun c2 => ?_) (fun c2 => ?_))))
      · have h9 := ih (i + 1) (by omega) (fun g hg => by
          rcases Nat.lt_or_ge g i with q | q
          · exact hno g q
          · rw [show g = i by omega]; exact cor_no c2)
        rw [nI_s i] at h9
        exact b18 _ _ _ _ _ _ h9
      · rw [anyb_yes (P := fun g => cor c g p) (n := h) (j := i) (by omega) (cor_yes c2)] at kq
        exact And.intro (Or.inr nI_1') kq
  exact b0 _ _ _ _ _ _ (loop h 0 (by omega) (fun g hg => absurd hg (by omega)))
/-- what a square may be -/
def vok (nh x : Nat) : Prop := x ≤ 3 ∨ (10 ≤ x ∧ x < 10 + nh)
theorem ca_mayBe {nh : Nat} {v : Int32} {I : II} {J : JJ} {Q : QT} (hn : nh ≤ 6) (hI : I 8 3 = nI nh) (k1 : ∀ x, vok nh x → v = nI x → Q (some (.int (nI 1))) 90 al_R0 I J) (k2 : (∀ x, vok nh x → ¬ v = nI x) → Q (some (.int (nI 0))) 90 al_R0 I J) : CT m_X9_mayBe 0 [.ref 8, .int v] 90 al_R0 I J Q := by
  refine r_X9_mayBe (by decide) (fun F wk b0 b9 b26 b30 b31 => ?_)
  have yes : ∀ x, vok nh x → v.toInt = (x : Int) → F 26 [some (.ref 8), some (.int v)] [] 90 al_R0 I J := fun x hx hv =>
    b26 _ _ _ _ _ _ (b31 _ _ _ _ _ _ (And.intro (Or.inr nI_1') (k1 x hx (i_of hv (by unfold vok at hx; omega)))))
  have no : (∀ x, vok nh x → ¬ v.toInt = (x : Int)) → F 30 [some (.ref 8), some (.int v)] [] 90 al_R0 I J := fun hx =>
    b30 _ _ _ _ _ _ (b31 _ _ _ _ _ _ (And.intro (Or.inl nI_0) (k2 (fun x h1 h2 => hx x h1 (by rw [h2, nI_toInt (by unfold vok at h1; omega)])))))
  have nine : (v.toInt < 0 ∨ 3 < v.toInt) → F 9 [some (.ref 8), some (.int v)] [] 90 al_R0 I J := fun h0 => by
    refine b9 _ _ _ _ _ _ (And.intro (fun c1 => ?_) (fun c1 => And.intro (fun c2 => ?_) (fun c2 => ?_)))
    · rw [ix_lt (by decide)] at c1
      exact no (fun x hx hv => by unfold vok at hx; omega)
    · rw [ix_lt (by decide)] at c1
      rw [hI, nI_add, in_le (by omega)] at c2
      exact no (fun x hx hv => by unfold vok at hx; omega)
    · rw [ix_lt (by decide)] at c1
      rw [hI, nI_add, in_le (by omega)] at c2
      exact yes v.toInt.toNat (by unfold vok; omega) (by omega)
  refine b0 _ _ _ _ _ _ (And.intro (fun c1 => ?_) (fun c1 => And.intro (fun c2 => ?_) (fun c2 => ?_)))
  · rw [i0_lt] at c1
    exact nine (by omega)
  · rw [i0_lt] at c1
    rw [ix_le (by decide)] at c2
    exact yes v.toInt.toNat (by unfold vok; omega) (by omega)
  · rw [i0_lt] at c1
    rw [ix_le (by decide)] at c2
    exact nine (by omega)
/-- the sets of streets and walls beside the row of squares -/
def mks (x y : Int64) (c : Nat → Nat) : Prop := (∀ j, j < 64 → gb x j = decide (c j = 1)) ∧ ∀ j, j < 64 → gb y j = decide (¬ c j = 0 ∧ ¬ c j = 1)
theorem ca_lay {q x : Nat} {c : Nat → Nat} {I : II} {J : JJ} {Q : QT} (hq : q < 64) (hx : x < 16) (hm : mks (J 8 4) (J 8 5) c) (kq : ∀ s w : Int64, mks s w (ups c q x) → Q none 90 al_R0 (al_up I 9 q (nI x)) (al_up (al_up J 8 4 s) 8 5 w)) : CT m_X9_lay 0 [.ref 8, .int (nI q), .int (nI x)] 90 al_R0 I J Q := by
  refine r_X9_lay (by decide) (fun F wk b0 b26 b36 b49 b62 b68 => ?_)
  generalize hbit : lN 1 <<< ((nI q).toInt64 &&& 63) = bit at *
  have hb : ∀ j, j < 64 → gb bit j = decide (j = q) := by rw [← hbit]; exact gb_bits q hq
  have h68 : ∀ s w : Int64, mks s w (ups c q x) → F 68 [some (.ref 8), some (.int (nI q)), some (.int (nI x)), some (.long bit), none] [.long w, .ref 8] 90 al_R0 (al_up I 9 q (nI x)) (al_up J 8 4 s) := fun s w h => b68 _ _ _ _ _ _ (kq s w h)
  have h36 : ∀ s : Int64, (∀ j, j < 64 → gb s j = decide (ups c q x j = 1)) → F 36 [some (.ref 8), some (.int (nI q)), some (.int (nI x)), some (.long bit), none] [.long s, .ref 8] 90 al_R0 (al_up I 9 q (nI x)) J := fun s hs => by
    have h49 : (x = 0 ∨ x = 1) → F 49 [some (.ref 8), some (.int (nI q)), some (.int (nI x)), some (.long bit), none] [.ref 8] 90 al_R0 (al_up I 9 q (nI x)) (al_up J 8 4 s) := fun h01 => by
      refine b49 _ _ _ _ _ _ (h68 s _ ⟨hs, fun j hj => ?_⟩)
      rw [gb_and, gb_xor, gb_m1 j hj, hb j hj]
      show (gb (al_up J 8 4 s 8 5) j && _) = _
      rw [al_up_j (by decide), hm.2 j hj]
      by_cases e : j = q
      · subst e
        rw [ups_s]
        rcases h01 with rfl | rfl <;> simp
      · rw [ups_n e]
        simp [e]
    have h62 : ¬ (x = 0 ∨ x = 1) → F 62 [some (.ref 8), some (.int (nI q)), some (.int (nI x)), some (.long bit), none] [.ref 8] 90 al_R0 (al_up I 9 q (nI x)) (al_up J 8 4 s) := fun h01 => by
      refine b62 _ _ _ _ _ _ (h68 s _ ⟨hs, fun j hj => ?_⟩)
      rw [gb_or, hb j hj]
      show (gb (al_up J 8 4 s 8 5) j || _) = _
      rw [al_up_j (by decide), hm.2 j hj]
      by_cases e : j = q
      · subst e
        rw [ups_s]
        have : ¬ x = 0 ∧ ¬ x = 1 := by omega
        simp [this]
      · rw [ups_n e]
        simp [e]
    refine b36 _ _ _ _ _ _ (And.intro (fun c1 => ?_) (fun c1 => And.intro (fun c2 => ?_) (fun c2 => ?_)))
    · rw [← nI_0, nI_eq (by omega) (by omega)] at c1
      exact h49 (Or.inl c1)
    · rw [← nI_0, nI_eq (by omega) (by omega)] at c1
      rw [nI_eq (by omega) (by omega)] at c2
      exact h62 (by omega)
    · rw [nI_eq (by omega) (by omega)] at c2
      exact h49 (Or.inr c2)
  refine b0 _ _ _ _ _ _ ?_
  subst hbit
  refine Exists.intro q (And.intro hq (And.intro rfl (And.intro (fun c1 => ?_) (fun c1 => ?_))))
  · rw [nI_eq (by omega) (by omega)] at c1
    refine b26 _ _ _ _ _ _ (h36 _ (fun j hj => ?_))
    rw [gb_and, gb_xor, gb_m1 j hj, hb j hj, hm.1 j hj]
    by_cases e : j = q
    · subst e
      rw [ups_s]
      simp [c1]
    · rw [ups_n e]
      simp [e]
  · rw [nI_eq (by omega) (by omega)] at c1
    refine h36 _ (fun j hj => ?_)
    rw [gb_or, hb j hj, hm.1 j hj]
    by_cases e : j = q
    · subst e
      rw [ups_s]
      simp [c1]
    · rw [ups_n e]
      simp [e]
