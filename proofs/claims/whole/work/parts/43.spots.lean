/-! THE ROUND OF THE COUNTERS -/
theorem fnx_eq {P : Nat → Bool} : ∀ {d s k : Nat}, (∀ j, s ≤ j → j < k → P j = false) → s ≤ k → k < s + d → P k = true → fnx P s d = k
  | 0, s, k, _, h2, h3, _ => by omega
  | d + 1, s, k, h1, h2, h3, h4 => by
    by_cases e : s = k
    · subst e; exact fnx_yes h4
    · rw [fnx_no (h1 s (Nat.le_refl s) (by omega))]
      exact fnx_eq (fun j hj => h1 j (by omega)) (by omega) (by omega) h4
theorem fnx_none {P : Nat → Bool} : ∀ {d s : Nat}, (∀ j, s ≤ j → j < s + d → P j = false) → fnx P s d = s + d
  | 0, s, _ => rfl
  | d + 1, s, h => by
    rw [fnx_no (h s (Nat.le_refl s) (by omega)), fnx_none (fun j h1 h2 => h j (by omega) (by omega))]
    omega
theorem or_bit : ∀ n, n < 6 → ∀ m, m < 2 ^ n → nI m ||| (nI 1 <<< (nI n &&& 31)) = nI (m + 2 ^ n) := by decide +kernel
/-- a set of houses as a number -/
def orN (P : Nat → Bool) : Nat → Nat
  | 0 => 0
  | n + 1 => orN P n + (P n).toNat * 2 ^ n
theorem orN_lt (P : Nat → Bool) : ∀ n, orN P n < 2 ^ n
  | 0 => by simp [orN]
  | n + 1 => by
    have h1 := orN_lt P n
    have h2 : (P n).toNat ≤ 1 := by cases P n <;> decide
    have h3 : (P n).toNat * 2 ^ n ≤ 1 * 2 ^ n := Nat.mul_le_mul_right _ h2
    unfold orN
    rw [Nat.pow_succ]
    omega
theorem orb_N (P : Nat → Bool) : ∀ {n : Nat}, n ≤ 6 → orb P n = nI (orN P n)
  | 0, _ => rfl
  | n + 1, h => by
    have h1 := orb_N P (n := n) (by omega)
    cases e : P n with
    | false => rw [orb_no e, h1, orN, e]; simp
    | true => rw [orb_yes e, h1, or_bit n (by omega) _ (orN_lt P n), orN, e]; simp
theorem orN_0 {P : Nat → Bool} : ∀ {n : Nat}, orN P n = 0 ↔ ∀ j, j < n → P j = false
  | 0 => ⟨fun _ j hj => absurd hj (by omega), fun _ => rfl⟩
  | n + 1 => by
    have h1 := orN_0 (P := P) (n := n)
    have h2 : 0 < 2 ^ n := Nat.pow_pos (by decide)
    constructor
    · intro h j hj
      unfold orN at h
      have ha : orN P n = 0 := by omega
      by_cases e : j = n
      · subst e
        cases q : P j with
        | false => rfl
        | true => rw [q] at h; simp at h
      · exact h1.mp ha j (by omega)
    · intro h
      unfold orN
      rw [h n (by omega), h1.mpr (fun j hj => h j (by omega))]
      simp
theorem cor_nh {T : TW} (hv : VT T) {h p : Nat} (hh : T.2.1 ≤ h) : cor T.1 h p = false := by
  have ho : ∀ r k, own T.1 h r k = false := fun r k => by
    unfold own
    by_cases e : 1 ≤ r ∧ r ≤ 8 ∧ 1 ≤ k ∧ k ≤ 8
    · have h1 := hv.2.1 (8 * (r - 1) + (k - 1)) (by omega)
      have h6 := hv.1
      unfold vok at h1
      simp; omega
    · simp [e]
  unfold cor shp
  simp [ho]
theorem hcp_nh {T : TW} (hv : VT T) (p : Nat) : hcp T.1 p = anyb (fun h => cor T.1 h p) T.2.1 := by
  unfold hcp
  cases e : anyb (fun h => cor T.1 h p) T.2.1 with
  | true =>
    obtain ⟨j, h1, h2⟩ := anyb_iff.mp e
    exact anyb_yes (j := j) (by have := hv.1; omega) h2
  | false =>
    refine anyb_no (fun j hj => ?_)
    rcases Nat.lt_or_ge j T.2.1 with q | q
    · cases e2 : cor T.1 j p with
      | false => rfl
      | true => rw [anyb_yes (P := fun h => cor T.1 h p) q e2] at e; cases e
    · exact cor_nh hv q
theorem orb_hcp {T : TW} (hv : VT T) (p : Nat) : (orb (fun h => cor T.1 h p) T.2.1 = 0) ↔ hcp T.1 p = false := by
  have h6 := hv.1
  have hl := orN_lt (fun h => cor T.1 h p) T.2.1
  have hp : 2 ^ T.2.1 ≤ 2 ^ 6 := Nat.pow_le_pow_right (n := 2) (by omega) h6
  rw [orb_N _ h6, ← nI_0, nI_eq (by omega) (by omega), orN_0, hcp_nh hv]
  constructor
  · intro h
    exact anyb_no h
  · intro h j hj
    cases e : cor T.1 j p with
    | false => rfl
    | true => rw [anyb_yes (P := fun h => cor T.1 h p) hj e] at h; cases h
def vw (c : Nat → Nat) (i s p : Nat) : Bool := decide (p < i) && (hcp c p && sen c p s)
def VWS (c : Nat → Nat) (i : Nat) (J : JJ) : Prop := ∀ s, s < 64 → ∀ j, j < 64 → gb (J 42 s) j = vw c i s j ∧ gb (J 43 s) j = vw c i s (64 + j)
def kJ (J J' : JJ) : Prop := ∀ q, q ≠ 42 → q ≠ 43 → J' q = J q
theorem kJ.T {T : TW} {I : II} {J J' : JJ} (h : kJ J J') (hT : CTn 8 T I J) : CTn 8 T I J' := hT.keep (fun p h1 h2 => ⟨rfl, h p (by omega) (by omega)⟩)
theorem vw_s {c : Nat → Nat} {i s p : Nat} (h : p ≠ i) : vw c (i + 1) s p = vw c i s p := by
  unfold vw
  rw [show decide (p < i + 1) = decide (p < i) from decide_eq_decide.mpr (by omega)]
theorem ca_lookAt {p : Nat} {c : Nat → Nat} {I : II} {J : JJ} {Q : QT} (hm : mks (J 8 4) (J 8 5) c) (hp : p < 81) (hh : hcp c p = true) (hw : VWS c p J) (kq : ∀ J' : JJ, kJ J J' → VWS c (p + 1) J' → Q none 90 al_R0 I J') : CT m_X8_lookAt 0 [.ref 38, .int (nI p)] 90 al_R0 I J Q := by
  refine r_X8_lookAt (by decide) (fun F wk b0 b2 b46 b61 b67 => ?_)
  have vwp : ∀ s, vw c (p + 1) s p = sen c p s := fun s => by simp [vw, hh]
  have vwn : ∀ s, vw c p s p = false := fun s => by simp [vw]
  have loop : ∀ (d i : Nat) (J' : JJ), i + d = 64 → kJ J J' → (∀ s, s < 64 → ∀ j, j < 64 → gb (J' 42 s) j = vw c (if s < i then p + 1 else p) s j ∧ gb (J' 43 s) j = vw c (if s < i then p + 1 else p) s (64 + j)) → F 2 [some (.ref 38), some (.int (nI p)), some (.int (nI i))] [] 90 al_R0 I J' := by
    intro d
    induction d with
    | zero =>
      intro i J' hi g1 g2
      obtain rfl : i = 64 := by omega
      exact b2 _ _ _ _ _ _ (br_t (nI_le (by omega) (by omega)) (b67 _ _ _ _ _ _ (kq J' g1 (fun s hs j hj => by have := g2 s hs j hj; rw [if_pos hs] at this; exact this))))
    | succ d ih =>
      intro i J' hi g1 g2
      have hm' : mks (J' 8 4) (J' 8 5) c := by rw [g1 8 (by decide) (by decide)]; exact hm
      have no : sen c p i = false → F 61 [some (.ref 38), some (.int (nI p)), some (.int (nI i))] [] 90 al_R0 I J' := fun hn => by
        have h9 := ih (i + 1) J' (by omega) g1 (fun s hs j hj => by
          by_cases e : s = i
          · subst e
            have := g2 s hs j hj
            rw [if_neg (by omega)] at this
            rw [if_pos (by omega), this.1, this.2]
            have key : ∀ q, vw c p s q = vw c (p + 1) s q := fun q => by
              by_cases e2 : q = p
              · subst e2; rw [vwp, vwn, hn]
              · rw [vw_s e2]
            exact ⟨key _, key _⟩
          · have := g2 s hs j hj
            rw [show (if s < i + 1 then p + 1 else p) = (if s < i then p + 1 else p) by
              by_cases e2 : s < i
              · rw [if_pos e2, if_pos (by omega)]
              · rw [if_neg e2, if_neg (by omega)]]
            exact this)
        rw [nI_s i] at h9
        exact b61 _ _ _ _ _ _ h9
      refine b2 _ _ _ _ _ _ (br_f (nI_ge (by omega) (by omega)) (ca_isStreet hm' (by omega) (And.intro (fun c1 => no (by simp [sen, bz_f c1])) (fun c1 => ca_reaches hm' (by omega) hp (And.intro (fun c2 => no (by simp [sen, bz_f c2])) (fun c2 => ?_))))))
      have hsn : sen c p i = true := by simp only [sen, bz_t c1, bz_t c2]; rfl
      have old := g2 i (by omega)
      rw [if_neg (by omega)] at old
      have fin : ∀ J2 : JJ, kJ J J2 → (∀ s, s ≠ i → J2 42 s = J' 42 s ∧ J2 43 s = J' 43 s) → (∀ j, j < 64 → gb (J2 42 i) j = vw c (p + 1) i j ∧ gb (J2 43 i) j = vw c (p + 1) i (64 + j)) → F 61 [some (.ref 38), some (.int (nI p)), some (.int (nI i))] [] 90 al_R0 I J2 := fun J2 q1 q2 q3 => by
        have h9 := ih (i + 1) J2 (by omega) q1 (fun s hs j hj => by
          by_cases e : s = i
          · subst e
            rw [if_pos (by omega)]
            exact q3 j hj
          · have := g2 s hs j hj
            rw [(q2 s e).1, (q2 s e).2, show (if s < i + 1 then p + 1 else p) = (if s < i then p + 1 else p) by
              by_cases e2 : s < i
              · rw [if_pos e2, if_pos (by omega)]
              · rw [if_neg e2, if_neg (by omega)]]
            exact this)
        rw [nI_s i] at h9
        exact b61 _ _ _ _ _ _ h9
      refine And.intro (fun c3 => b46 _ _ _ _ _ _ ?_) (fun c3 => ?_)
      · rw [nI_leI (by omega) (by omega)] at c3
        refine Exists.intro i (And.intro (by omega) (And.intro rfl ?_))
        dsimp only [o_iload, o_lload, o_aload, o_istore, o_astore, o_lstore, o_iinc, o_ic, o_lc, o_sc, o_iadd, o_isub, o_imul, o_iand, o_ior, o_ixor, o_ishl, o_ishr, o_ladd, o_lsub, o_land, o_lor, o_lxor, o_lshl, o_lshr, o_i2l, o_l2i, o_lcmp, o_dup, o_dup2, o_pop, o_getI, o_getJ, o_getR, o_putI, o_putZ, o_putJ, o_iald, o_zald, o_lald, o_aald, o_iast, o_zast, o_last, o_alen, o_cpyI, o_cpyJ, o_iret, o_zret, o_lret, o_aret, o_vret, o_idiv, o_irem, o_ineg, o_ifeq, o_ifne, o_iflt, o_ifge, o_ifgt, o_ifle, o_iceq, o_icne, o_iclt, o_icge, o_icgt, o_icle, al_gL, al_sL, al_sJ, al_gd]
        rw [pk_sub c3]
        refine al_isA_in (len := 64) rfl (Exists.intro i (And.intro (by omega) (And.intro rfl (fin _ (fun q h1 h2 => by rw [al_up_row h2]; exact g1 q h1 h2) (fun s hs => ⟨by rw [al_up_p (by decide)], al_up_j hs⟩) (fun j hj => ?_)))))
        rw [al_up_s, al_up_p (by decide), gb_or, gb_bits (p - 64) (by omega) j hj, (old j hj).1, (old j hj).2]
        refine ⟨(vw_s (by omega)).symm, ?_⟩
        by_cases e : 64 + j = p
        · rw [e, vwp, hsn, show j = p - 64 by omega]; simp
        · rw [vw_s e, decide_eq_false (by omega)]; simp
      · rw [nI_leI (by omega) (by omega)] at c3
        refine Exists.intro i (And.intro (by omega) (And.intro rfl ?_))
        dsimp only [o_iload, o_lload, o_aload, o_istore, o_astore, o_lstore, o_iinc, o_ic, o_lc, o_sc, o_iadd, o_isub, o_imul, o_iand, o_ior, o_ixor, o_ishl, o_ishr, o_ladd, o_lsub, o_land, o_lor, o_lxor, o_lshl, o_lshr, o_i2l, o_l2i, o_lcmp, o_dup, o_dup2, o_pop, o_getI, o_getJ, o_getR, o_putI, o_putZ, o_putJ, o_iald, o_zald, o_lald, o_aald, o_iast, o_zast, o_last, o_alen, o_cpyI, o_cpyJ, o_iret, o_zret, o_lret, o_aret, o_vret, o_idiv, o_irem, o_ineg, o_ifeq, o_ifne, o_iflt, o_ifge, o_ifgt, o_ifle, o_iceq, o_icne, o_iclt, o_icge, o_icgt, o_icle, al_gL, al_sL, al_sJ, al_gd]
        refine al_isA_in (len := 64) rfl (Exists.intro i (And.intro (by omega) (And.intro rfl (fin _ (fun q h1 h2 => by rw [al_up_row h1]; exact g1 q h1 h2) (fun s hs => ⟨al_up_j hs, by rw [al_up_p (by decide)]⟩) (fun j hj => ?_)))))
        rw [al_up_s, al_up_p (by decide), gb_or, gb_bits p (by omega) j hj, (old j hj).1, (old j hj).2]
        refine ⟨?_, (vw_s (by omega)).symm⟩
        by_cases e : j = p
        · rw [e, vwp, hsn]; simp
        · rw [vw_s e, decide_eq_false e]; simp
  exact b0 _ _ _ _ _ _ (loop 64 0 J rfl (fun _ _ _ => rfl) (fun s hs j hj => by rw [if_neg (by omega)]; exact hw s hs j hj))
theorem ca_lookAround {T : TW} {I : II} {J : JJ} {Q : QT} (hT : CTn 8 T I J) (hv : VT T) (kq : ∀ J' : JJ, kJ J J' → VWS T.1 81 J' → Q none 90 al_R0 I J') : CT m_X8_lookAround 0 [.ref 38] 90 al_R0 I J Q := by
  refine r_X8_lookAround (by decide) (fun F wk b0 b18 b40 b46 => ?_)
  have loop : ∀ (d i : Nat) (J' : JJ), i + d = 81 → kJ J J' → VWS T.1 i J' → F 18 [some (.ref 38), some (.int (nI i))] [] 90 al_R0 I J' := by
    intro d
    induction d with
    | zero =>
      intro i J' hi g1 g2
      obtain rfl : i = 81 := by omega
      exact b18 _ _ _ _ _ _ (br_t (nI_le (by omega) (by omega)) (b46 _ _ _ _ _ _ (kq J' g1 g2)))
    | succ d ih =>
      intro i J' hi g1 g2
      have hT' := g1.T hT
      refine b18 _ _ _ _ _ _ (br_f (nI_ge (by omega) (by omega)) (ca_ownersAt hT'.2.1 hv.cdo (by omega) hv.1 hT'.1 (And.intro (fun c => ?_) (fun c => ?_))))
      · have hh := (orb_hcp hv i).mp c
        have h9 := ih (i + 1) J' (by omega) g1 (fun s hs j hj => by
          have := g2 s hs j hj
          have key : ∀ q, vw T.1 i s q = vw T.1 (i + 1) s q := fun q => by
            by_cases e : q = i
            · subst e; simp [vw, hh]
            · rw [vw_s e]
          rw [← key, ← key]
          exact this)
        rw [nI_s i] at h9
        exact b40 _ _ _ _ _ _ h9
      · have hh : hcp T.1 i = true := by
          cases e : hcp T.1 i with
          | true => rfl
          | false => exact absurd ((orb_hcp hv i).mpr e) c
        refine ca_lookAt hT'.2.2.1 (by omega) hh g2 (fun J2 g3 g4 => ?_)
        have h9 := ih (i + 1) J2 (by omega) (fun q h1 h2 => (g3 q h1 h2).trans (g1 q h1 h2)) g4
        rw [nI_s i] at h9
        exact b40 _ _ _ _ _ _ h9
  refine b0 _ _ _ _ _ _ (cj_fillJ (p := 42) (len := 64) (by decide) rfl (by decide) (fun J1 h1 h2 h3 => ?_))
  refine cj_fillJ (p := 43) (len := 64) (by decide) rfl (by decide) (fun J2 h4 h5 h6 => ?_)
  refine loop 81 0 J2 rfl (fun q q1 q2 => by rw [h4 q q2, h1 q q1]) (fun s hs j hj => ?_)
  rw [h4 42 (by decide), h2 s hs, h5 s hs, lN_0, gb_0]
  simp [vw]
