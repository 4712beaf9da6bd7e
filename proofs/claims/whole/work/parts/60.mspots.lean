/-! THE REFERENCE: the counters' round -/
theorem ar_am {f : Nat → Nat} : ∀ n, (mx f n = 0 → ar f n = -1) ∧ (0 < mx f n → ar f n = nI (am f n))
  | 0 => ⟨fun _ => rfl, fun h => absurd h (by simp [mx])⟩
  | n + 1 => by
    obtain ⟨h1, h2⟩ := ar_am (f := f) n
    by_cases e : mx f n < f n
    · rw [mx, ar, am, if_pos e, if_pos e, if_pos e]
      exact ⟨fun h => by omega, fun _ => rfl⟩
    · rw [mx, ar, am, if_neg e, if_neg e, if_neg e]
      exact ⟨h1, h2⟩
theorem cnt_full {P : Nat → Bool} : ∀ {n : Nat}, n ≤ cnt P n → ∀ j, j < n → P j = true
  | 0, _, j, hj => absurd hj (by omega)
  | n + 1, h, j, hj => by
    have hl := cnt_le P n
    cases e : P n with
    | false => rw [cnt_no e] at h; omega
    | true =>
      rw [cnt_yes e] at h
      by_cases q : j = n
      · rw [q]; exact e
      · exact cnt_full (n := n) (by omega) j (by omega)
theorem lft_dec {c : Nat → Nat} {k p : Nat} (h : lft c (k + 1) p = true) : lft c k p = true := by
  rw [lft_s, Bool.and_eq_true] at h
  exact h.1
theorem nwf_dec {c : Nat → Nat} {k q : Nat} (h : nwf c k q = 0) : nwf c (k + 1) q = 0 := by
  have : nwf c (k + 1) q ≤ nwf c k q := cnt_mono (fun j _ hj => by
    rw [Bool.and_eq_true] at hj ⊢
    exact ⟨lft_dec hj.1, hj.2⟩)
  omega
theorem nwf_trb (c : Nat → Nat) (k : Nat) : nwf c (k + 1) (trb c k) = 0 := cnt_none (fun p _ => by
  rw [lft_s]
  cases lft c k p <;> cases sen c p (trb c k) <;> rfl)
theorem zr {c : Nat → Nat} : ∀ {k : Nat}, (∀ j, j < k → ¬ mx (nwf c j) 64 = 0) → k ≤ cnt (fun q => decide (nwf c k q = 0)) 64
  | 0, _ => Nat.zero_le _
  | k + 1, h => by
    have ih := zr (c := c) (k := k) (fun j hj => h j (by omega))
    have hm := h k (by omega)
    have ha := mx_at (f := nwf c k) (n := 64) (by omega)
    have hl := am_lt (nwf c k) 64 (by decide)
    have hg := (cnt_gr (P := fun q => decide (nwf c k q = 0)) (P' := fun q => decide (nwf c (k + 1) q = 0)) (b := trb c k) (fun j hj => decide_eq_true (nwf_dec (of_decide_eq_true hj))) (decide_eq_true (nwf_trb c k)) (decide_eq_false (by show ¬ nwf c k (am (nwf c k) 64) = 0; omega)) (n := 64)).2 hl
    omega
theorem zr_64 {c : Nat → Nat} (h : ∀ j, j < 64 → ¬ mx (nwf c j) 64 = 0) : mx (nwf c 64) 64 = 0 := mx_0.mpr (fun q hq => of_decide_eq_true (cnt_full (zr h) q hq))
theorem trn_eq {c : Nat → Nat} {k : Nat} (hk : k ≤ 64) (h : ∀ j, j < k → ¬ mx (nwf c j) 64 = 0) (h0 : mx (nwf c k) 64 = 0) : trn c = k := by
  unfold trn
  rcases Nat.lt_or_ge k 64 with g | g
  · exact fnx_eq (fun j _ hj => decide_eq_false (h j hj)) (Nat.zero_le _) (by omega) (decide_eq_true h0)
  · rw [fnx_none (fun j _ hj => decide_eq_false (h j (by omega)))]
    omega
def kP (I : II) (J : JJ) (I' : II) (J' : JJ) : Prop := (∀ q, q ≠ 74 → q ≠ 79 → q ≠ 80 → I' q = I q) ∧ (∀ j, j ≠ 5 → I' 74 j = I 74 j) ∧ ∀ q, q ≠ 78 → J' q = J q
theorem kS.p {I I' : II} {J J' : JJ} (h : kS I J I' J') : kP I J I' J' := ⟨fun q a _ _ => h.1 q a, h.2.1, h.2.2⟩
theorem kP.tr {I I' I'' : II} {J J' J'' : JJ} (h1 : kP I J I' J') (h2 : kP I' J' I'' J'') : kP I J I'' J'' := ⟨fun q a b c => (h2.1 q a b c).trans (h1.1 q a b c), fun j hj => (h2.2.1 j hj).trans (h1.2.1 j hj), fun q hq => (h2.2.2 q hq).trans (h1.2.2 q hq)⟩
theorem kP.u9 (I : II) (J : JJ) (j : Nat) (v : Int32) : kP I J (al_up I 79 j v) J := ⟨fun q _ b _ => al_up_row b, fun j hj => al_up_p (by decide), fun _ _ => rfl⟩
theorem kP.u0 (I : II) (J : JJ) (j : Nat) (v : Int32) : kP I J (al_up I 80 j v) J := ⟨fun q _ _ b => al_up_row b, fun j hj => al_up_p (by decide), fun _ _ => rfl⟩
theorem kP.k {I I' : II} {J J' : JJ} (h : kP I J I' J') : k74 I J I' J' := fun p hp => ⟨h.1 p (by omega) (by omega) (by omega), h.2.2 p (by omega)⟩
theorem kP.T {T : TW} {I I' : II} {J J' : JJ} (h : kP I J I' J') (hT : MTn 75 T I) : MTn 75 T I' := hT.keep (h.1 75 (by decide) (by decide) (by decide))
theorem kP.M {S : SG} {I I' : II} {J J' : JJ} (h : kP I J I' J') (hM : MI S I J) (hf : mfd S.1.1 I' J') : MI S I' J' := by
  obtain ⟨h1, h2, h3, h4, h5, h6⟩ := hM
  exact ⟨h.T h1, hf, h3.keep (h.2.1 2 (by decide)) (h.1 76 (by decide) (by decide) (by decide)), h4.keep (h.2.1 10 (by decide)) (h.1 81 (by decide) (by decide) (by decide)), h5.keep (h.1 86 (by decide) (by decide) (by decide)) (h.1 87 (by decide) (by decide) (by decide)) (h.2.2 88 (by decide)), h6.keep (h.1 77 (by decide) (by decide) (by decide))⟩
theorem lN_b1 (b : Bool) : lN b.toNat = lN 1 ↔ b = true := by cases b <;> decide +kernel
theorem ma_newFrom {q : Nat} {L : Nat → Bool} {T : TW} {I : II} {J : JJ} {Q : QT} (hT : MTn 75 T I) (hv : VT T) (hf : mfd T.1 I J) (hq : q < 64) (hL : ∀ p, p < 81 → I 80 p = nI (L p).toNat) (kq : ∀ (I' : II) (J' : JJ), kS I J I' J' → mfd T.1 I' J' → Q (some (.int (nI (cnt (fun p => L p && sen T.1 p q) 81)))) 90 al_R0 I' J') : CT m_X12_newFrom 0 [.ref 74, .int (nI q)] 90 al_R0 I J Q := by
  refine r_X12_newFrom (by decide) (fun F wk b0 b4 b38 b39 b47 => ?_)
  have loop : ∀ (d p : Nat) (I' : II) (J' : JJ), p + d = 81 → kS I J I' J' → mfd T.1 I' J' → F 4 [some (.ref 74), some (.int (nI q)), some (.int (nI (cnt (fun p => L p && sen T.1 p q) p))), some (.int (nI p))] [] 90 al_R0 I' J' := by
    intro d
    induction d with
    | zero =>
      intro p I' J' hp g1 g2
      obtain rfl : p = 81 := by omega
      exact b4 _ _ _ _ _ _ (br_t (nI_le (by omega) (by omega)) (b47 _ _ _ _ _ _ (kq I' J' g1 g2)))
    | succ d ih =>
      intro p I' J' hp g1 g2
      have hT' := g1.T (by decide) hT
      have e80 : I' 80 p = nI (L p).toNat := by rw [g1.1 80 (by decide)]; exact hL p (by omega)
      have no : ∀ (I2 : II) (J2 : JJ), kS I J I2 J2 → mfd T.1 I2 J2 → (L p && sen T.1 p q) = false → F 38 [some (.ref 74), some (.int (nI q)), some (.int (nI (cnt (fun p => L p && sen T.1 p q) p))), some (.int (nI p))] [.int (nI (cnt (fun p => L p && sen T.1 p q) p))] 90 al_R0 I2 J2 := fun I2 J2 w1 w2 hn => by
        have h9 := ih (p + 1) I2 J2 (by omega) w1 w2
        rw [cnt_no (P := fun p => L p && sen T.1 p q) hn, nI_s p] at h9
        refine b38 _ _ _ _ _ _ (b39 _ _ _ _ _ _ ?_)
        dsimp only [k_X12_newFrom_39, o_iload, o_lload, o_aload, o_istore, o_astore, o_lstore, o_iinc, o_ic, o_lc, o_sc, o_iadd, o_isub, o_imul, o_iand, o_ior, o_ixor, o_ishl, o_ishr, o_ladd, o_lsub, o_land, o_lor, o_lxor, o_lshl, o_lshr, o_i2l, o_l2i, o_lcmp, o_dup, o_dup2, o_pop, o_getI, o_getJ, o_getR, o_putI, o_putZ, o_putJ, o_iald, o_zald, o_lald, o_aald, o_iast, o_zast, o_last, o_alen, o_cpyI, o_cpyJ, o_iret, o_zret, o_lret, o_aret, o_vret, o_idiv, o_irem, o_ineg, o_ifeq, o_ifne, o_iflt, o_ifge, o_ifgt, o_ifle, o_iceq, o_icne, o_iclt, o_icge, o_icgt, o_icle, al_gL, al_sL, al_sJ, al_gd]
        rw [nI_add, Nat.add_zero]
        exact h9
      refine b4 _ _ _ _ _ _ (br_f (nI_ge (by omega) (by omega)) (Exists.intro p (And.intro (by omega) (And.intro rfl (And.intro (fun c => no I' J' g1 g2 ?_) (fun c => ma_seenAt hT'.1 hv.cdo g2 (by omega) (fun I2 J2 w1 w2 w3 => ?_)))))))
      · rw [e80] at c
        rw [bz_f c, Bool.false_and]
      · rw [e80] at c
        dsimp only [al_pu, o_iload, o_lload, o_aload, o_istore, o_astore, o_lstore, o_iinc, o_ic, o_lc, o_sc, o_iadd, o_isub, o_imul, o_iand, o_ior, o_ixor, o_ishl, o_ishr, o_ladd, o_lsub, o_land, o_lor, o_lxor, o_lshl, o_lshr, o_i2l, o_l2i, o_lcmp, o_dup, o_dup2, o_pop, o_getI, o_getJ, o_getR, o_putI, o_putZ, o_putJ, o_iald, o_zald, o_lald, o_aald, o_iast, o_zast, o_last, o_alen, o_cpyI, o_cpyJ, o_iret, o_zret, o_lret, o_aret, o_vret, o_idiv, o_irem, o_ineg, o_ifeq, o_ifne, o_iflt, o_ifge, o_ifgt, o_ifle, o_iceq, o_icne, o_iclt, o_icge, o_icgt, o_icle, al_gL, al_sL, al_sJ, al_gd]
        rw [bit_at hq, w3 q hq]
        refine And.intro (fun c2 => no I2 J2 (g1.tr w1) w2 ?_) (fun c2 => b39 _ _ _ _ _ _ ?_)
        · rw [lg_cmp_eq, lN_b1] at c2
          rw [Bool.eq_false_iff.mpr c2, Bool.and_false]
        · rw [lg_cmp_eq, lN_b1] at c2
          have h9 := ih (p + 1) I2 J2 (by omega) (g1.tr w1) w2
          rw [cnt_yes (P := fun p => L p && sen T.1 p q) (by rw [bz_t c, c2]; rfl), nI_s p, nI_s (cnt _ p)] at h9
          exact h9
  exact b0 _ _ _ _ _ _ (loop 81 0 I J rfl (kS.rf I J) hf)
set_option maxHeartbeats 1000000 in
theorem ma_findSpots {T : TW} {I : II} {J : JJ} {Q : QT} (hT : MTn 75 T I) (hv : VT T) (hf : mfd T.1 I J) (kq : ∀ (I' : II) (J' : JJ), kP I J I' J' → mfd T.1 I' J' → (∀ k, k < trn T.1 → I' 79 k = nI (trb T.1 k)) → Q (some (.int (nI (trn T.1)))) 90 al_R0 I' J') : CT m_X12_findSpots 0 [.ref 74] 90 al_R0 I J Q := by
  have h6 := hv.1
  refine r_X12_findSpots (by decide) (fun F wk b0 b2 b35 b36 b43 b47 b58 b85 b91 b108 b150 b151 b158 b161 => ?_)
  -- the round
  have round : ∀ (d k : Nat) (best : Int32) (I' : II) (J' : JJ), k + d = 65 → ¬ best < 0 → kP I J I' J' → mfd T.1 I' J' → (∀ p, p < 81 → I' 80 p = nI (lft T.1 k p).toNat) → (∀ j, j < k → I' 79 j = nI (trb T.1 j)) → (∀ j, j < k → ¬ mx (nwf T.1 j) 64 = 0) → k ≤ 64 → F 47 [some (.ref 74), some (.int (nI k)), some (.int best), none, none, none] [] 90 al_R0 I' J' := by
    intro d
    induction d with
    | zero =>
      intro k best I' J' hk hb g1 g2 g3 g4 g5 g6
      omega
    | succ d ih =>
      intro k best I' J' hk hb g1 g2 g3 g4 g5 g6
      -- forgetting
      have pick : ∀ (m p : Nat) (I2 : II) (J2 : JJ), p + m = 81 → ¬ mx (nwf T.1 k) 64 = 0 → kP I J I2 J2 → mfd T.1 I2 J2 → (∀ j, j < k + 1 → I2 79 j = nI (trb T.1 j)) → (∀ j, j < p → I2 80 j = nI (lft T.1 (k + 1) j).toNat) → (∀ j, p ≤ j → j < 81 → I2 80 j = nI (lft T.1 k j).toNat) → F 108 [some (.ref 74), some (.int (nI (k + 1))), some (.int (nI (trb T.1 k))), none, some (.int (nI p)), none] [] 90 al_R0 I2 J2 := by
        intro m
        induction m with
        | zero =>
          intro p I2 J2 hp hm w1 w2 w3 w4 w5
          obtain rfl : p = 81 := by omega
          have hk64 : k < 64 := by
            rcases Nat.lt_or_ge k 64 with g | g
            · exact g
            · exact absurd (by rw [show k = 64 by omega]; exact zr_64 (fun j hj => g5 j (by omega))) hm
          have hl := am_lt (nwf T.1 k) 64 (by decide)
          have h9 := ih (k + 1) (nI (trb T.1 k)) I2 J2 (by omega) (nI_pos (by show am (nwf T.1 k) 64 < _; omega)) w1 w2 (fun j hj => w4 j hj) w3 (fun j hj => by
            by_cases e : j = k
            · rw [e]; exact hm
            · exact g5 j (by omega)) (by omega)
          exact b108 _ _ _ _ _ _ (br_t (nI_le (by omega) (by omega)) (b158 _ _ _ _ _ _ (wk _ _ _ _ _ _ _ _ (by simp [al_le]) h9)))
        | succ m ihm =>
          intro p I2 J2 hp hm w1 w2 w3 w4 w5
          have hl : trb T.1 k < 64 := am_lt (nwf T.1 k) 64 (by decide)
          have hT2 := w1.T hT
          have e80 := w5 p (Nat.le_refl p) (by omega)
          have put : ∀ (I3 : II) (J3 : JJ) (x : Bool), kP I J I3 J3 → mfd T.1 I3 J3 → I3 79 = I2 79 → I3 80 = I2 80 → lft T.1 (k + 1) p = x → F 151 [some (.ref 74), some (.int (nI (k + 1))), some (.int (nI (trb T.1 k))), none, some (.int (nI p)), none] [.int (nI x.toNat), .int (nI p), .ref 80] 90 al_R0 I3 J3 := fun I3 J3 x v1 v2 v3 v4 v5 => by
            have h9 := ihm (p + 1) (al_up I3 80 p (nI x.toNat)) J3 (by omega) hm (v1.tr (kP.u0 _ _ _ _)) (v2.keep (al_up_p (by decide)) rfl) (fun j hj => by rw [al_up_p (by decide), v3]; exact w3 j hj) (fun j hj => by
              by_cases e : j = p
              · rw [e, al_up_s, v5]
              · rw [al_up_j e, v4]; exact w4 j (by omega)) (fun j hj hj2 => by rw [al_up_j (by omega), v4]; exact w5 j (by omega) hj2)
            rw [nI_s p] at h9
            exact b151 _ _ _ _ _ _ (Exists.intro p (And.intro (by omega) (And.intro rfl (And.intro (i_bit x) h9))))
          refine b108 _ _ _ _ _ _ (br_f (nI_ge (by omega) (by omega)) (Exists.intro p (And.intro (by omega) (And.intro rfl (And.intro (fun c => b150 _ _ _ _ _ _ ?_) (fun c => ma_seenAt hT2.1 hv.cdo w2 (by omega) (fun I3 J3 v1 v2 v3 => ?_)))))))
          · rw [e80] at c
            exact put I2 J2 false w1 w2 rfl rfl (by rw [lft_s, bz_f c, Bool.false_and])
          · rw [e80] at c
            dsimp only [al_pu, o_iload, o_lload, o_aload, o_istore, o_astore, o_lstore, o_iinc, o_ic, o_lc, o_sc, o_iadd, o_isub, o_imul, o_iand, o_ior, o_ixor, o_ishl, o_ishr, o_ladd, o_lsub, o_land, o_lor, o_lxor, o_lshl, o_lshr, o_i2l, o_l2i, o_lcmp, o_dup, o_dup2, o_pop, o_getI, o_getJ, o_getR, o_putI, o_putZ, o_putJ, o_iald, o_zald, o_lald, o_aald, o_iast, o_zast, o_last, o_alen, o_cpyI, o_cpyJ, o_iret, o_zret, o_lret, o_aret, o_vret, o_idiv, o_irem, o_ineg, o_ifeq, o_ifne, o_iflt, o_ifge, o_ifgt, o_ifle, o_iceq, o_icne, o_iclt, o_icge, o_icgt, o_icle, al_gL, al_sL, al_sJ, al_gd]
            rw [bit_at hl, v3 _ hl]
            refine And.intro (fun c2 => b150 _ _ _ _ _ _ (put I3 J3 false (w1.tr v1.p) v2 (v1.1 79 (by decide)) (v1.1 80 (by decide)) ?_)) (fun c2 => put I3 J3 true (w1.tr v1.p) v2 (v1.1 79 (by decide)) (v1.1 80 (by decide)) ?_)
            · rw [lg_cmp_eq, lN_b0] at c2
              have c2 : sen T.1 p (trb T.1 k) = true := by
                cases e : sen T.1 p (trb T.1 k) with
                | true => rfl
                | false => exact absurd e c2
              rw [lft_s, c2, Bool.not_true, Bool.and_false]
            · rw [lg_cmp_eq, lN_b0] at c2
              rw [lft_s, c2, bz_t c]; rfl
      -- the widest view
      have look : ∀ (m q : Nat) (I2 : II) (J2 : JJ), q + m = 64 → kS I' J' I2 J2 → mfd T.1 I2 J2 → F 58 [some (.ref 74), some (.int (nI k)), some (.int (ar (nwf T.1 k) q)), some (.int (nI (mx (nwf T.1 k) q))), some (.int (nI q)), none] [] 90 al_R0 I2 J2 := by
        intro m
        induction m with
        | zero =>
          intro q I2 J2 hq w1 w2
          obtain rfl : q = 64 := by omega
          obtain ⟨a1, a2⟩ := ar_am (f := nwf T.1 k) 64
          refine b58 _ _ _ _ _ _ (br_t (nI_le (by omega) (by omega)) (b91 _ _ _ _ _ _ ?_))
          rcases Nat.eq_zero_or_pos (mx (nwf T.1 k) 64) with e | e
          · rw [a1 e]
            have et := trn_eq g6 g5 e
            have h9 := kq I2 J2 (g1.tr w1.p) w2 (fun j hj => by rw [w1.1 79 (by decide)]; exact g4 j (by omega))
            rw [et] at h9
            exact br_t m1_lt (b158 _ _ _ _ _ _ (b47 _ _ _ _ _ _ (br_t m1_lt (b161 _ _ _ _ _ _ h9))))
          · rw [a2 e]
            have hk64 : k < 64 := by
              rcases Nat.lt_or_ge k 64 with g | g
              · exact g
              · have : mx (nwf T.1 k) 64 = 0 := by rw [show k = 64 by omega]; exact zr_64 (fun j hj => g5 j (by omega))
                omega
            have hl := am_lt (nwf T.1 k) 64 (by decide)
            have h9 := pick 81 0 (al_up I2 79 k (nI (trb T.1 k))) J2 rfl (by omega) ((g1.tr w1.p).tr (kP.u9 _ _ _ _)) (w2.keep (al_up_p (by decide)) rfl) (fun j hj => by
              by_cases e : j = k
              · rw [e, al_up_s]
              · rw [al_up_j e, w1.1 79 (by decide)]; exact g4 j (by omega)) (fun j hj => absurd hj (by omega)) (fun j _ hj => by rw [al_up_p (by decide), w1.1 80 (by decide)]; exact g3 j hj)
            rw [nI_s k] at h9
            exact br_f (nI_pos (by omega)) (Exists.intro k (And.intro hk64 (And.intro rfl (wk _ _ _ _ _ _ _ _ (by simp [al_le]; rfl) h9))))
        | succ m ihm =>
          intro q I2 J2 hq w1 w2
          have hm1 := mx_le (nwf_le T.1 k) q
          have hn1 := nwf_le T.1 k q
          refine b58 _ _ _ _ _ _ (br_f (nI_ge (by omega) (by omega)) (ma_newFrom (L := lft T.1 k) (w1.T (by decide) (g1.T hT)) hv w2 (by omega) (fun p hp => by rw [w1.1 80 (by decide)]; exact g3 p hp) (fun I3 J3 v1 v2 => ?_)))
          have h9 := ihm (q + 1) I3 J3 (by omega) (w1.tr v1) v2
          show o_istore 5 _ _ [.int (nI (nwf T.1 k q))] _ _ _ _
          refine And.intro (fun c2 => ?_) (fun c2 => ?_)
          · rw [nI_leI (by omega) (by omega)] at c2
            rw [mx, ar, if_neg (by omega), if_neg (by omega), nI_s q] at h9
            exact b85 _ _ _ _ _ _ (wk _ _ _ _ _ _ _ _ (by simp [al_le]) h9)
          · rw [nI_leI (by omega) (by omega)] at c2
            rw [mx, ar, if_pos (by omega), if_pos (by omega), nI_s q] at h9
            exact b85 _ _ _ _ _ _ (wk _ _ _ _ _ _ _ _ (by simp [al_le]) h9)
      exact b47 _ _ _ _ _ _ (br_f hb (look 64 0 I' J' rfl (kS.rf I' J') g2))
  -- the points
  have start : ∀ (d p : Nat) (I' : II) (J' : JJ), p + d = 81 → kP I J I' J' → mfd T.1 I' J' → (∀ j, j < p → I' 80 j = nI (lft T.1 0 j).toNat) → F 2 [some (.ref 74), some (.int (nI p)), none, none, none, none] [] 90 al_R0 I' J' := by
    intro d
    induction d with
    | zero =>
      intro p I' J' hp g1 g2 g3
      obtain rfl : p = 81 := by omega
      refine b2 _ _ _ _ _ _ (br_t (nI_le (by omega) (by omega)) (b43 _ _ _ _ _ _ (round 65 0 (nI 0) I' J' rfl (by decide +kernel) g1 g2 g3 (fun j hj => absurd hj (by omega)) (fun j hj => absurd hj (by omega)) (by omega))))
    | succ d ih =>
      intro p I' J' hp g1 g2 g3
      have hT' := g1.T hT
      have put : ∀ (I3 : II) (J3 : JJ) (x : Bool), kP I J I3 J3 → mfd T.1 I3 J3 → I3 80 = I' 80 → lft T.1 0 p = x → F 36 [some (.ref 74), some (.int (nI p)), none, none, none, none] [.int (nI x.toNat), .int (nI p), .ref 80] 90 al_R0 I3 J3 := fun I3 J3 x v1 v2 v4 v5 => by
        have h9 := ih (p + 1) (al_up I3 80 p (nI x.toNat)) J3 (by omega) (v1.tr (kP.u0 _ _ _ _)) (v2.keep (al_up_p (by decide)) rfl) (fun j hj => by
          by_cases e : j = p
          · rw [e, al_up_s, v5]
          · rw [al_up_j e, v4]; exact g3 j (by omega))
        rw [nI_s p] at h9
        exact b36 _ _ _ _ _ _ (Exists.intro p (And.intro (by omega) (And.intro rfl (And.intro (i_bit x) h9))))
      refine b2 _ _ _ _ _ _ (br_f (nI_ge (by omega) (by omega)) (ma_whoseIs hT'.1 hv.cdo (by omega) hv.1 hT'.2.2.2 (And.intro (fun c => b35 _ _ _ _ _ _ (put I' J' false g1 g2 rfl ?_)) (fun c => ma_seenAt hT'.1 hv.cdo g2 (by omega) (fun I3 J3 v1 v2 v3 => ?_)))))
      · have c := (orb_hcp hv p).mp c
        show (hcp T.1 p && anyb (sen T.1 p) 64) = false
        rw [c, Bool.false_and]
      · have c : hcp T.1 p = true := by
          cases e : hcp T.1 p with
          | true => rfl
          | false => exact absurd ((orb_hcp hv p).mpr e) c
        refine And.intro (fun c2 => b35 _ _ _ _ _ _ (put I3 J3 false (g1.tr v1.p) v2 (v1.1 80 (by decide)) ?_)) (fun c2 => put I3 J3 true (g1.tr v1.p) v2 (v1.1 80 (by decide)) ?_)
        · rw [lg_cmp_eq, lN_0, gb_zero] at c2
          show (hcp T.1 p && anyb (sen T.1 p) 64) = false
          rw [anyb_no (fun j hj => by rw [← v3 j hj]; exact c2 j hj), Bool.and_false]
        · rw [lg_cmp_eq, lN_0, gb_zero] at c2
          show (hcp T.1 p && anyb (sen T.1 p) 64) = true
          have : anyb (sen T.1 p) 64 = true := by
            cases e : anyb (sen T.1 p) 64 with
            | true => rfl
            | false =>
              refine absurd (fun j hj => ?_) c2
              rw [v3 j hj]
              cases e2 : sen T.1 p j with
              | false => rfl
              | true => rw [anyb_yes hj e2] at e; exact absurd e (by decide)
          rw [c, this]; rfl
  exact b0 _ _ _ _ _ _ (start 81 0 I J rfl (kS.rf I J).p hf (fun j hj => absurd hj (by omega)))
theorem M_spots1 {a : Int32} {w : Nat} {S : SG} {I : II} {J : JJ} {Q : QT} (hM : MI S I J) (hV : VS S) (hw : w < trn S.1.1) (ea : a = nI w) (kq : PM I J Q S (.int (nI (trb S.1.1 w)))) : CT m_X12_spots 0 [.ref 74, .int a] 90 al_R0 I J Q := by
  subst ea
  have hl := trn_le S.1.1
  refine r_X12_spots (by decide) (fun F wk b0 b17 b30 b44 b50 => b0 _ _ _ _ _ _ (mw_t (by rw [m1T, nT (by omega)]; omega) (by rw [nT (by omega), nT (by omega)]; omega) (br_u n10 (b17 _ _ _ _ _ _ (ma_findSpots hM.1 hV.1 hM.2.1 (fun I' J' g1 g2 g3 => br_t (nI_pos' (by omega)) (b30 _ _ _ _ _ _ (br_f (nI_ge (by omega) (by omega)) (Exists.intro w (And.intro (by omega) (And.intro rfl (b50 _ _ _ _ _ _ ?_))))))))))))
  have h9 := kq I' J' (g1.M hM g2) g1.k
  rw [← g3 w hw] at h9
  exact h9
theorem M_spots2 {a : Int32} {S : SG} {I : II} {J : JJ} {Q : QT} (hM : MI S I J) (hg : ing 64 a) (hn : ¬ a = -1) (kq : PM I J Q (fnd 0 S) (.int (-1000000001))) : CT m_X12_spots 0 [.ref 74, .int a] 90 al_R0 I J Q := by
  have h1 := ing_of hg (by decide)
  have h2 : ¬ a.toInt = -1 := fun q => hn (Int32.toInt_inj.mp (q.trans m1T.symm))
  exact r_X12_spots (by decide) (fun F wk b0 b17 b30 b44 b50 => b0 _ _ _ _ _ _ (mw_f (by rw [m1T, nT (by omega)]; omega) (br_v nI_0 (ma_finding hM (k := 0) (by decide) (by decide +kernel) kq))))
theorem M_spots3 {a : Int32} {S : SG} {I : II} {J : JJ} {Q : QT} (hM : MI S I J) (hV : VS S) (ea : a = -1) (kq : PM I J Q S (.int (nI (trn S.1.1)))) : CT m_X12_spots 0 [.ref 74, .int a] 90 al_R0 I J Q := by
  subst ea
  exact r_X12_spots (by decide) (fun F wk b0 b17 b30 b44 b50 => b0 _ _ _ _ _ _ (mw_t (by rw [m1T]; omega) (by rw [m1T, nT (by omega)]; omega) (br_u n10 (b17 _ _ _ _ _ _ (ma_findSpots hM.1 hV.1 hM.2.1 (fun I' J' g1 g2 g3 => br_f (by decide +kernel) (b50 _ _ _ _ _ _ (kq I' J' (g1.M hM g2) g1.k))))))))
theorem M_spots4 {a : Int32} {w : Nat} {S : SG} {I : II} {J : JJ} {Q : QT} (hM : MI S I J) (hV : VS S) (hw : w < 64) (ea : a = nI w) (hn : trn S.1.1 ≤ w) (kq : PM I J Q (fnd 3 S) (.int (-1000000004))) : CT m_X12_spots 0 [.ref 74, .int a] 90 al_R0 I J Q := by
  subst ea
  exact r_X12_spots (by decide) (fun F wk b0 b17 b30 b44 b50 => b0 _ _ _ _ _ _ (mw_t (by rw [m1T, nT (by omega)]; omega) (by rw [nT (by omega), nT (by omega)]; omega) (br_u n10 (b17 _ _ _ _ _ _ (ma_findSpots hM.1 hV.1 hM.2.1 (fun I' J' g1 g2 g3 => br_t (nI_pos' (by omega)) (b30 _ _ _ _ _ _ (br_t (nI_le (by omega) (by omega)) (b44 _ _ _ _ _ _ (ma_finding (g1.M hM g2) (k := 3) (by decide) (by decide +kernel) (fun I2 J2 w1 w2 => b50 _ _ _ _ _ _ (kq I2 J2 w1 (g1.k.tr w2)))))))))))))
