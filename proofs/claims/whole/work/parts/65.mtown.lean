/-! THE REFERENCE: a text performed -/
def lyq (c : Nat → Nat) (S : Nat → Bool) (v q : Nat) : Nat → Nat := fun j => if j < q then lyS c S v j else c j
theorem lyq_0 {c : Nat → Nat} {S : Nat → Bool} {v : Nat} : lyq c S v 0 = c := by
  funext j
  exact if_neg (by omega)
theorem lyq_s {c : Nat → Nat} {S : Nat → Bool} {v q : Nat} : lyq c S v (q + 1) = ups (lyq c S v q) q (if S q = true then v else c q) := by
  funext j
  by_cases e : j = q
  · subst e
    rw [ups_s]
    show (if j < j + 1 then lyS c S v j else c j) = _
    rw [if_pos (by omega)]
    rfl
  · rw [ups_n e]
    show (if j < q + 1 then lyS c S v j else c j) = if j < q then lyS c S v j else c j
    by_cases h : j < q
    · rw [if_pos h, if_pos (by omega)]
    · rw [if_neg h, if_neg (by omega)]
theorem MTn.sq {b : Nat} {c c' : Nat → Nat} {t : Nat × (Nat → Nat → Int32) × (Nat → Nat → Int32)} {I : II} (h : MTn b (c, t) I) (hc : ∀ j, j < 64 → c j = c' j) : MTn b (c', t) I := ⟨fun j hj => by show I b j = nI (c' j); rw [← hc j hj]; exact h.1 j hj, h.2⟩
set_option maxHeartbeats 1000000 in
theorem ma_isSo {k : Nat} {it : IT} {T : TW} {I : II} {J : JJ} {Q : QT} (hk : k < 120) (hE : EI I J k it) (hT : MTn 75 T I) (hv : VT T) (hiv : IV T.2.1 it) (kq : ∀ I' : II, (∀ q, q ≠ 75 → I' q = I q) → MTn 75 (ap it T) I' → Q none 90 al_R0 I' J) : CT m_X12_isSo 0 [.ref 74, .int (nI k)] 90 al_R0 I J Q := by
  obtain ⟨e1, e2, e3, e4⟩ := hE
  have h6 := hv.1
  have hit : it.1 < 12 := by rcases hiv with ⟨h, -⟩ | ⟨h, -⟩ | h <;> omega
  refine r_X12_isSo (by decide) (fun F wk b0 b59 b77 b80 b119 b130 b131 b138 => ?_)
  -- the squares
  have loop : ∀ (hs : Int32), (it.1 = 10 → hs = nI (10 + T.2.1)) → ∀ (d q : Nat) (I' : II), q + d = 64 → (∀ p, p ≠ 75 → I' p = I p) → MTn 75 (lyq (ap1 it T).1 it.2.2.2 (if it.1 = 10 then 10 + T.2.1 else it.1) q, (ap1 it T).2) I' → F 80 [some (.ref 74), some (.int (nI k)), some (.int (nI it.1)), some (.int (nI it.2.1)), some (.int (nI it.2.2.1)), some (.int hs), some (.int (nI q))] [] 90 al_R0 I' J := by
    intro hs hhs d
    induction d with
    | zero =>
      intro q I' hq g1 g2
      obtain rfl : q = 64 := by omega
      refine b80 _ _ _ _ _ _ (br_t (nI_le (by omega) (by omega)) (b138 _ _ _ _ _ _ (kq I' g1 ?_)))
      unfold ap
      exact g2.sq (fun j hj => if_pos hj)
    | succ d ih =>
      intro q I' hq g1 g2
      have put : ∀ v : Nat, v = (if it.2.2.2 q = true then (if it.1 = 10 then 10 + T.2.1 else it.1) else (ap1 it T).1 q) → F 131 [some (.ref 74), some (.int (nI k)), some (.int (nI it.1)), some (.int (nI it.2.1)), some (.int (nI it.2.2.1)), some (.int hs), some (.int (nI q))] [.int (nI v), .int (nI q), .ref 75] 90 al_R0 I' J := fun v hv2 => by
        have g3 := g2.lay (q := q) (x := v) (by omega)
        rw [hv2] at g3
        have h9 := ih (q + 1) (al_up I' 75 q (nI v)) (by omega) (fun p hp => by rw [al_up_row hp]; exact g1 p hp) (by rw [lyq_s, hv2]; exact g3)
        rw [nI_s q] at h9
        exact b131 _ _ _ _ _ _ (Exists.intro q (And.intro (by omega) (And.intro rfl h9)))
      have eq0 : I' 75 q = nI ((ap1 it T).1 q) := by
        rw [g2.1 q (by omega)]
        show nI (if q < q then _ else (ap1 it T).1 q) = _
        rw [if_neg (by omega)]
      refine b80 _ _ _ _ _ _ (br_f (nI_ge (by omega) (by omega)) (Exists.intro k (And.intro hk (And.intro rfl ?_))))
      dsimp only [o_iload, o_lload, o_aload, o_istore, o_astore, o_lstore, o_iinc, o_ic, o_lc, o_sc, o_iadd, o_isub, o_imul, o_iand, o_ior, o_ixor, o_ishl, o_ishr, o_ladd, o_lsub, o_land, o_lor, o_lxor, o_lshl, o_lshr, o_i2l, o_l2i, o_lcmp, o_dup, o_dup2, o_pop, o_getI, o_getJ, o_getR, o_putI, o_putZ, o_putJ, o_iald, o_zald, o_lald, o_aald, o_iast, o_zast, o_last, o_alen, o_cpyI, o_cpyJ, o_iret, o_zret, o_lret, o_aret, o_vret, o_idiv, o_irem, o_ineg, o_ifeq, o_ifne, o_iflt, o_ifge, o_ifgt, o_ifle, o_iceq, o_icne, o_iclt, o_icge, o_icgt, o_icle, al_gL, al_sL, al_sJ, al_gd]
      rw [bit_at (show q < 64 by omega), e4 q (by omega)]
      refine And.intro (fun c => b119 _ _ _ _ _ _ ?_) (fun c => ?_)
      · rw [lg_cmp_eq, lN_b0] at c
        have c : it.2.2.2 q = true := by
          cases h : it.2.2.2 q with
          | true => rfl
          | false => exact absurd h c
        refine And.intro (fun c2 => b130 _ _ _ _ _ _ ?_) (fun c2 => ?_)
        · rw [nI_eq (by omega) (by omega)] at c2
          exact put it.1 (by rw [if_pos c, if_neg c2])
        · rw [nI_eq (by omega) (by omega)] at c2
          have h9 := put (10 + T.2.1) (by rw [if_pos c, if_pos c2])
          rw [← hhs c2] at h9
          exact h9
      · rw [lg_cmp_eq, lN_b0] at c
        have h9 := put ((ap1 it T).1 q) (by rw [if_neg (by rw [c]; decide)])
        rw [← eq0] at h9
        exact Exists.intro q (And.intro (by omega) (And.intro rfl h9))
  have go : ∀ (hs : Int32) (I' : II), (it.1 = 10 → hs = nI (10 + T.2.1)) → (∀ p, p ≠ 75 → I' p = I p) → MTn 75 (ap1 it T) I' → F 77 [some (.ref 74), some (.int (nI k)), some (.int (nI it.1)), some (.int (nI it.2.1)), some (.int (nI it.2.2.1)), some (.int hs), none] [] 90 al_R0 I' J := fun hs I' hhs g1 g2 => b77 _ _ _ _ _ _ (loop hs hhs 64 0 I' rfl g1 (by rw [lyq_0]; exact g2))
  refine b0 _ _ _ _ _ _ (Exists.intro (3 * k) (And.intro (by omega) (And.intro (by rw [pk_mul]) (Exists.intro (3 * k + 1) (And.intro (by omega) (And.intro (by rw [pk_mul, nI_add]) (Exists.intro (3 * k + 2) (And.intro (by omega) (And.intro (by rw [pk_mul, nI_add]) ?_)))))))))
  dsimp only [o_iload, o_lload, o_aload, o_istore, o_astore, o_lstore, o_iinc, o_ic, o_lc, o_sc, o_iadd, o_isub, o_imul, o_iand, o_ior, o_ixor, o_ishl, o_ishr, o_ladd, o_lsub, o_land, o_lor, o_lxor, o_lshl, o_lshr, o_i2l, o_l2i, o_lcmp, o_dup, o_dup2, o_pop, o_getI, o_getJ, o_getR, o_putI, o_putZ, o_putJ, o_iald, o_zald, o_lald, o_aald, o_iast, o_zast, o_last, o_alen, o_cpyI, o_cpyJ, o_iret, o_zret, o_lret, o_aret, o_vret, o_idiv, o_irem, o_ineg, o_ifeq, o_ifne, o_iflt, o_ifge, o_ifgt, o_ifle, o_iceq, o_icne, o_iclt, o_icge, o_icgt, o_icle, al_gL, al_sL, al_sJ, al_gd]
  rw [e1, e2, e3]
  refine And.intro (fun c => b59 _ _ _ _ _ _ ?_) (fun c => ?_)
  · rw [nI_eq (by omega) (by omega)] at c
    refine And.intro (fun c2 => ?_) (fun c2 => ?_)
    · rw [nI_eq (by omega) (by omega)] at c2
      have ea : ap1 it T = T := by unfold ap1; rw [if_neg c, if_neg c2]
      exact go _ I (fun h => absurd h c2) (fun _ _ => rfl) (by rw [ea]; exact hT)
    · rw [nI_eq (by omega) (by omega)] at c2
      have ea : ap1 it T = bld T (nI it.2.1) (nI it.2.2.1) := by unfold ap1; rw [if_neg c, if_pos c2]
      have h5 : T.2.1 < 6 := by rcases hiv with ⟨h, -⟩ | ⟨-, h, -⟩ | h <;> omega
      refine ma_founded hT h5 (fun I' g1 g2 g3 => ?_)
      dsimp only [al_pu, o_iload, o_lload, o_aload, o_istore, o_astore, o_lstore, o_iinc, o_ic, o_lc, o_sc, o_iadd, o_isub, o_imul, o_iand, o_ior, o_ixor, o_ishl, o_ishr, o_ladd, o_lsub, o_land, o_lor, o_lxor, o_lshl, o_lshr, o_i2l, o_l2i, o_lcmp, o_dup, o_dup2, o_pop, o_getI, o_getJ, o_getR, o_putI, o_putZ, o_putJ, o_iald, o_zald, o_lald, o_aald, o_iast, o_zast, o_last, o_alen, o_cpyI, o_cpyJ, o_iret, o_zret, o_lret, o_aret, o_vret, o_idiv, o_irem, o_ineg, o_ifeq, o_ifne, o_iflt, o_ifge, o_ifgt, o_ifle, o_iceq, o_icne, o_iclt, o_icge, o_icgt, o_icle, al_gL, al_sL, al_sJ, al_gd]
      rw [nI_add]
      exact go _ I' (fun _ => rfl) g2 (by rw [ea]; exact g1)
  · rw [nI_eq (by omega) (by omega)] at c
    have ea : ap1 it T = setf T it.2.1 2 (nI it.2.2.1) := by unfold ap1; rw [if_pos c]
    have h5 : it.2.1 < T.2.1 := by rcases hiv with ⟨-, h, -⟩ | ⟨h, -⟩ | h <;> omega
    refine Exists.intro (64 + 5 * it.2.1 + 2) (And.intro (by omega) (And.intro (by rw [pk_mul, nI_add, nI_add]) ?_))
    exact go _ _ (fun h => by omega) (fun p hp => al_up_row hp) (by rw [ea]; exact hT.setf (by omega) (by omega))
theorem kI.z {i : Nat} {I I' : II} {J J' : JJ} (h : kI i I J I' J') : kI 0 I J I' J' := ⟨h.1, h.2.1, fun k hk => absurd hk (by omega), h.2.2.2.1, fun k hk => absurd hk (by omega)⟩
theorem EI.keep {i k : Nat} {it : IT} {I I' : II} {J J' : JJ} (h : EI I J k it) (hk : k < i) (g : kI i I J I' J') : EI I' J' k it := ⟨by rw [g.2.2.1 _ (by omega)]; exact h.1, by rw [g.2.2.1 _ (by omega)]; exact h.2.1, by rw [g.2.2.1 _ (by omega)]; exact h.2.2.1, fun q hq => by rw [g.2.2.2.2 k hk]; exact h.2.2.2 q hq⟩
theorem TQ_of {t : Nat × (Nat → Int32)} {I : II} (h : mtp I t) (h1 : t.1 ≤ 120) (h2 : ∀ j, j < t.1 → ∃ b, b < 256 ∧ t.2 j = nI b) : TQ t.1 (tby t) I := ⟨h.1, h1, fun j hj => by
  obtain ⟨b, b1, b2⟩ := h2 j hj
  unfold tby
  rw [h.2 j hj, b2, nI_clamp (by omega)]
  exact ⟨rfl, b1⟩⟩
theorem kI.M {S : SG} {T : TW} {I I' : II} {J J' : JJ} (hM : MI S I J) (h0 : ∀ q, q ≠ 74 → q ≠ 75 → q ≠ 84 → I' q = I q) (h1 : I' 74 2 = I 74 2) (h2 : ∀ q, q ≠ 85 → J' q = J q) (hT : MTn 75 T I') (hf : mfd T.1 I' J') (h10 : I' 74 10 = nI 0) : MI (sP (sT S T) (0, S.2.2.2.1.2)) I' J' := by
  obtain ⟨m1, m2, m3, m4, m5, m6⟩ := hM
  exact ⟨hT, hf, m3.keep h1 (h0 76 (by decide) (by decide) (by decide)), ⟨h10, fun j hj => absurd hj (by show ¬ j < 0; omega)⟩, m5.keep (h0 86 (by decide) (by decide) (by decide)) (h0 87 (by decide) (by decide) (by decide)) (h2 88 (by decide)), m6.keep (h0 77 (by decide) (by decide) (by decide))⟩
set_option maxHeartbeats 2000000 in
theorem M_town {S : SG} {I : II} {J : JJ} {Q : QT} (hM : MI S I J) (hV : VS S) (k1 : (txr S).1 = true → PM I J Q (sP (sT S (apl S.1 (txr S).2.2.2 (txr S).2.2.1)) (0, S.2.2.2.1.2)) (.int (nI (txr S).2.2.1))) (k2 : (txr S).1 = false → PM I J Q (sP S (0, S.2.2.2.1.2)) (.int (-1 - nI (stk S.2.2.2.1.1 (tby S.2.2.2.1) (txr S).2.1)))) : CT m_X12_town 0 [.ref 74] 90 al_R0 I J Q := by
  have htq := TQ_of hM.2.2.2.1 hV.2.2.1.1 hV.2.2.1.2
  have hv := hV.1
  generalize hRR : txr S = R at *
  unfold txr at hRR
  generalize hn : S.2.2.2.1.1 = n at *
  generalize hy : tby S.2.2.2.1 = y at *
  have h120 := htq.2.1
  have h6 := hv.1
  refine r_X12_town (by decide) (fun F wk b0 b28 b69 b81 b82 b104 b106 b125 => ?_)
  -- all items
  have perf : ∀ (its : Nat → IT) (m : Nat), R.1 = true → R.2.2.1 = m → R.2.2.2 = its → m ≤ 120 → (∀ k, k < m → VT (apl S.1 its k) ∧ IV (apl S.1 its k).2.1 (its k)) → ∀ (I0 : II) (J0 : JJ), kI 0 I J (al_up I0 74 10 (I 74 10)) J0 → I0 74 10 = nI 0 → I0 74 20 = nI m → (∀ k, k < m → EI I0 J0 k (its k)) → ∀ (d k : Nat) (I' : II), k + d = m → (∀ q, q ≠ 75 → I' q = I0 q) → MTn 75 (apl S.1 its k) I' → F 106 [some (.ref 74), some (.int (nI k))] [] 90 al_R0 I' J0 := by
    intro its m hr1 hr2 hr3 hm hiv I0 J0 g0 g10 g20 gE d
    induction d with
    | zero =>
      intro k I' hk g1 g2
      obtain rfl : k = m := by omega
      refine b106 _ _ _ _ _ _ (br_t (by rw [g1 74 (by decide), g20]; exact nI_le (by omega) (by omega)) (b125 _ _ _ _ _ _ (And.intro (Or.inl nI_0) ?_)))
      have hx : ∀ q, q ≠ 74 → q ≠ 75 → q ≠ 84 → al_up I' 74 5 (nI 0) q = I q := fun q h1 h2 h3 => by
        rw [al_up_row h1, g1 q h2]
        have := g0.1 q h1 h3
        rw [al_up_row h1] at this
        exact this
      have h9 := k1 hr1 (al_up I' 74 5 (nI 0)) J0
      rw [hr2, hr3] at h9
      show Q (some (.int (al_up I' 74 5 (nI 0) 74 20))) 90 al_R0 (al_up I' 74 5 (nI 0)) J0
      rw [al_up_j (by decide), g1 74 (by decide), g20]
      refine h9 (kI.M hM hx ?_ g0.2.2.2.1 (g2.keep (al_up_row (by decide))) (Or.inl al_up_s) ?_) (fun p hp => ⟨hx p (by omega) (by omega) (by omega), g0.2.2.2.1 p (by omega)⟩)
      · rw [al_up_j (by decide), g1 74 (by decide)]
        have := g0.2.1 2 (by omega) (by decide) (by decide)
        rw [al_up_j (by decide)] at this
        exact this
      · rw [al_up_j (by decide), g1 74 (by decide)]
        exact g10
    | succ d ih =>
      intro k I' hk g1 g2
      obtain ⟨v1, v2⟩ := hiv k (by omega)
      have hE : EI I' J0 k (its k) := by
        obtain ⟨a1, a2, a3, a4⟩ := gE k (by omega)
        have w := g1 84 (by decide)
        exact ⟨by rw [w]; exact a1, by rw [w]; exact a2, by rw [w]; exact a3, a4⟩
      refine b106 _ _ _ _ _ _ (br_f (by rw [g1 74 (by decide), g20]; exact nI_ge (by omega) (by omega)) (ma_isSo (by omega) hE g2 v1 v2 (fun I2 q1 q2 => ?_)))
      have h9 := ih (k + 1) I2 (by omega) (fun q hq => (q1 q hq).trans (g1 q hq)) q2
      rw [nI_s k] at h9
      exact h9
  -- the end: a wrong text
  have lost : ∀ (e' : Nat) (I' : II) (J' : JJ), kI 0 I J I' J' → MS n y e' true I' → R.1 = false → R.2.1 = e' → ∀ b : Bool, F 82 [some (.ref 74), none] [.int (nI b.toNat), .ref 74] 90 al_R0 I' J' := fun e' I' J' g1 g2 r1 r2 b => by
    refine b82 _ _ _ _ _ _ (ma_must g2 (fun I2 q1 q2 => br_f ?_ ?_))
    · have q2 : MS n y e' true I2 := q2
      show ¬ al_up I2 74 10 (nI 0) 74 15 = 0
      rw [al_up_j (by decide), q2.2.2]
      exact n10
    · have q2 : MS n y e' true I2 := q2
      have hk := g1.tr (q1.i (i := 0) (J := J'))
      show Q (some (.int (-1 - al_up I2 74 10 (nI 0) 74 11))) 90 al_R0 (al_up I2 74 10 (nI 0)) J'
      rw [al_up_j (by decide), q2.2.1.2.1]
      have h9 := k2 r1 (al_up I2 74 10 (nI 0)) J'
      rw [r2] at h9
      refine h9 (kI.M hM (fun q h1 h2 h3 => ?_) ?_ hk.2.2.2.1 (hM.1.keep ?_) (hM.2.1.keep ?_ (hk.2.2.2.1 78 (by decide))) al_up_s) (fun p hp => ⟨?_, hk.2.2.2.1 p (by omega)⟩)
      · rw [al_up_row h1]; exact hk.1 q h1 h3
      · rw [al_up_j (by decide)]; exact hk.2.1 2 (by omega) (by decide) (by decide)
      · rw [al_up_row (by decide)]; exact hk.1 75 (by decide) (by decide)
      · rw [al_up_j (by decide)]; exact hk.2.1 5 (by omega) (by decide) (by decide)
      · rw [al_up_row (by omega)]; exact hk.1 p (by omega) (by omega)
  -- behind an item
  have after : ∀ (d i nh e : Nat) (its : Nat → IT) (I' : II) (J' : JJ), i + d = 120 → 2 * i ≤ e → e ≤ n → R = prf n y (d + 1) nh e i its → VT (apl S.1 its i) → (apl S.1 its i).2.1 = nh → (∀ k, k < i → VT (apl S.1 its k) ∧ IV (apl S.1 its k).2.1 (its k)) → kI 0 I J I' J' → MS n y (pit1 n y nh e).2.1 (!(pit1 n y nh e).1) I' → I' 74 20 = nI (i + 1) → ((pit1 n y nh e).1 = true → EI I' J' i (pit1 n y nh e).2.2 ∧ I' 74 21 = nI (nhs nh (pit1 n y nh e).2.2 - S.1.2.1)) → (∀ k, k < i → EI I' J' k (its k)) → S.1.2.1 ≤ nh → F 28 [some (.ref 74), none] [] 90 al_R0 I' J' := by
    intro d
    induction d with
    | zero =>
      intro i nh e its I' J' hi hie hen
      omega
    | succ d ih =>
      intro i nh e its I' J' hi hie hen hR hvi hnh hiv g1 g2 g3 g4 g5 hnn
      obtain ⟨p1, p2, p3⟩ := pit1_le (n := n) (y := y) (nh := nh) hen
      have piv := pit1_iv (n := n) (y := y) (nh := nh) (e := e)
      rw [prf] at hR
      generalize pit1 n y nh e = r at *
      cases hr1 : r.1 with
      | false =>
        rw [hr1] at g2
        have g2 : MS n y r.2.1 true I' := g2
        rw [if_neg (by rw [hr1]; decide)] at hR
        have hl := lost r.2.1 I' J' g1 g2 (by rw [hR]) (by rw [hR])
        exact b28 _ _ _ _ _ _ (br_u (by rw [g2.2.2]; exact n10) (b69 _ _ _ _ _ _ (And.intro (fun _ => b81 _ _ _ _ _ _ (hl false)) (fun _ => hl true))))
      | true =>
        rw [hr1] at g2
        have g2 : MS n y r.2.1 false I' := g2
        rw [if_pos hr1] at hR
        obtain ⟨g6, g7⟩ := g4 hr1
        have hiv1 := piv hr1
        have p3 := p3 hr1
        have hap : apl S.1 (ups its i r.2.2) (i + 1) = ap r.2.2 (apl S.1 its i) := by
          rw [apl, apl_ups (Nat.le_refl i), ups_s]
        have hvT2 : VT (apl S.1 (ups its i r.2.2) (i + 1)) := by
          rw [hap]
          exact VT_ap hvi (by rw [hnh]; exact hiv1)
        have hn2 : (apl S.1 (ups its i r.2.2) (i + 1)).2.1 = nhs nh r.2.2 := by
          rw [hap, ap_nh (by rw [hnh]; exact hiv1), hnh]
        have hiv2 : ∀ k, k < i + 1 → VT (apl S.1 (ups its i r.2.2) k) ∧ IV (apl S.1 (ups its i r.2.2) k).2.1 (ups its i r.2.2 k) := fun k hk => by
          by_cases e1 : k = i
          · subst e1
            rw [apl_ups (Nat.le_refl k), ups_s]
            exact ⟨hvi, by rw [hnh]; exact hiv1⟩
          · rw [apl_ups (by omega), ups_n e1]
            exact hiv k (by omega)
        have hE2 : ∀ k, k < i + 1 → EI I' J' k (ups its i r.2.2 k) := fun k hk => by
          by_cases e1 : k = i
          · subst e1; rw [ups_s]; exact g6
          · rw [ups_n e1]; exact g5 k (by omega)
        have kk := kdk_lt n y r.2.1
        have hs3 := skd_lt n y r.2.1
        have h13 := g2.2.1.2.2.2.1
        have h11 := g2.2.1.2.1
        -- the end of the text, or no end
        have h69 : ¬ kdk n y r.2.1 = 3 → F 69 [some (.ref 74), none] [] 90 al_R0 I' J' := fun hn3 => by
          refine b69 _ _ _ _ _ _ (And.intro (fun c => b81 _ _ _ _ _ _ ?_) (fun c => ?_))
          · rw [h13, ← nI_0, nI_eq (by omega) (by omega), skd_iff (by decide)] at c
            rw [if_neg c, if_neg hn3] at hR
            refine b82 _ _ _ _ _ _ (ma_must (b := false) g2 (fun I2 q1 q2 => br_f ?_ ?_))
            · have q2 : MS n y r.2.1 true I2 := q2
              show ¬ al_up I2 74 10 (nI 0) 74 15 = 0
              rw [al_up_j (by decide), q2.2.2]
              exact n10
            · have q2 : MS n y r.2.1 true I2 := q2
              have hk := g1.tr (q1.i (i := 0) (J := J'))
              show Q (some (.int (-1 - al_up I2 74 10 (nI 0) 74 11))) 90 al_R0 (al_up I2 74 10 (nI 0)) J'
              rw [al_up_j (by decide), q2.2.1.2.1]
              have h9 := k2 (by rw [hR]) (al_up I2 74 10 (nI 0)) J'
              rw [hR] at h9
              refine h9 (kI.M hM (fun q h1 h2 h3 => ?_) ?_ hk.2.2.2.1 (hM.1.keep ?_) (hM.2.1.keep ?_ (hk.2.2.2.1 78 (by decide))) al_up_s) (fun p hp => ⟨?_, hk.2.2.2.1 p (by omega)⟩)
              · rw [al_up_row h1]; exact hk.1 q h1 h3
              · rw [al_up_j (by decide)]; exact hk.2.1 2 (by omega) (by decide) (by decide)
              · rw [al_up_row (by decide)]; exact hk.1 75 (by decide) (by decide)
              · rw [al_up_j (by decide)]; exact hk.2.1 5 (by omega) (by decide) (by decide)
              · rw [al_up_row (by omega)]; exact hk.1 p (by omega) (by omega)
          · rw [h13, ← nI_0, nI_eq (by omega) (by omega), skd_iff (by decide)] at c
            rw [if_pos c] at hR
            refine b82 _ _ _ _ _ _ (ma_must (b := true) g2 (fun I2 q1 q2 => br_t ?_ (b104 _ _ _ _ _ _ ?_)))
            · have q2 : MS n y (enk n y r.2.1) false I2 := q2
              show al_up I2 74 10 (nI 0) 74 15 = 0
              rw [al_up_j (by decide), q2.2.2]
              exact nI_0
            · have hk := g1.tr (q1.i (i := 0) (J := J'))
              refine perf (ups its i r.2.2) (i + 1) (by rw [hR]) (by rw [hR]) (by rw [hR]) (by omega) hiv2 (al_up I2 74 10 (nI 0)) J' ⟨fun q h1 h2 => by rw [al_up_row h1, al_up_row h1]; exact hk.1 q h1 h2, fun j h1 h2 h3 => ?_, fun k hk => absurd hk (by omega), hk.2.2.2.1, fun k hk => absurd hk (by omega)⟩ al_up_s ?_ (fun k hk2 => ?_) (i + 1) 0 (al_up I2 74 10 (nI 0)) (by omega) (fun _ _ => rfl) (hM.1.keep (by rw [al_up_row (by decide)]; exact hk.1 75 (by decide) (by decide)))
              · by_cases e1 : j = 10
                · rw [e1, al_up_s]
                · rw [al_up_j e1, al_up_j e1]; exact hk.2.1 j h1 h2 h3
              · rw [al_up_j (by decide), q1.2 20 (by decide) (by decide) (by decide) (by decide) (by decide)]
                exact g3
              · obtain ⟨a1, a2, a3, a4⟩ := hE2 k hk2
                have w : al_up I2 74 10 (nI 0) 84 = I' 84 := by rw [al_up_row (by decide)]; exact q1.1 84 (by decide)
                exact ⟨by rw [w]; exact a1, by rw [w]; exact a2, by rw [w]; exact a3, a4⟩
        refine b28 _ _ _ _ _ _ (br_v (by rw [g2.2.2]; exact nI_0) (And.intro (fun c => h69 ?_) (fun c => ?_)))
        · rw [h13, nI_eq (by omega) (by omega)] at c
          unfold skd at c
          omega
        · rw [h13, nI_eq (by omega) (by omega)] at c
          have hk0 : ¬ kdk n y r.2.1 = 0 := by unfold skd at c; omega
          have fg := enk_gt (y := y) g2.2.1.1 hk0
          have fs := stk_le (y := y) g2.2.1.1
          have fe := enk_le (y := y) g2.2.1.1
          obtain ⟨y1, y2⟩ := g2.1.2.2 (stk n y r.2.1) (by omega)
          have k34 : kdk n y r.2.1 = 3 ↔ y (stk n y r.2.1) = 59 := by
            have hc := c
            unfold skd kdk at hc
            unfold kdk
            rw [if_neg (by omega)] at hc ⊢
            split at hc
            · omega
            · rename_i w1
              rw [if_neg w1]
              split at hc
              · omega
              · rename_i w2
                rw [if_neg w2]
                split
                · rename_i w3; simp [w3]
                · rename_i w3; simp [w3]
          refine Exists.intro (stk n y r.2.1) (And.intro (by omega) (And.intro h11 (And.intro (fun c2 => h69 ?_) (fun c2 => ?_))))
          · rw [y1, nI_eq (by omega) (by omega)] at c2
            exact fun w => c2 (k34.mp w)
          · rw [y1, nI_eq (by omega) (by omega)] at c2
            have hk3 := k34.mpr c2
            rw [if_neg hk0, if_pos hk3] at hR
            refine ma_must (b := true) g2 (fun I2 q1 q2 => ?_)
            have q2 : MS n y (enk n y r.2.1) false I2 := q2
            have k2' := g1.tr (q1.i (i := 0) (J := J'))
            have hnle : nh ≤ nhs nh r.2.2 := by unfold nhs; split <;> omega
            have h6' := hvT2.1
            rw [hn2] at h6'
            have esum : S.1.2.1 + (nhs nh r.2.2 - S.1.2.1) = nhs nh r.2.2 := by omega
            refine ma_readItem (i := i + 1) (hm := nhs nh r.2.2 - S.1.2.1) (nh := S.1.2.1) q2 (by omega) ((q1.2 20 (by decide) (by decide) (by decide) (by decide) (by decide)).trans g3) ((q1.2 21 (by decide) (by decide) (by decide) (by decide) (by decide)).trans g7) (by rw [k2'.1 75 (by decide) (by decide)]; exact hM.1.2.2.2) (by omega) (fun I3 J3 s1 s2 s3 s4 => ?_)
            rw [esum] at s2 s4
            refine ih (i + 1) (nhs nh r.2.2) (enk n y r.2.1) (ups its i r.2.2) I3 J3 (by omega) (by omega) fe.2 hR hvT2 hn2 hiv2 (k2'.tr s1.z) s2 s3 (fun h => ⟨(s4 h).1, ?_⟩) (fun k hk => ?_) (by omega)
            · rw [(s4 h).2]
              congr 1
              generalize nhs nh r.2.2 = N at hnle ⊢
              unfold nhs
              split <;> omega
            · have hE3 : EI I2 J' k (ups its i r.2.2 k) := by
                obtain ⟨a1, a2, a3, a4⟩ := hE2 k hk
                have w := q1.1 84 (by decide)
                exact ⟨by rw [w]; exact a1, by rw [w]; exact a2, by rw [w]; exact a3, a4⟩
              exact hE3.keep hk s1
  -- the begin
  have hk0 : kI 0 I J (al_up (al_up (al_up (al_up I 74 12 (nI 0)) 74 15 (nI 0)) 74 20 (nI 0)) 74 21 (nI 0)) J := ⟨fun q h1 h2 => by rw [al_up_row h1, al_up_row h1, al_up_row h1, al_up_row h1], fun j h1 h2 h3 => by rw [al_up_j h3, al_up_j h2, al_up_j (by omega), al_up_j (by omega)], fun k hk => absurd hk (by omega), fun _ _ => rfl, fun k hk => absurd hk (by omega)⟩
  have ht0 : TQ n y (al_up (al_up (al_up (al_up I 74 12 (nI 0)) 74 15 (nI 0)) 74 20 (nI 0)) 74 21 (nI 0)) := ⟨(hk0.2.1 10 (by omega) (by decide) (by decide)).trans htq.1, htq.2.1, fun j hj => by rw [hk0.1 81 (by decide) (by decide)]; exact htq.2.2 j hj⟩
  refine b0 _ _ _ _ _ _ (And.intro (Or.inl nI_0) (ma_next ht0 (Nat.zero_le n) (by rw [al_up_j (by decide), al_up_j (by decide), al_up_j (by decide), al_up_s]) (fun I1 g1 g2 g3 => ?_)))
  have k1' := hk0.tr (g1.i (i := 0) (J := J))
  have hS1 : MS n y 0 false I1 := ⟨g1.TQ ht0, g3, by rw [g2, al_up_j (by decide), al_up_j (by decide), al_up_s]; rfl⟩
  refine ma_readItem (i := 0) (hm := 0) (nh := S.1.2.1) hS1 (by omega) ?_ ?_ (by rw [k1'.1 75 (by decide) (by decide)]; exact hM.1.2.2.2) (by omega) (fun I2 J2 s1 s2 s3 s4 => ?_)
  · rw [g1.2 20 (by decide) (by decide) (by decide) (by decide) (by decide), al_up_j (by decide), al_up_s]
  · rw [g1.2 21 (by decide) (by decide) (by decide) (by decide) (by decide), al_up_s]
  · rw [Nat.add_zero] at s2 s4
    refine after 120 0 S.1.2.1 0 (fun _ => it0) I2 J2 rfl (Nat.le_refl _) (Nat.zero_le n) hRR.symm hv rfl (fun k hk => absurd hk (by omega)) (k1'.tr s1) s2 s3 (fun h => ⟨(s4 h).1, ?_⟩) (fun k hk => absurd hk (by omega)) (Nat.le_refl _)
    rw [(s4 h).2]
    congr 1
    unfold nhs
    split <;> omega
