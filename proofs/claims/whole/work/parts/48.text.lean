/-! THE TEXT: the class's calls -/
/-- between the calls: the town, the tape, the token -/
def PS (n : Nat) (y : Nat → Nat) (T : TW) (e : Nat) (I : II) (J : JJ) : Prop := CTn 8 T I J ∧ TP n y I ∧ LX n y e I ∧ e ≤ n
def kT (I : II) (J : JJ) (I' : II) (J' : JJ) : Prop := ∀ p, ¬ (8 ≤ p ∧ p < 23) → p ≠ 45 → I' p = I p ∧ J' p = J p
theorem kT.rf (I : II) (J : JJ) : kT I J I J := fun _ _ _ => ⟨rfl, rfl⟩
theorem kT.tr {I I' I'' : II} {J J' J'' : JJ} (h1 : kT I J I' J') (h2 : kT I' J' I'' J'') : kT I J I'' J'' := fun p a b => ⟨((h2 p a b).1).trans (h1 p a b).1, ((h2 p a b).2).trans (h1 p a b).2⟩
theorem k45.kT {I I' : II} {J : JJ} (h : k45 I I') : kT I J I' J := fun p _ b => ⟨h.1 p b, rfl⟩
theorem k45.C {T : TW} {I I' : II} {J : JJ} (h : k45 I I') (hT : CTn 8 T I J) : CTn 8 T I' J := hT.keep (fun p h1 h2 => ⟨h.1 p (by omega), rfl⟩)
theorem tp_adv {n : Nat} {y : Nat → Nat} {T : TW} {e : Nat} {I : II} {J : JJ} {Q : QT} (h : PS n y T e I J) (kq : ∀ I' : II, PS n y T (enk n y e) I' J → kT I J I' J → Q none 90 al_R0 I' J) : CT m_X10_advance 0 [.ref 45] 90 al_R0 I J Q := by
  obtain ⟨h1, h2, h3, h4⟩ := h
  have a2 := enk_le (y := y) h4
  exact ca_advance h2 a2.2 h3.2.1 (fun I' g1 g2 => kq I' ⟨g1.C h1, g1.TP h2, g2, a2.2⟩ g1.kT)
/-- a square laid while the text is read -/
theorem tp_lay {n : Nat} {y : Nat → Nat} {T : TW} {e q x : Nat} {I : II} {J : JJ} {Q : QT} (h : PS n y T e I J) (hq : q < 64) (hx : x < 16) (kq : ∀ (I' : II) (J' : JJ), PS n y (ups T.1 q x, T.2) e I' J' → kT I J I' J' → I' 45 = I 45 → Q none 90 al_R0 I' J') : CT m_X9_lay 0 [.ref 8, .int (nI q), .int (nI x)] 90 al_R0 I J Q := by
  obtain ⟨h1, h2, h3, h4⟩ := h
  refine ca_lay hq hx h1.2.2.1 (fun s w hm => kq _ _ ⟨CTn.lay h1 hm, ?_, ?_, h4⟩ (fun p a b => ⟨al_up_row (by omega), by rw [al_up_row (by omega), al_up_row (by omega)]⟩) (al_up_row (by decide)))
  · unfold TP at h2 ⊢
    rw [al_up_row (by decide), al_up_row (by decide)]
    exact h2
  · unfold LX at h3 ⊢
    rw [al_up_row (by decide)]
    exact h3
theorem PS.vl {n : Nat} {y : Nat → Nat} {T : TW} {e : Nat} {I : II} {J : JJ} (h : PS n y T e I J) (hk : kdk n y e = 2) : I 45 7 = nI (vlk n y e) := h.2.2.1.2.2.2 hk
theorem lyS_ups {c : Nat → Nat} {S : Nat → Bool} {v q : Nat} : ups (lyS c S v) q v = lyS c (ups S q true) v := by
  funext j
  by_cases e : j = q
  · subst e; simp [ups, lyS]
  · simp [ups, lyS, e]
theorem ca_takesSquares {n : Nat} {y : Nat → Nat} {T : TW} {e v : Nat} {I : II} {J : JJ} {Q : QT} (h : PS n y T e I J) (hv : v < 16) (kq : ∀ (I' : II) (J' : JJ) (T' : TW), PS n y T' (sqs n y e).2.1 I' J' → ((sqs n y e).1 = true → T' = (lyS T.1 (sqs n y e).2.2 v, T.2)) → kT I J I' J' → Q (some (.int (nI (sqs n y e).1.toNat))) 90 al_R0 I' J') : CT m_X10_takesSquares 0 [.ref 45, .int (nI v)] 90 al_R0 I J Q := by
  have h120 := h.2.1.2.1
  refine r_X10_takesSquares (by decide) (fun F wk b0 b4 b22 b36 b60 b77 b79 b97 b101 b124 => ?_)
  generalize hR : sq1 n y 64 0 e noS = R
  have hsq : sqs n y e = sqt n y R := by unfold sqs; rw [hR]
  rw [hsq] at kq
  -- behind the row of numbers
  have h60 : ∀ (e' m : Nat) (S : Nat → Bool) (x k : Int32) (I' : II) (J' : JJ), R = (true, e', m, S) → x + nI 1 = nI m → m ≤ 64 → PS n y (lyS T.1 S v, T.2) e' I' J' → kT I J I' J' → F 60 [some (.ref 45), some (.int (nI v)), some (.int x), some (.int k)] [] 90 al_R0 I' J' := by
    intro e' m S x k I' J' hr hx hm g1 g2
    rw [hr] at kq
    have kk := kdk_lt n y e'
    have no : ¬ (kdk n y e' = 1 ∧ isw n y e' 12 = true) → F 77 [some (.ref 45), some (.int (nI v)), some (.int x), some (.int k)] [] 90 al_R0 I' J' := fun q => by
      have e1 : sqt n y (true, e', m, S) = (true, e', S) := if_neg (fun w => q w.2)
      rw [e1] at kq
      exact b77 _ _ _ _ _ _ (And.intro (Or.inr nI_1') (kq I' J' _ g1 (fun _ => rfl) g2))
    refine b60 _ _ _ _ _ _ (And.intro (fun c => no ?_) (fun c => ?_))
    · rw [g1.2.2.1.2.2.1, nI_eq (by omega) (by omega)] at c
      exact fun w => c w.1
    rw [g1.2.2.1.2.2.1, nI_eq (by omega) (by omega)] at c
    refine ca_isWord (w := 12) g1.2.1 g1.2.2.2 g1.2.2.1 (by decide) (And.intro (fun c2 => b79 _ _ _ _ _ _ ?_) (fun c2 => no (fun w => by rw [bz_f c2] at w; exact absurd w.2 (by decide))))
    have hw := bz_t c2
    refine tp_adv g1 (fun I2 g3 g4 => ?_)
    have hcond : (true, e', m, S).1 = true ∧ kdk n y (true, e', m, S).2.1 = 1 ∧ isw n y (true, e', m, S).2.1 12 = true := ⟨rfl, c, hw⟩
    have hvl := vlk_le n y (enk n y e')
    dsimp only [al_pu, o_iload, o_lload, o_aload, o_istore, o_astore, o_lstore, o_iinc, o_ic, o_lc, o_sc, o_iadd, o_isub, o_imul, o_iand, o_ior, o_ixor, o_ishl, o_ishr, o_ladd, o_lsub, o_land, o_lor, o_lxor, o_lshl, o_lshr, o_i2l, o_l2i, o_lcmp, o_dup, o_dup2, o_pop, o_getI, o_getJ, o_getR, o_putI, o_putZ, o_putJ, o_iald, o_zald, o_lald, o_aald, o_iast, o_zast, o_last, o_alen, o_cpyI, o_cpyJ, o_iret, o_zret, o_lret, o_aret, o_vret, o_idiv, o_irem, o_ineg, o_ifeq, o_ifne, o_iflt, o_ifge, o_ifgt, o_ifle, o_iceq, o_icne, o_iclt, o_icge, o_icgt, o_icle, al_gL, al_sL, al_sJ, al_gd]
    rw [hx]
    refine ca_isNumberWithin g3.2.2.1 (fun c3 c4 c5 => br_u (by decide +kernel) (b97 _ _ _ _ _ _ ?_)) (fun c3 => br_v nI_0 (And.intro (Or.inl nI_0) ?_))
    · rw [nI_leI (by omega) (by omega)] at c4 c5
      have hp : pnum n y (enk n y e') m 64 = true := pnum_iff.mpr ⟨c3, c4, by omega⟩
      have e1 : sqt n y (true, e', m, S) = (true, enk n y (enk n y e'), fun j => S j || (decide (m ≤ j) && decide (j < vlk n y (enk n y e') + 1))) := by
        unfold sqt
        rw [if_pos hcond, if_pos hp]
      rw [e1] at kq
      have loop : ∀ (d i : Nat) (I3 : II) (J3 : JJ), i + d = vlk n y (enk n y e') + 1 → m ≤ i → PS n y (lyS T.1 (fun j => S j || (decide (m ≤ j) && decide (j < i))) v, T.2) (enk n y e') I3 J3 → kT I J I3 J3 → F 101 [some (.ref 45), some (.int (nI v)), some (.int x), some (.int (nI i))] [] 90 al_R0 I3 J3 := by
        intro d
        induction d with
        | zero =>
          intro i I3 J3 hi hmi g5 g6
          obtain rfl : i = vlk n y (enk n y e') + 1 := by omega
          refine b101 _ _ _ _ _ _ (br_t (by rw [g5.vl c3]; exact nI_lt (by omega) (by omega)) (b124 _ _ _ _ _ _ (tp_adv g5 (fun I4 g7 g8 => And.intro (Or.inr nI_1') (kq I4 J3 _ g7 (fun _ => rfl) (g6.tr g8))))))
        | succ d ih =>
          intro i I3 J3 hi hmi g5 g6
          refine b101 _ _ _ _ _ _ (br_f (by rw [g5.vl c3]; exact nI_nlt (by omega) (by omega)) (tp_lay g5 (by omega) hv (fun I4 J4 g7 g8 g9 => ?_)))
          have h9 := ih (i + 1) I4 J4 (by omega) (by omega) (by
            have e2 : ups (lyS T.1 (fun j => S j || (decide (m ≤ j) && decide (j < i))) v) i v = lyS T.1 (fun j => S j || (decide (m ≤ j) && decide (j < i + 1))) v := by
              funext j
              by_cases q : j = i
              · subst q
                simp [ups, lyS, hmi]
              · show (if j = i then v else if (S j || (decide (m ≤ j) && decide (j < i))) = true then v else T.1 j) = if (S j || (decide (m ≤ j) && decide (j < i + 1))) = true then v else T.1 j
                rw [if_neg q, show decide (j < i + 1) = decide (j < i) from decide_eq_decide.mpr (by omega)]
            rw [← e2]
            exact g7) (g6.tr g8)
          rw [nI_s i] at h9
          exact h9
      dsimp only [k_X10_takesSquares_97, o_iload, o_lload, o_aload, o_istore, o_astore, o_lstore, o_iinc, o_ic, o_lc, o_sc, o_iadd, o_isub, o_imul, o_iand, o_ior, o_ixor, o_ishl, o_ishr, o_ladd, o_lsub, o_land, o_lor, o_lxor, o_lshl, o_lshr, o_i2l, o_l2i, o_lcmp, o_dup, o_dup2, o_pop, o_getI, o_getJ, o_getR, o_putI, o_putZ, o_putJ, o_iald, o_zald, o_lald, o_aald, o_iast, o_zast, o_last, o_alen, o_cpyI, o_cpyJ, o_iret, o_zret, o_lret, o_aret, o_vret, o_idiv, o_irem, o_ineg, o_ifeq, o_ifne, o_iflt, o_ifge, o_ifgt, o_ifle, o_iceq, o_icne, o_iclt, o_icge, o_icgt, o_icle, al_gL, al_sL, al_sJ, al_gd]
      rw [hx]
      have h9 := loop (vlk n y (enk n y e') + 1 - m) m I2 J' (by omega) (Nat.le_refl m) (by
        have e2 : lyS T.1 (fun j => S j || (decide (m ≤ j) && decide (j < m))) v = lyS T.1 S v := by
          funext j
          unfold lyS
          have : (decide (m ≤ j) && decide (j < m)) = false := by
            rcases Nat.lt_or_ge j m with q | q
            · rw [decide_eq_false (show ¬ m ≤ j by omega)]; rfl
            · rw [decide_eq_false (show ¬ j < m by omega)]; simp
          simp only [this, Bool.or_false]
        rw [e2]
        exact g3) (g2.tr g4)
      exact h9
    · have hp : ¬ pnum n y (enk n y e') m 64 = true := fun w => by
        rw [pnum_iff] at w
        exact c3 ⟨w.1, nI_le w.2.1 (by omega), nI_le (by omega) (by omega)⟩
      have e1 : sqt n y (true, e', m, S) = (false, enk n y e', S) := by
        unfold sqt
        rw [if_pos hcond, if_neg hp]
      rw [e1] at kq
      exact kq I2 J' _ g3 (fun q => absurd (show false = true from q) (by decide)) (g2.tr g4)
  have h22 : ∀ (d k : Nat) (e' m : Nat) (S : Nat → Bool) (x : Int32) (I' : II) (J' : JJ), k + d = 63 → R = sq1 n y (d + 1) m e' S → x + nI 1 = nI m → m ≤ 64 → (k = 0 ∨ (2 * k ≤ e' + 1 ∧ ∃ ep, ep ≤ n ∧ kdk n y ep = 2 ∧ e' = enk n y ep)) → PS n y (lyS T.1 S v, T.2) e' I' J' → kT I J I' J' → F 22 [some (.ref 45), some (.int (nI v)), some (.int x), some (.int (nI k))] [] 90 al_R0 I' J' := by
    intro d
    induction d with
    | zero =>
      intro k e' m S x I' J' hk hr hx hm hpos g1 g2
      have hle := g1.2.2.2
      omega
    | succ d ih =>
      intro k e' m S x I' J' hk hr hx hm hpos g1 g2
      have hle := g1.2.2.2
      have hvl := vlk_le n y e'
      rw [sq1] at hr
      refine b22 _ _ _ _ _ _ ?_
      dsimp only [k_X10_takesSquares_22, o_iload, o_lload, o_aload, o_istore, o_astore, o_lstore, o_iinc, o_ic, o_lc, o_sc, o_iadd, o_isub, o_imul, o_iand, o_ior, o_ixor, o_ishl, o_ishr, o_ladd, o_lsub, o_land, o_lor, o_lxor, o_lshl, o_lshr, o_i2l, o_l2i, o_lcmp, o_dup, o_dup2, o_pop, o_getI, o_getJ, o_getR, o_putI, o_putZ, o_putJ, o_iald, o_zald, o_lald, o_aald, o_iast, o_zast, o_last, o_alen, o_cpyI, o_cpyJ, o_iret, o_zret, o_lret, o_aret, o_vret, o_idiv, o_irem, o_ineg, o_ifeq, o_ifne, o_iflt, o_ifge, o_ifgt, o_ifle, o_iceq, o_icne, o_iclt, o_icge, o_icgt, o_icle, al_gL, al_sL, al_sJ, al_gd]
      rw [hx]
      refine ca_isNumberWithin g1.2.2.1 (fun c3 c4 c5 => br_u (by decide +kernel) (b36 _ _ _ _ _ _ ?_)) (fun c3 => br_v nI_0 (And.intro (Or.inl nI_0) ?_))
      · rw [nI_leI (by omega) (by omega)] at c4 c5
        have hp : pnum n y e' m 64 = true := pnum_iff.mpr ⟨c3, c4, by omega⟩
        rw [if_pos hp] at hr
        have hvv := g1.vl c3
        dsimp only [k_X10_takesSquares_36, o_iload, o_lload, o_aload, o_istore, o_astore, o_lstore, o_iinc, o_ic, o_lc, o_sc, o_iadd, o_isub, o_imul, o_iand, o_ior, o_ixor, o_ishl, o_ishr, o_ladd, o_lsub, o_land, o_lor, o_lxor, o_lshl, o_lshr, o_i2l, o_l2i, o_lcmp, o_dup, o_dup2, o_pop, o_getI, o_getJ, o_getR, o_putI, o_putZ, o_putJ, o_iald, o_zald, o_lald, o_aald, o_iast, o_zast, o_last, o_alen, o_cpyI, o_cpyJ, o_iret, o_zret, o_lret, o_aret, o_vret, o_idiv, o_irem, o_ineg, o_ifeq, o_ifne, o_iflt, o_ifge, o_ifgt, o_ifle, o_iceq, o_icne, o_iclt, o_icge, o_icgt, o_icle, al_gL, al_sL, al_sJ, al_gd]
        show al_isC _ _ _ _
        refine al_isC_in rfl ?_
        rw [hvv]
        refine tp_lay g1 (by omega) hv (fun I2 J2 g3 g4 g5 => ?_)
        rw [lyS_ups] at g3
        refine tp_adv g3 (fun I3 g6 g7 => ?_)
        have a2 := enk_le (y := y) hle
        have a1 := stk_le (y := y) hle
        have a3 := enk_gt (y := y) hle (by rw [c3]; decide)
        have hpos' : 2 * (k + 1) ≤ enk n y e' + 1 := by
          rcases hpos with q | ⟨q, ep, q1, q2, q3⟩
          · omega
          · have := num_gap (y := y) q1 q2 (by rw [← q3]; exact c3)
            rw [← q3] at this
            omega
        have kk := kdk_lt n y (enk n y e')
        dsimp only [al_pu, o_iload, o_lload, o_aload, o_istore, o_astore, o_lstore, o_iinc, o_ic, o_lc, o_sc, o_iadd, o_isub, o_imul, o_iand, o_ior, o_ixor, o_ishl, o_ishr, o_ladd, o_lsub, o_land, o_lor, o_lxor, o_lshl, o_lshr, o_i2l, o_l2i, o_lcmp, o_dup, o_dup2, o_pop, o_getI, o_getJ, o_getR, o_putI, o_putZ, o_putJ, o_iald, o_zald, o_lald, o_aald, o_iast, o_zast, o_last, o_alen, o_cpyI, o_cpyJ, o_iret, o_zret, o_lret, o_aret, o_vret, o_idiv, o_irem, o_ineg, o_ifeq, o_ifne, o_iflt, o_ifge, o_ifgt, o_ifle, o_iceq, o_icne, o_iclt, o_icge, o_icgt, o_icle, al_gL, al_sL, al_sJ, al_gd]
        rw [← nI_s k]
        refine b4 _ _ _ _ _ _ (br_f (by rw [← nI_0, nI_eq (by omega) (by omega)]; omega) ?_)
        have hend : ¬ kdk n y (enk n y e') = 2 → F 60 [some (.ref 45), some (.int (nI v)), some (.int (nI (vlk n y e'))), some (.int (nI (k + 1)))] [] 90 al_R0 I3 J2 := fun q => by
          rw [if_neg q] at hr
          exact h60 _ _ _ _ _ I3 J2 hr (nI_s _).symm (by omega) g6 ((g2.tr g4).tr g7)
        refine br_f (nI_ge (by omega) (by omega)) (And.intro (fun c6 => hend ?_) (fun c6 => ?_))
        · rw [g6.2.2.1.2.2.1, nI_eq (by omega) (by omega)] at c6
          exact c6
        · rw [g6.2.2.1.2.2.1, nI_eq (by omega) (by omega)] at c6
          rw [if_pos c6] at hr
          exact ih (k + 1) _ _ _ _ I3 J2 (by omega) hr (nI_s _).symm (by omega) (Or.inr ⟨hpos', e', hle, c3, rfl⟩) g6 ((g2.tr g4).tr g7)
      · have hp : ¬ pnum n y e' m 64 = true := fun w => by
          rw [pnum_iff] at w
          exact c3 ⟨w.1, nI_le w.2.1 (by omega), nI_le (by omega) (by omega)⟩
        rw [if_neg hp] at hr
        rw [hr] at kq
        have e1 : sqt n y (false, e', m, S) = (false, e', S) := if_neg (fun w => absurd (show false = true from w.1) (by decide))
        rw [e1] at kq
        exact kq I' J' _ g1 (fun q => absurd (show false = true from q) (by decide)) g2
  refine b0 _ _ _ _ _ _ (b4 _ _ _ _ _ _ (br_t nI_0 ?_))
  exact h22 63 0 e 0 noS (-1) I J rfl hR.symm m1_s (by omega) (Or.inl rfl) h (kT.rf I J)
