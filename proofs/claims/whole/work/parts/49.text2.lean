/-! THE TEXT: items, the whole -/
theorem ca_plainSquare {n : Nat} {y : Nat → Nat} {T : TW} {e : Nat} {I : II} {J : JJ} {Q : QT} (h : PS n y T e I J) (kq : Q (some (.int (if plw n y e < 4 then nI (plw n y e) else -1))) 90 al_R0 I J) : CT m_X10_plainSquare 0 [.ref 45] 90 al_R0 I J Q := by
  refine r_X10_plainSquare (by decide) (fun F wk b0 b11 b22 b33 b46 b47 => ?_)
  have hit : ∀ w, w < 4 → (∀ j, j < w → isw n y e j = false) → isw n y e w = true → plw n y e = w := fun w h1 h2 h3 => fnx_eq (P := fun w => isw n y e w) (s := 0) (d := 4) (fun j _ hj => h2 j hj) (by omega) (by omega) h3
  refine b0 _ _ _ _ _ _ (ca_isWord (w := 0) h.2.1 h.2.2.2 h.2.2.1 (by decide) (And.intro (fun c0 => b11 _ _ _ _ _ _ (ca_isWord (w := 1) h.2.1 h.2.2.2 h.2.2.1 (by decide) (And.intro (fun c1 => b22 _ _ _ _ _ _ (ca_isWord (w := 2) h.2.1 h.2.2.2 h.2.2.1 (by decide) (And.intro (fun c2 => b33 _ _ _ _ _ _ (ca_isWord (w := 3) h.2.1 h.2.2.2 h.2.2.1 (by decide) (And.intro (fun c3 => b46 _ _ _ _ _ _ (b47 _ _ _ _ _ _ ?_)) (fun c3 => b47 _ _ _ _ _ _ ?_)))) (fun c2 => ?_)))) (fun c1 => ?_)))) (fun c0 => ?_)))
  · have : plw n y e = 4 := fnx_none (P := fun w => isw n y e w) (s := 0) (d := 4) (fun j _ hj => by
      rcases (show j = 0 ∨ j = 1 ∨ j = 2 ∨ j = 3 by omega) with rfl | rfl | rfl | rfl
      · exact bz_f c0
      · exact bz_f c1
      · exact bz_f c2
      · exact bz_f c3)
    rw [this, if_neg (by omega)] at kq
    exact kq
  · rw [hit 3 (by omega) (fun j hj => by
      rcases (show j = 0 ∨ j = 1 ∨ j = 2 by omega) with rfl | rfl | rfl
      · exact bz_f c0
      · exact bz_f c1
      · exact bz_f c2) (bz_t c3), if_pos (by omega)] at kq
    exact kq
  · rw [hit 2 (by omega) (fun j hj => by
      rcases (show j = 0 ∨ j = 1 by omega) with rfl | rfl
      · exact bz_f c0
      · exact bz_f c1) (bz_t c2), if_pos (by omega)] at kq
    exact kq
  · rw [hit 1 (by omega) (fun j hj => by
      rw [show j = 0 by omega]
      exact bz_f c0) (bz_t c1), if_pos (by omega)] at kq
    exact kq
  · rw [hit 0 (by omega) (fun j hj => absurd hj (by omega)) (bz_t c0), if_pos (by omega)] at kq
    exact kq
theorem ca_kindNamed {n : Nat} {y : Nat → Nat} {T : TW} {e : Nat} {I : II} {J : JJ} {Q : QT} (h : PS n y T e I J) (kq : Q (some (.int (if knd n y e < 6 then nI (knd n y e) else -1))) 90 al_R0 I J) : CT m_X10_kindNamed 0 [.ref 45] 90 al_R0 I J Q := by
  refine r_X10_kindNamed (by decide) (fun F wk b0 b2 b29 b35 => ?_)
  have loop : ∀ d i : Nat, i + d = 6 → (∀ j, j < i → isw n y e (4 + j) = false) → F 2 [some (.ref 45), some (.int (nI i))] [] 90 al_R0 I J := by
    intro d
    induction d with
    | zero =>
      intro i hi hno
      obtain rfl : i = 6 := by omega
      have : knd n y e = 6 := fnx_none (P := fun k => isw n y e (4 + k)) (s := 0) (d := 6) (fun j _ hj => hno j (by omega))
      rw [this, if_neg (by omega)] at kq
      exact b2 _ _ _ _ _ _ (br_t (nI_le (by omega) (by omega)) (b35 _ _ _ _ _ _ kq))
    | succ d ih =>
      intro i hi hno
      refine b2 _ _ _ _ _ _ (br_f (nI_ge (by omega) (by omega)) (Exists.intro i (And.intro (by omega) (And.intro rfl (al_rk_in (law_R i (by omega)) ?_)))))
      dsimp only [o_iload, o_lload, o_aload, o_istore, o_astore, o_lstore, o_iinc, o_ic, o_lc, o_sc, o_iadd, o_isub, o_imul, o_iand, o_ior, o_ixor, o_ishl, o_ishr, o_ladd, o_lsub, o_land, o_lor, o_lxor, o_lshl, o_lshr, o_i2l, o_l2i, o_lcmp, o_dup, o_dup2, o_pop, o_getI, o_getJ, o_getR, o_putI, o_putZ, o_putJ, o_iald, o_zald, o_lald, o_aald, o_iast, o_zast, o_last, o_alen, o_cpyI, o_cpyJ, o_iret, o_zret, o_lret, o_aret, o_vret, o_idiv, o_irem, o_ineg, o_ifeq, o_ifne, o_iflt, o_ifge, o_ifgt, o_ifle, o_iceq, o_icne, o_iclt, o_icge, o_icgt, o_icle, al_gL, al_sL, al_sJ, al_gd, o_cU, al_pop, al_hd, al_pu]
      have hw := cl_title (R := al_R0) (I := I) (J := J) (kd := i) (Q := fun v n' R' I' J' => al_pu v [.ref 45] (fun st' => o_cV 10 m_X10_isWord 2 (o_ifeq (F 29) (o_iload 1 (o_iret Q))) [some (.ref 45), some (.int (nI i))] st' n' R' I' J')) (by omega) (by
        show o_cV 10 m_X10_isWord 2 _ _ [.ref (2004 + i), .ref 45] _ _ _ _
        rw [show 2004 + i = 2000 + (4 + i) by omega]
        refine ca_isWord (w := 4 + i) h.2.1 h.2.2.2 h.2.2.1 (by omega) (And.intro (fun c => ?_) (fun c => ?_))
        · have h9 := ih (i + 1) (by omega) (fun j hj => by
            by_cases q : j = i
            · subst q; exact bz_f c
            · exact hno j (by omega))
          rw [nI_s i] at h9
          exact b29 _ _ _ _ _ _ h9
        · have : knd n y e = i := fnx_eq (P := fun k => isw n y e (4 + k)) (s := 0) (d := 6) (fun j _ hj => hno j hj) (by omega) (by omega) (bz_t c)
          rw [this, if_pos (by omega)] at kq
          exact kq)
      obtain ⟨ci, e1, e2, e3⟩ := al_rk_of hw
      exact al_rk_in e1 (And.intro e2 (al_r8_in (by decide) e3))
  exact b0 _ _ _ _ _ _ (loop 6 0 rfl (fun j hj => absurd hj (by omega)))
theorem PS.put {n : Nat} {y : Nat → Nat} {T T' : TW} {e : Nat} {I I' : II} {J : JJ} (h : PS n y T e I J) (hT : CTn 8 T' I' J) (hk : ∀ p, ¬ (8 ≤ p ∧ p < 23) → I' p = I p) : PS n y T' e I' J := by
  obtain ⟨h1, h2, h3, h4⟩ := h
  refine ⟨hT, ?_, ?_, h4⟩
  · unfold TP at h2 ⊢
    rw [hk 45 (by omega), hk 61 (by omega)]
    exact h2
  · unfold LX at h3 ⊢
    rw [hk 45 (by omega)]
    exact h3
theorem ca_takesHouse {n : Nat} {y : Nat → Nat} {T : TW} {e k : Nat} {I : II} {J : JJ} {Q : QT} (h : PS n y T e I J) (hn : T.2.1 ≤ 6) (k1 : T.2.1 < 6 → pnum n y (enk n y e) 1 100 = true → ∀ I' : II, PS n y (bld T (nI k) (nI (vlk n y (enk n y e)))) (enk n y (enk n y e)) I' J → kT I J I' J → Q (some (.int (nI 1))) 90 al_R0 I' J) (k2 : T.2.1 < 6 → pnum n y (enk n y e) 1 100 = false → ∀ I' : II, PS n y T (enk n y e) I' J → kT I J I' J → Q (some (.int (nI 0))) 90 al_R0 I' J) (k3 : 6 ≤ T.2.1 → Q (some (.int (nI 0))) 90 al_R0 I J) : CT m_X10_takesHouse 0 [.ref 45, .int (nI k)] 90 al_R0 I J Q := by
  refine r_X10_takesHouse (by decide) (fun F wk b0 b14 b30 => ?_)
  refine b0 _ _ _ _ _ _ (And.intro (fun c => b14 _ _ _ _ _ _ (tp_adv h (fun I1 g1 g2 => ?_))) (fun c => And.intro (Or.inl nI_0) (k3 ?_)))
  · rw [h.1.1, nI_ltI (by omega) (by omega)] at c
    have hvl := vlk_le n y (enk n y e)
    refine ca_isNumberWithin g1.2.2.1 (fun c3 c4 c5 => br_u (by decide +kernel) (b30 _ _ _ _ _ _ ?_)) (fun c3 => br_v nI_0 (And.intro (Or.inl nI_0) (k2 c ?_ I1 g1 g2)))
    · rw [nI_leI (by omega) (by omega)] at c4 c5
      have hp : pnum n y (enk n y e) 1 100 = true := pnum_iff.mpr ⟨c3, c4, by omega⟩
      dsimp only [k_X10_takesHouse_30, o_iload, o_lload, o_aload, o_istore, o_astore, o_lstore, o_iinc, o_ic, o_lc, o_sc, o_iadd, o_isub, o_imul, o_iand, o_ior, o_ixor, o_ishl, o_ishr, o_ladd, o_lsub, o_land, o_lor, o_lxor, o_lshl, o_lshr, o_i2l, o_l2i, o_lcmp, o_dup, o_dup2, o_pop, o_getI, o_getJ, o_getR, o_putI, o_putZ, o_putJ, o_iald, o_zald, o_lald, o_aald, o_iast, o_zast, o_last, o_alen, o_cpyI, o_cpyJ, o_iret, o_zret, o_lret, o_aret, o_vret, o_idiv, o_irem, o_ineg, o_ifeq, o_ifne, o_iflt, o_ifge, o_ifgt, o_ifle, o_iceq, o_icne, o_iclt, o_icge, o_icgt, o_icle, al_gL, al_sL, al_sJ, al_gd]
      show al_isC _ _ _ _
      refine al_isC_in rfl (al_rk_in (q := 8) rfl (al_isC_in rfl ?_))
      rw [g1.vl c3]
      refine ca_build g1.1 c (fun I2 g3 g4 => ?_)
      refine tp_adv (g1.put g3 g4) (fun I3 g5 g6 => And.intro (Or.inr nI_1') (k1 c hp I3 g5 ((g2.tr (fun p a b => ⟨g4 p a, rfl⟩)).tr g6)))
    · cases q : pnum n y (enk n y e) 1 100 with
      | false => rfl
      | true =>
        rw [pnum_iff] at q
        exact absurd ⟨q.1, nI_le q.2.1 (by omega), nI_le (by omega) (by omega)⟩ c3
  · rw [h.1.1, nI_ltI (by omega) (by omega)] at c
    omega
theorem ca_takesWealth {n : Nat} {y : Nat → Nat} {T : TW} {e : Nat} {I : II} {J : JJ} {Q : QT} (h : PS n y T e I J) (hn : T.2.1 ≤ 6) (kq : ∀ (I' : II) (T' : TW), PS n y T' (prc n y T.2.1 e).2.1 I' J → ((prc n y T.2.1 e).1 = true → T' = ap1 (prc n y T.2.1 e).2.2 T) → kT I J I' J → Q (some (.int (nI (prc n y T.2.1 e).1.toNat))) 90 al_R0 I' J) : CT m_X10_takesWealth 0 [.ref 45] 90 al_R0 I J Q := by
  unfold prc at kq
  refine r_X10_takesWealth (by decide) (fun F wk b0 b23 b45 => ?_)
  refine b0 _ _ _ _ _ _ (tp_adv h (fun I1 g1 g2 => ?_))
  have hvl := vlk_le n y (enk n y e)
  have hm1 : (nI T.2.1 - nI 1).toInt = (T.2.1 : Int) - 1 := i_sub (by omega) (by omega)
  dsimp only [al_pu, o_iload, o_lload, o_aload, o_istore, o_astore, o_lstore, o_iinc, o_ic, o_lc, o_sc, o_iadd, o_isub, o_imul, o_iand, o_ior, o_ixor, o_ishl, o_ishr, o_ladd, o_lsub, o_land, o_lor, o_lxor, o_lshl, o_lshr, o_i2l, o_l2i, o_lcmp, o_dup, o_dup2, o_pop, o_getI, o_getJ, o_getR, o_putI, o_putZ, o_putJ, o_iald, o_zald, o_lald, o_aald, o_iast, o_zast, o_last, o_alen, o_cpyI, o_cpyJ, o_iret, o_zret, o_lret, o_aret, o_vret, o_idiv, o_irem, o_ineg, o_ifeq, o_ifne, o_iflt, o_ifge, o_ifgt, o_ifle, o_iceq, o_icne, o_iclt, o_icge, o_icgt, o_icle, al_gL, al_sL, al_sJ, al_gd]
  show al_isC _ _ _ _
  refine al_isC_in rfl (al_rk_in (q := 8) rfl (al_isC_in rfl ?_))
  rw [g1.1.1]
  refine ca_isNumberWithin g1.2.2.1 (fun c3 c4 c5 => br_u (by decide +kernel) (b23 _ _ _ _ _ _ ?_)) (fun c3 => br_v nI_0 (And.intro (Or.inl nI_0) ?_))
  · rw [Int32.le_iff_toInt_le, hm1, nI_toInt (by omega)] at c5
    have hp : pnum n y (enk n y e) 0 T.2.1 = true := pnum_iff.mpr ⟨c3, by omega, by omega⟩
    rw [if_pos hp] at kq
    dsimp only [k_X10_takesWealth_23, o_iload, o_lload, o_aload, o_istore, o_astore, o_lstore, o_iinc, o_ic, o_lc, o_sc, o_iadd, o_isub, o_imul, o_iand, o_ior, o_ixor, o_ishl, o_ishr, o_ladd, o_lsub, o_land, o_lor, o_lxor, o_lshl, o_lshr, o_i2l, o_l2i, o_lcmp, o_dup, o_dup2, o_pop, o_getI, o_getJ, o_getR, o_putI, o_putZ, o_putJ, o_iald, o_zald, o_lald, o_aald, o_iast, o_zast, o_last, o_alen, o_cpyI, o_cpyJ, o_iret, o_zret, o_lret, o_aret, o_vret, o_idiv, o_irem, o_ineg, o_ifeq, o_ifne, o_iflt, o_ifge, o_ifgt, o_ifle, o_iceq, o_icne, o_iclt, o_icge, o_icgt, o_icle, al_gL, al_sL, al_sJ, al_gd]
    show al_isC _ _ _ _
    refine al_isC_in rfl ?_
    rw [g1.vl c3]
    refine tp_adv g1 (fun I2 g3 g4 => ?_)
    have hvl2 := vlk_le n y (enk n y (enk n y e))
    refine ca_isNumberWithin g3.2.2.1 (fun c6 c7 c8 => br_u (by decide +kernel) (b45 _ _ _ _ _ _ ?_)) (fun c6 => br_v nI_0 (And.intro (Or.inl nI_0) ?_))
    · rw [nI_leI (by omega) (by omega)] at c8
      have hp2 : pnum n y (enk n y (enk n y e)) 0 10000 = true := pnum_iff.mpr ⟨c6, by omega, by omega⟩
      rw [if_pos hp2] at kq
      have hh : vlk n y (enk n y e) < 6 := by omega
      dsimp only [k_X10_takesWealth_45, o_iload, o_lload, o_aload, o_istore, o_astore, o_lstore, o_iinc, o_ic, o_lc, o_sc, o_iadd, o_isub, o_imul, o_iand, o_ior, o_ixor, o_ishl, o_ishr, o_ladd, o_lsub, o_land, o_lor, o_lxor, o_lshl, o_lshr, o_i2l, o_l2i, o_lcmp, o_dup, o_dup2, o_pop, o_getI, o_getJ, o_getR, o_putI, o_putZ, o_putJ, o_iald, o_zald, o_lald, o_aald, o_iast, o_zast, o_last, o_alen, o_cpyI, o_cpyJ, o_iret, o_zret, o_lret, o_aret, o_vret, o_idiv, o_irem, o_ineg, o_ifeq, o_ifne, o_iflt, o_ifge, o_ifgt, o_ifle, o_iceq, o_icne, o_iclt, o_icge, o_icgt, o_icle, al_gL, al_sL, al_sJ, al_gd]
      show al_isC _ _ _ _
      refine al_isC_in rfl (al_rk_in (q := 8) rfl (al_isC_in rfl (al_rk_in (q := 10) rfl (al_isA_in (len := 6) rfl (Exists.intro (vlk n y (enk n y e)) (And.intro hh (And.intro rfl (al_rk_in (tb_hO tb8 hh) (al_isC_in rfl (al_isC_in (tb_hC tb8 hh) ?_))))))))))
      rw [g3.vl c6]
      have g5 := g3.put (CTn.setf (f := 2) (v := nI (vlk n y (enk n y (enk n y e)))) g3.1 hh (by omega)) (fun p hp => al_up_row (by omega))
      refine tp_adv g5 (fun I3 g6 g7 => And.intro (Or.inr nI_1') (kq I3 _ g6 (fun _ => rfl) (((g2.tr g4).tr (fun p a b => ⟨al_up_row (by omega), rfl⟩)).tr g7)))
    · have hp2 : ¬ pnum n y (enk n y (enk n y e)) 0 10000 = true := fun q => by
        rw [pnum_iff] at q
        exact c6 ⟨q.1, nI_le q.2.1 (by omega), nI_le (by omega) (by omega)⟩
      rw [if_neg hp2] at kq
      exact kq I2 T g3 (fun q => absurd (show false = true from q) (by decide)) (g2.tr g4)
  · have hp : ¬ pnum n y (enk n y e) 0 T.2.1 = true := fun q => by
      rw [pnum_iff] at q
      exact c3 ⟨q.1, nI_le q.2.1 (by omega), by rw [Int32.le_iff_toInt_le, hm1, nI_toInt (by omega)]; omega⟩
    rw [if_neg hp] at kq
    exact kq I1 T g1 (fun q => absurd (show false = true from q) (by decide)) g2
theorem ap_none {it : IT} {T : TW} (h : it.2.2.2 = noS) : ap it T = ap1 it T := by
  unfold ap
  rw [h]
  rfl
theorem ca_takesItem {n : Nat} {y : Nat → Nat} {T : TW} {e : Nat} {I : II} {J : JJ} {Q : QT} (h : PS n y T e I J) (hv : VT T) (kq : ∀ (I' : II) (J' : JJ) (T' : TW), PS n y T' (pit1 n y T.2.1 e).2.1 I' J' → ((pit1 n y T.2.1 e).1 = true → T' = ap (pit1 n y T.2.1 e).2.2 T) → kT I J I' J' → Q (some (.int (nI (pit1 n y T.2.1 e).1.toNat))) 90 al_R0 I' J') : CT m_X10_takesItem 0 [.ref 45] 90 al_R0 I J Q := by
  have h6 := hv.1
  have hkd := kdk_lt n y e
  refine r_X10_takesItem (by decide) (fun F wk b0 b10 b24 b50 b52 b69 b71 b84 => ?_)
  unfold pit1 at kq
  refine b0 _ _ _ _ _ _ (And.intro (fun c => b10 _ _ _ _ _ _ ?_) (fun c => And.intro (Or.inl nI_0) ?_))
  · rw [h.2.2.1.2.2.1, nI_eq (by omega) (by omega)] at c
    rw [if_neg (by omega)] at kq
    refine ca_isWord (w := 10) h.2.1 h.2.2.2 h.2.2.1 (by decide) (And.intro (fun c1 => b24 _ _ _ _ _ _ ?_) (fun c1 => ?_))
    · rw [if_neg (by rw [bz_f c1]; decide)] at kq
      refine ca_plainSquare h ?_
      have h84 : ∀ (v : Nat) (T1 : TW) (e1 : Nat) (k : Option Value) (I1 : II), v < 16 → PS n y T1 e1 I1 J → kT I J I1 J → (∀ (I' : II) (J' : JJ) (T' : TW), PS n y T' (sqs n y (enk n y e1)).2.1 I' J' → ((sqs n y (enk n y e1)).1 = true → T' = (lyS T1.1 (sqs n y (enk n y e1)).2.2 v, T1.2)) → kT I J I' J' → Q (some (.int (nI (sqs n y (enk n y e1)).1.toNat))) 90 al_R0 I' J') → F 84 [some (.ref 45), some (.int (nI v)), k] [] 90 al_R0 I1 J := by
        intro v T1 e1 k I1 hv16 g1 g2 hk
        refine b84 _ _ _ _ _ _ (tp_adv g1 (fun I2 g3 g4 => ca_takesSquares g3 hv16 (fun I3 J3 T3 g5 g6 g7 => And.intro ?_ (hk I3 J3 T3 g5 g6 ((g2.tr g4).tr g7)))))
        cases (sqs n y (enk n y e1)).1
        · exact Or.inl nI_0
        · exact Or.inr nI_1'
      by_cases w1 : plw n y e < 4
      · rw [if_pos w1] at kq ⊢
        refine br_t (by simpa using nI_pos (show plw n y e < 2 ^ 31 by omega)) (h84 (plw n y e) T e _ I (by omega) h (kT.rf I J) (fun I3 J3 T3 g5 g6 g7 => kq I3 J3 T3 g5 (fun q => ?_) g7))
        rw [g6 q]
        unfold ap ap1
        dsimp only
        rw [if_neg (by omega), if_neg (by omega), if_neg (by omega)]
      · rw [if_neg w1] at kq ⊢
        refine br_f (by decide +kernel) (ca_kindNamed h ?_)
        by_cases w2 : knd n y e < 6
        · rw [if_pos w2] at kq ⊢
          refine br_f (nI_pos (by omega)) ?_
          unfold phs at kq
          refine ca_takesHouse h h6 (fun q1 q2 I1 g1 g2 => br_u (by decide +kernel) (b52 _ _ _ _ _ _ ?_)) (fun q1 q2 I1 g1 g2 => br_v nI_0 (b50 _ _ _ _ _ _ (And.intro (Or.inl nI_0) ?_))) (fun q1 => br_v nI_0 (b50 _ _ _ _ _ _ (And.intro (Or.inl nI_0) ?_)))
          · rw [if_neg (by omega), if_pos q2] at kq
            have kk := kdk_lt n y (enk n y (enk n y e))
            have no : ¬ (kdk n y (enk n y (enk n y e)) = 1 ∧ isw n y (enk n y (enk n y e)) 11 = true) → F 69 [some (.ref 45), none, none] [] 90 al_R0 I1 J := fun q => by
              rw [if_neg q] at kq
              exact b69 _ _ _ _ _ _ (And.intro (Or.inr nI_1') (kq I1 J _ g1 (fun _ => by rw [ap_none rfl]; rfl) g2))
            refine And.intro (fun c3 => wk _ _ _ _ _ _ _ _ (by simp [al_le]) (no ?_)) (fun c3 => ?_)
            · rw [g1.2.2.1.2.2.1, nI_eq (by omega) (by omega)] at c3
              exact fun w => c3 w.1
            · rw [g1.2.2.1.2.2.1, nI_eq (by omega) (by omega)] at c3
              refine ca_isWord (w := 11) g1.2.1 g1.2.2.2 g1.2.2.1 (by decide) (And.intro (fun c4 => b71 _ _ _ _ _ _ ?_) (fun c4 => wk _ _ _ _ _ _ _ _ (by simp [al_le]) (no (fun w => by rw [bz_f c4] at w; exact absurd w.2 (by decide)))))
              rw [if_pos ⟨c3, bz_t c4⟩] at kq
              dsimp only [k_X10_takesItem_71, o_iload, o_lload, o_aload, o_istore, o_astore, o_lstore, o_iinc, o_ic, o_lc, o_sc, o_iadd, o_isub, o_imul, o_iand, o_ior, o_ixor, o_ishl, o_ishr, o_ladd, o_lsub, o_land, o_lor, o_lxor, o_lshl, o_lshr, o_i2l, o_l2i, o_lcmp, o_dup, o_dup2, o_pop, o_getI, o_getJ, o_getR, o_putI, o_putZ, o_putJ, o_iald, o_zald, o_lald, o_aald, o_iast, o_zast, o_last, o_alen, o_cpyI, o_cpyJ, o_iret, o_zret, o_lret, o_aret, o_vret, o_idiv, o_irem, o_ineg, o_ifeq, o_ifne, o_iflt, o_ifge, o_ifgt, o_ifle, o_iceq, o_icne, o_iclt, o_icge, o_icgt, o_icle, al_gL, al_sL, al_sJ, al_gd]
              show al_isC _ _ _ _
              refine al_isC_in rfl (al_rk_in (q := 8) rfl (al_isC_in rfl ?_))
              rw [g1.1.1, show (bld T (nI (knd n y e)) (nI (vlk n y (enk n y e)))).2.1 = T.2.1 + 1 from rfl, nI_add, pk_sub (by omega), show 10 + (T.2.1 + 1) - 1 = 10 + T.2.1 by omega]
              refine h84 (10 + T.2.1) _ _ _ I1 (by omega) g1 g2 (fun I3 J3 T3 g5 g6 g7 => kq I3 J3 T3 g5 (fun q => ?_) g7)
              rw [g6 q]
              rfl
          · rw [if_neg (by omega), if_neg (by rw [q2]; decide)] at kq
            exact kq I1 J T g1 (fun q => absurd (show false = true from q) (by decide)) g2
          · rw [if_pos q1] at kq
            exact kq I J T h (fun q => absurd (show false = true from q) (by decide)) (kT.rf I J)
        · rw [if_neg w2] at kq ⊢
          exact br_t (by decide +kernel) (b50 _ _ _ _ _ _ (And.intro (Or.inl nI_0) (kq I J T h (fun q => absurd (show false = true from q) (by decide)) (kT.rf I J))))
    · rw [if_pos (bz_t c1)] at kq
      refine ca_takesWealth h h6 (fun I1 T1 g1 g2 g3 => And.intro ?_ (kq I1 J T1 g1 (fun q => ?_) g3))
      · cases (prc n y T.2.1 e).1
        · exact Or.inl nI_0
        · exact Or.inr nI_1'
      · rw [g2 q, ap_none]
        unfold prc
        split
        · split <;> rfl
        · rfl
  · rw [h.2.2.1.2.2.1, nI_eq (by omega) (by omega)] at c
    rw [if_pos c] at kq
    exact kq I J T h (fun q => absurd (show false = true from q) (by decide)) (kT.rf I J)
