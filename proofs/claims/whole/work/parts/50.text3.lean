/-! THE TEXT: perform, town -/
def tby (t : Nat × (Nat → Int32)) (j : Nat) : Nat := (t.2 j).toNatClampNeg
theorem TP_of {t : Nat × (Nat → Int32)} {I : II} (h : tap I t) (h1 : t.1 ≤ 120) (h2 : ∀ j, j < t.1 → ∃ b, b < 256 ∧ t.2 j = nI b) : TP t.1 (tby t) I := ⟨h.1, h1, fun j hj => by
  obtain ⟨b, b1, b2⟩ := h2 j hj
  unfold tby
  rw [h.2 j hj, b2, nI_clamp (by omega)]
  exact ⟨rfl, b1⟩⟩
theorem apl_ups {T : TW} {its : Nat → IT} {it : IT} {i : Nat} : ∀ {k : Nat}, k ≤ i → apl T (ups its i it) k = apl T its k
  | 0, _ => rfl
  | k + 1, h => by rw [apl, apl, apl_ups (k := k) (by omega), ups_n (by omega)]
theorem ca_perform {n : Nat} {y : Nat → Nat} {T : TW} {I : II} {J : JJ} {Q : QT} (hT : CTn 8 T I J) (hv : VT T) (ht : TP n y I) (k1 : (prf n y 121 T.2.1 0 0 (fun _ => it0)).1 = true → ∀ (I' : II) (J' : JJ), CTn 8 (apl T (prf n y 121 T.2.1 0 0 (fun _ => it0)).2.2.2 (prf n y 121 T.2.1 0 0 (fun _ => it0)).2.2.1) I' J' → VT (apl T (prf n y 121 T.2.1 0 0 (fun _ => it0)).2.2.2 (prf n y 121 T.2.1 0 0 (fun _ => it0)).2.2.1) → (∀ p, ¬ (8 ≤ p ∧ p < 23) → ¬ (45 ≤ p ∧ p < 61) → I' p = I p ∧ J' p = J p) → Q (some (.int (nI (prf n y 121 T.2.1 0 0 (fun _ => it0)).2.2.1))) 90 al_R0 I' J') (k2 : (prf n y 121 T.2.1 0 0 (fun _ => it0)).1 = false → ∀ (I' : II) (J' : JJ), CTn 8 T I' J' → (∀ p, ¬ (8 ≤ p ∧ p < 23) → ¬ (45 ≤ p ∧ p < 61) → I' p = I p ∧ J' p = J p) → Q (some (.int (-1 - nI (stk n y (prf n y 121 T.2.1 0 0 (fun _ => it0)).2.1)))) 90 al_R0 I' J') : CT m_X10_perform 0 [.ref 45] 90 al_R0 I J Q := by
  have h120 := ht.2.1
  generalize hR : prf n y 121 T.2.1 0 0 (fun _ => it0) = R at *
  refine r_X10_perform (by decide) (fun F wk b0 b22 b47 b58 b65 => ?_)
  have h65 : ∀ (T1 : TW) (e : Nat) (k : Option Value) (I' : II) (J' : JJ), PS n y T1 e I' J' → CTn 46 T I' J' → (∀ p, ¬ (8 ≤ p ∧ p < 23) → ¬ (45 ≤ p ∧ p < 61) → I' p = I p ∧ J' p = J p) → R.1 = false → R.2.1 = e → F 65 [some (.ref 45), k] [] 90 al_R0 I' J' := by
    intro T1 e k I' J' g1 g2 g3 r1 r2
    refine b65 _ _ _ _ _ _ (ca_become (d := 8) (s := 46) tb8 (Or.inr (Or.inr rfl)) (by decide) g2 (fun I2 J2 g4 g5 => ?_))
    dsimp only [al_pu, o_iload, o_lload, o_aload, o_istore, o_astore, o_lstore, o_iinc, o_ic, o_lc, o_sc, o_iadd, o_isub, o_imul, o_iand, o_ior, o_ixor, o_ishl, o_ishr, o_ladd, o_lsub, o_land, o_lor, o_lxor, o_lshl, o_lshr, o_i2l, o_l2i, o_lcmp, o_dup, o_dup2, o_pop, o_getI, o_getJ, o_getR, o_putI, o_putZ, o_putJ, o_iald, o_zald, o_lald, o_aald, o_iast, o_zast, o_last, o_alen, o_cpyI, o_cpyJ, o_iret, o_zret, o_lret, o_aret, o_vret, o_idiv, o_irem, o_ineg, o_ifeq, o_ifne, o_iflt, o_ifge, o_ifgt, o_ifle, o_iceq, o_icne, o_iclt, o_icge, o_icgt, o_icle, al_gL, al_sL, al_sJ, al_gd]
    show al_isC _ _ _ _
    refine al_isC_in rfl ?_
    have h9 := k2 r1 I2 J2 g4 (fun p a b => ⟨by rw [(g5 p (by omega)).1]; exact (g3 p a b).1, by rw [(g5 p (by omega)).2]; exact (g3 p a b).2⟩)
    rw [r2] at h9
    rw [(g5 45 (by omega)).1, g1.2.2.1.1]
    exact h9
  have loop : ∀ (d i nh e : Nat) (its : Nat → IT) (I' : II) (J' : JJ), i + d = 121 → 2 * i ≤ e → R = prf n y d nh e i its → VT (apl T its i) → (apl T its i).2.1 = nh → PS n y (apl T its i) e I' J' → CTn 46 T I' J' → (∀ p, ¬ (8 ≤ p ∧ p < 23) → ¬ (45 ≤ p ∧ p < 61) → I' p = I p ∧ J' p = J p) → F 22 [some (.ref 45), some (.int (nI i))] [] 90 al_R0 I' J' := by
    intro d
    induction d with
    | zero =>
      intro i nh e its I' J' hi hie hr hvi hnh g1 g2 g3
      have := g1.2.2.2
      omega
    | succ d ih =>
      intro i nh e its I' J' hi hie hr hvi hnh g1 g2 g3
      have hle := g1.2.2.2
      have hnh6 := hvi.1
      rw [prf] at hr
      obtain ⟨p1, p2, p3⟩ := pit1_le (n := n) (y := y) (nh := nh) hle
      have piv := pit1_iv (n := n) (y := y) (nh := nh) (e := e)
      refine b22 _ _ _ _ _ _ (br_f (nI_ge (by omega) (by omega)) (ca_takesItem g1 hvi (fun I2 J2 T2 g4 g5 g6 => ?_)))
      rw [hnh] at g4 g5 ⊢
      have g2' : CTn 46 T I2 J2 := g2.keep (fun p a b => g6 p (by omega) (by omega))
      have g3' : ∀ p, ¬ (8 ≤ p ∧ p < 23) → ¬ (45 ≤ p ∧ p < 61) → I2 p = I p ∧ J2 p = J p := fun p a b => ⟨by rw [(g6 p a (by omega)).1]; exact (g3 p a b).1, by rw [(g6 p a (by omega)).2]; exact (g3 p a b).2⟩
      generalize pit1 n y nh e = r at *
      refine And.intro (fun c => ?_) (fun c => ?_)
      · have hr1 := bz_f c
        rw [if_neg (by rw [hr1]; decide)] at hr
        exact h65 T2 r.2.1 _ I2 J2 g4 g2' g3' (by rw [hr]) (by rw [hr])
      · have hr1 := bz_t c
        have hT2 := g5 hr1
        have hiv := piv hr1
        rw [if_pos hr1] at hr
        have p3' := p3 hr1
        have hap : apl T (ups its i r.2.2) (i + 1) = T2 := by
          rw [apl, apl_ups (Nat.le_refl i), ups_s, hT2]
        have hvT2 : VT T2 := by
          rw [hT2]
          exact VT_ap hvi (by rw [hnh]; exact hiv)
        have hn2 : T2.2.1 = nhs nh r.2.2 := by
          rw [hT2, ap_nh (by rw [hnh]; exact hiv), hnh]
        have kk := kdk_lt n y r.2.1
        dsimp only [al_pu, o_iload, o_lload, o_aload, o_istore, o_astore, o_lstore, o_iinc, o_ic, o_lc, o_sc, o_iadd, o_isub, o_imul, o_iand, o_ior, o_ixor, o_ishl, o_ishr, o_ladd, o_lsub, o_land, o_lor, o_lxor, o_lshl, o_lshr, o_i2l, o_l2i, o_lcmp, o_dup, o_dup2, o_pop, o_getI, o_getJ, o_getR, o_putI, o_putZ, o_putJ, o_iald, o_zald, o_lald, o_aald, o_iast, o_zast, o_last, o_alen, o_cpyI, o_cpyJ, o_iret, o_zret, o_lret, o_aret, o_vret, o_idiv, o_irem, o_ineg, o_ifeq, o_ifne, o_iflt, o_ifge, o_ifgt, o_ifle, o_iceq, o_icne, o_iclt, o_icge, o_icgt, o_icle, al_gL, al_sL, al_sJ, al_gd]
        rw [← nI_s i]
        show al_isC _ _ _ _
        refine al_isC_in rfl ?_
        rw [g4.2.2.1.2.2.1]
        refine And.intro (fun c2 => b47 _ _ _ _ _ _ ?_) (fun c2 => ?_)
        · rw [← nI_0, nI_eq (by omega) (by omega)] at c2
          rw [if_neg c2] at hr
          have fe := enk_le (y := y) g4.2.2.2
          have fg := enk_gt (y := y) g4.2.2.2 c2
          have fs := stk_le (y := y) g4.2.2.2
          refine And.intro (fun c3 => b58 _ _ _ _ _ _ (tp_adv g4 (fun I3 g7 g8 => ?_))) (fun c3 => ?_)
          · rw [g4.2.2.1.2.2.1, nI_eq (by omega) (by omega)] at c3
            rw [if_pos c3] at hr
            refine ih (i + 1) (nhs nh r.2.2) (enk n y r.2.1) (ups its i r.2.2) I3 J2 (by omega) (by omega) hr (by rw [hap]; exact hvT2) (by rw [hap]; exact hn2) (by rw [hap]; exact g7) (g2'.keep (fun p a b => g8 p (by omega) (by omega))) (fun p a b => ⟨by rw [(g8 p a (by omega)).1]; exact (g3' p a b).1, (g3' p a b).2⟩)
          · rw [g4.2.2.1.2.2.1, nI_eq (by omega) (by omega)] at c3
            rw [if_neg c3] at hr
            exact h65 T2 r.2.1 _ I2 J2 g4 g2' g3' (by rw [hr]) (by rw [hr])
        · rw [← nI_0, nI_eq (by omega) (by omega)] at c2
          rw [if_pos c2] at hr
          have h9 := k1 (by rw [hr]) I2 J2
          rw [hr] at h9
          dsimp only at h9
          rw [hap] at h9
          exact h9 g4.1 hvT2 g3'
  refine b0 _ _ _ _ _ _ (ca_become (d := 46) (s := 8) (Or.inr (Or.inr rfl)) tb8 (by decide) hT (fun I1 J1 g1 g2 => ?_))
  have hk : k45 I1 (al_up I1 45 5 (nI 0)) := ⟨fun q hq => al_up_row hq, al_up_j (by decide)⟩
  have ht1 : TP n y I1 := by
    unfold TP at ht ⊢
    rw [(g2 45 (by omega)).1, (g2 61 (by omega)).1]
    exact ht
  have hT1 : CTn 8 T I1 J1 := hT.keep (fun p a b => g2 p (by omega))
  refine ca_advance (hk.TP ht1) (Nat.zero_le n) al_up_s (fun I2 g3 g4 => ?_)
  have hk2 := hk.tr g3
  exact loop 121 0 T.2.1 0 (fun _ => it0) I2 J1 rfl (Nat.le_refl 0) hR.symm hv rfl ⟨hk2.C hT1, hk2.TP ht1, g4, Nat.zero_le n⟩ (g1.keep (fun p a b => ⟨hk2.1 p (by omega), rfl⟩)) (fun p a b => ⟨by rw [hk2.1 p (by omega)]; exact (g2 p (by omega)).1, (g2 p (by omega)).2⟩)
/-- what a text comes to -/
def txr (S : SG) : Bool × Nat × Nat × (Nat → IT) := prf S.2.2.2.1.1 (tby S.2.2.2.1) 121 S.1.2.1 0 0 (fun _ => it0)
theorem X_town {S : SG} {I : II} {J : JJ} {Q : QT} (hC : CI S I J) (hV : VS S) (k1 : (txr S).1 = true → VT (apl S.1 (txr S).2.2.2 (txr S).2.2.1) → PX I J Q (sP (sT S (apl S.1 (txr S).2.2.2 (txr S).2.2.1)) (0, S.2.2.2.1.2)) (.int (nI (txr S).2.2.1))) (k2 : (txr S).1 = false → PX I J Q (sP S (0, S.2.2.2.1.2)) (.int (-1 - nI (stk S.2.2.2.1.1 (tby S.2.2.2.1) (txr S).2.1)))) : CT m_X11_town 0 [.ref 0] 90 al_R0 I J Q := by
  refine r_X11_town (by decide) (fun F wk b0 => ?_)
  have key : ∀ (T' : TW) (I1 : II) (J1 : JJ) (v : Int32), CTn 8 T' I1 J1 → (∀ p, ¬ (8 ≤ p ∧ p < 23) → ¬ (45 ≤ p ∧ p < 61) → I1 p = I p ∧ J1 p = J p) → PX I J Q (sP (sT S T') (0, S.2.2.2.1.2)) (.int v) → o_istore 1 (o_aload 0 (o_getR 11 4 (o_ic (nI 0) (o_putI 10 3 (o_aload 0 (o_getR 11 3 (o_cV 8 m_X8_forget 1 (o_iload 1 (o_iret Q))))))))) [some (.ref 0), none] [.int v] 90 al_R0 I1 J1 := by
    intro T' I1 J1 v g1 g2 hq
    refine ca_forget (fun I2 g3 g4 g5 => ?_)
    have hk : ∀ p, ¬ (8 ≤ p ∧ p < 23) → ¬ (45 ≤ p ∧ p < 61) → p ≠ 38 → p ≠ 39 → I2 p = I p ∧ J1 p = J p := fun p a b c d => ⟨by rw [g3 p d c, al_up_row (by omega)]; exact (g2 p a b).1, (g2 p a b).2⟩
    obtain ⟨h1, h2, h3, h4, h5, h6, h7, h8⟩ := hC
    refine hq I2 J1 ⟨g1.keep (fun p a b => ⟨by rw [g3 p (by omega) (by omega), al_up_row (by omega)], rfl⟩), fun p hp => Or.inl (g4 p hp), Or.inl g5, h4.keep (hk 72 (by omega) (by omega) (by omega) (by omega)).1 (hk 73 (by omega) (by omega) (by omega) (by omega)).1, h5.keep (hk 0 (by omega) (by omega) (by omega) (by omega)).1 (fun p a b => hk p (by omega) (by omega) (by omega) (by omega)), ⟨?_, fun j hj => absurd hj (by show ¬ j < 0; omega)⟩, h7.keep (fun p a b => hk p (by omega) (by omega) (by omega) (by omega)), h8.keep (hk 71 (by omega) (by omega) (by omega) (by omega)).1⟩ (fun p hp => hk p (by omega) (by omega) (by omega) (by omega))
    show I2 45 3 = nI 0
    rw [g3 45 (by decide) (by decide), al_up_s]
  refine b0 _ _ _ _ _ _ (ca_perform hC.1 hV.1 (TP_of hC.2.2.2.2.2.1 hV.2.2.1.1 hV.2.2.1.2) (fun q I1 J1 g1 g2 g3 => ?_) (fun q I1 J1 g1 g3 => ?_))
  · exact key _ I1 J1 _ g1 g3 (k1 q g2)
  · exact key S.1 I1 J1 _ g1 g3 (k2 q)
