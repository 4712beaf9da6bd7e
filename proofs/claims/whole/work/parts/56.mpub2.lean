/-! THE REFERENCE'S CALLS: sums, years, tape, images, counts, status -/
theorem M_yields {S : SG} {I : II} {J : JJ} {Q : QT} (hM : MI S I J) (hV : VS S) (kq : PM I J Q S (.int (nI (sm (fun h => rtN S.1 h * cts S.1 h) S.1.2.1)))) : CT m_X12_yields 0 [.ref 74] 90 al_R0 I J Q := by
  have h6 := hV.1.1
  refine r_X12_yields (by decide) (fun F wk b0 b4 b30 => ?_)
  have loop : ∀ (d i : Nat) (I' : II) (J' : JJ), i + d = S.1.2.1 → kS I J I' J' → mfd S.1.1 I' J' → F 4 [some (.ref 74), some (.int (nI (sm (fun h => rtN S.1 h * cts S.1 h) i))), some (.int (nI i))] [] 90 al_R0 I' J' := by
    intro d
    induction d with
    | zero =>
      intro i I' J' hi g1 g2
      have hT := g1.T (by decide) hM.1
      refine b4 _ _ _ _ _ _ (Exists.intro 142 (And.intro (by decide) (And.intro rfl (br_t (by rw [hT.2.2.2]; exact nI_le (by omega) (by omega)) (b30 _ _ _ _ _ _ ?_)))))
      have h9 := g1.P hM g2 kq
      rw [show S.1.2.1 = i by omega] at h9
      exact h9
    | succ d ih =>
      intro i I' J' hi g1 g2
      have hT := g1.T (by decide) hM.1
      refine b4 _ _ _ _ _ _ (Exists.intro 142 (And.intro (by decide) (And.intro rfl (br_f (by rw [hT.2.2.2]; exact nI_ge (by omega) (by omega)) (ma_taxOf hT hV.1 g2 (by omega) (fun I2 J2 g3 g4 => ?_))))))
      have h9 := ih (i + 1) I2 J2 (by omega) (g1.tr g3) g4
      rw [sm, nI_s i, ← nI_add] at h9
      exact h9
  exact b0 _ _ _ _ _ _ (loop S.1.2.1 0 I J (by omega) (kS.rf I J) hM.2.1)
theorem M_rateFor {a : Int32} {S : SG} {I : II} {J : JJ} {Q : QT} (hM : MI S I J) (hV : VS S) (hna : ¬ a < 0) (k1 : rfr (sm (cts S.1) S.1.2.1) a < 100 → PM I J Q S (.int (nI (rfr (sm (cts S.1) S.1.2.1) a)))) (k3 : rfr (sm (cts S.1) S.1.2.1) a = 100 → PM I J Q (fnd 3 S) (.int (-1000000004))) : CT m_X12_rateFor 0 [.ref 74, .int a] 90 al_R0 I J Q := by
  have h6 := hV.1.1
  refine r_X12_rateFor (by decide) (fun F wk b0 b11 b15 b41 b43 b58 b64 => ?_)
  refine b0 _ _ _ _ _ _ (br_t (Int32.not_lt.mp hna) ?_)
  have loop2 : ∀ (I' : II) (J' : JJ), kS I J I' J' → mfd S.1.1 I' J' → ∀ (d i : Nat), i + d = 100 → rfr (sm (cts S.1) S.1.2.1) a = fnx (fun r => decide (a ≤ nI r * nI (sm (cts S.1) S.1.2.1))) i d → F 43 [some (.ref 74), some (.int a), some (.int (nI (sm (cts S.1) S.1.2.1))), some (.int (nI i))] [] 90 al_R0 I' J' := by
    intro I' J' g1 g2 d
    induction d with
    | zero =>
      intro i hi he
      obtain rfl : i = 100 := by omega
      exact b43 _ _ _ _ _ _ (br_t (nI_le (by omega) (by omega)) (b64 _ _ _ _ _ _ (ma_finding (g1.M hM g2) (k := 3) (by decide) (by decide +kernel) (fun I2 J2 q1 q2 => k3 he I2 J2 q1 (g1.k.tr q2)))))
    | succ d ih =>
      intro i hi he
      refine b43 _ _ _ _ _ _ (br_f (nI_ge (by omega) (by omega)) (And.intro (fun c2 => ?_) (fun c2 => ?_)))
      · have h9 := ih (i + 1) (by omega) (by rw [he, fnx_no (decide_eq_false (Int32.not_le.mpr c2))])
        rw [nI_s i] at h9
        exact b58 _ _ _ _ _ _ h9
      · have h9 : rfr (sm (cts S.1) S.1.2.1) a = i := by rw [he, fnx_yes (decide_eq_true (Int32.not_lt.mp c2))]
        have h10 := g1.P hM g2 (k1 (by omega))
        rw [h9] at h10
        exact h10
  have loop : ∀ (d i : Nat) (I' : II) (J' : JJ), i + d = S.1.2.1 → kS I J I' J' → mfd S.1.1 I' J' → F 15 [some (.ref 74), some (.int a), some (.int (nI (sm (cts S.1) i))), some (.int (nI i))] [] 90 al_R0 I' J' := by
    intro d
    induction d with
    | zero =>
      intro i I' J' hi g1 g2
      have hT := g1.T (by decide) hM.1
      have h9 := loop2 I' J' g1 g2 99 1 rfl rfl
      refine b15 _ _ _ _ _ _ (Exists.intro 142 (And.intro (by decide) (And.intro rfl (br_t (by rw [hT.2.2.2]; exact nI_le (by omega) (by omega)) (b41 _ _ _ _ _ _ ?_)))))
      rw [show S.1.2.1 = i by omega] at h9
      exact h9
    | succ d ih =>
      intro i I' J' hi g1 g2
      have hT := g1.T (by decide) hM.1
      refine b15 _ _ _ _ _ _ (Exists.intro 142 (And.intro (by decide) (And.intro rfl (br_f (by rw [hT.2.2.2]; exact nI_ge (by omega) (by omega)) (ma_allCounts hT hV.1 g2 (by omega) (fun I2 J2 g3 g4 => ?_))))))
      have h9 := ih (i + 1) I2 J2 (by omega) (g1.tr g3) g4
      rw [sm, nI_s i, ← nI_add] at h9
      exact h9
  exact b11 _ _ _ _ _ _ (loop S.1.2.1 0 I J (by omega) (kS.rf I J) hM.2.1)
theorem M_rateFor2 {a : Int32} {S : SG} {I : II} {J : JJ} {Q : QT} (hM : MI S I J) (hg : a < 0) (kq : PM I J Q (fnd 0 S) (.int (-1000000001))) : CT m_X12_rateFor 0 [.ref 74, .int a] 90 al_R0 I J Q :=
  r_X12_rateFor (by decide) (fun F wk b0 b11 b15 b41 b43 b58 b64 => b0 _ _ _ _ _ _ (br_f (Int32.not_le.mpr hg) (ma_finding hM (k := 0) (by decide) (by decide +kernel) kq)))
theorem M_neighbours {S : SG} {I : II} {J : JJ} {Q : QT} (hM : MI S I J) (hV : VS S) (k1 : ¬ (nbo S.1.1 S.1.2.1 S.1.2.1).1 < 0 → PM I J Q S (.int (nbo S.1.1 S.1.2.1 S.1.2.1).1)) (k3 : (nbo S.1.1 S.1.2.1 S.1.2.1).1 < 0 → PM I J Q (fnd 3 S) (.int (-1000000004))) : CT m_X12_neighbours 0 [.ref 74] 90 al_R0 I J Q := by
  have h6 := hV.1.1
  have hI := hM.1.2.2.2
  have hsq := hM.1.1
  have hcd := hV.1.cdo
  refine r_X12_neighbours (by decide) (fun F wk b0 b6 b23 b42 b76 b77 b86 b103 b109 b115 b128 b129 => ?_)
  have h115 : F 115 [some (.ref 74), some (.int (nbo S.1.1 S.1.2.1 S.1.2.1).1), none, none, none, none, none] [] 90 al_R0 I J := by
    refine b115 _ _ _ _ _ _ (And.intro (fun q => b128 _ _ _ _ _ _ (b129 _ _ _ _ _ _ (hM.go (k1 (Int32.not_lt.mpr q))))) (fun q => ma_finding hM (k := 3) (by decide) (by decide +kernel) (fun I2 J2 g1 g2 => b129 _ _ _ _ _ _ (k3 (Int32.not_le.mp q) I2 J2 g1 g2))))
  generalize S.1.1 = c at *
  generalize S.1.2.1 = nh at *
  have inner : ∀ a, a < nh → (F 109 [some (.ref 74), some (.int (nbo c nh (a + 1)).1), some (.int (nI (nbo c nh (a + 1)).2)), some (.int (nI a)), none, none, none] [] 90 al_R0 I J) → ∀ d e, a + 1 + e + d = nh → F 23 [some (.ref 74), some (.int (nbn c a (nbo c nh a) e).1), some (.int (nI (nbn c a (nbo c nh a) e).2)), some (.int (nI a)), some (.int (nI (a + 1 + e))), none, none] [] 90 al_R0 I J := by
    intro a ha k d
    induction d with
    | zero =>
      intro e he
      refine b23 _ _ _ _ _ _ (Exists.intro 142 (And.intro (by decide) (And.intro rfl (br_t (by rw [hI]; exact nI_le (by omega) (by omega)) ?_))))
      have he2 : nbo c nh (a + 1) = nbn c a (nbo c nh a) e := by
        rw [nbo, show nh - (a + 1) = e by omega]
      rw [he2] at k
      exact wk _ _ _ _ _ _ _ _ (by simp [al_le]) k
    | succ d ih =>
      intro e he
      have h9 := ih (e + 1) (by omega)
      have hle := nbn_le (c := c) (a := a) (nbo_le c nh a) e
      have hcl := cnt_le (fun p => cor c a p && cor c (a + 1 + e) p) 81
      have h86 : F 86 [some (.ref 74), some (.int (nbn c a (nbo c nh a) e).1), some (.int (nI (nbn c a (nbo c nh a) e).2)), some (.int (nI a)), some (.int (nI (a + 1 + e))), some (.int (nI (cnt (fun p => cor c a p && cor c (a + 1 + e) p) 81))), some (.int (nI 81))] [] 90 al_R0 I J := by
        refine b86 _ _ _ _ _ _ (And.intro (fun c2 => ?_) (fun c2 => ?_))
        · rw [nI_leI (by omega) (by omega)] at c2
          rw [nbn, if_neg (by omega), show a + 1 + (e + 1) = (a + 1 + e) + 1 by omega, nI_s (a + 1 + e)] at h9
          exact b103 _ _ _ _ _ _ (wk _ _ _ _ _ _ _ _ (by simp [al_le]) h9)
        · rw [nI_leI (by omega) (by omega)] at c2
          rw [nbn, if_pos (by omega), show a + 1 + (e + 1) = (a + 1 + e) + 1 by omega, nI_s (a + 1 + e)] at h9
          exact b103 _ _ _ _ _ _ (wk _ _ _ _ _ _ _ _ (by simp [al_le]) h9)
      have cl : ∀ m p, p + m = 81 → F 42 [some (.ref 74), some (.int (nbn c a (nbo c nh a) e).1), some (.int (nI (nbn c a (nbo c nh a) e).2)), some (.int (nI a)), some (.int (nI (a + 1 + e))), some (.int (nI (cnt (fun p => cor c a p && cor c (a + 1 + e) p) p))), some (.int (nI p))] [] 90 al_R0 I J := by
        intro m
        induction m with
        | zero =>
          intro p hp
          obtain rfl : p = 81 := by omega
          exact b42 _ _ _ _ _ _ (br_t (nI_le (by omega) (by omega)) h86)
        | succ m ihm =>
          intro p hp
          have h8 := ihm (p + 1) (by omega)
          rw [nI_s p] at h8
          have no : (cor c a p && cor c (a + 1 + e) p) = false → F 76 [some (.ref 74), some (.int (nbn c a (nbo c nh a) e).1), some (.int (nI (nbn c a (nbo c nh a) e).2)), some (.int (nI a)), some (.int (nI (a + 1 + e))), some (.int (nI (cnt (fun p => cor c a p && cor c (a + 1 + e) p) p))), some (.int (nI p))] [.int (nI (cnt (fun p => cor c a p && cor c (a + 1 + e) p) p))] 90 al_R0 I J := fun hn => by
            rw [cnt_no hn] at h8
            refine b76 _ _ _ _ _ _ (b77 _ _ _ _ _ _ ?_)
            dsimp only [k_X12_neighbours_77, o_iload, o_lload, o_aload, o_istore, o_astore, o_lstore, o_iinc, o_ic, o_lc, o_sc, o_iadd, o_isub, o_imul, o_iand, o_ior, o_ixor, o_ishl, o_ishr, o_ladd, o_lsub, o_land, o_lor, o_lxor, o_lshl, o_lshr, o_i2l, o_l2i, o_lcmp, o_dup, o_dup2, o_pop, o_getI, o_getJ, o_getR, o_putI, o_putZ, o_putJ, o_iald, o_zald, o_lald, o_aald, o_iast, o_zast, o_last, o_alen, o_cpyI, o_cpyJ, o_iret, o_zret, o_lret, o_aret, o_vret, o_idiv, o_irem, o_ineg, o_ifeq, o_ifne, o_iflt, o_ifge, o_ifgt, o_ifle, o_iceq, o_icne, o_iclt, o_icge, o_icgt, o_icle, al_gL, al_sL, al_sJ, al_gd]
            rw [nI_add, Nat.add_zero]
            exact h8
          refine b42 _ _ _ _ _ _ (br_f (nI_ge (by omega) (by omega)) (ma_cornerOf hsq hcd (by omega) (by omega) (And.intro (fun c2 => no ?_) (fun c2 => ma_cornerOf hsq hcd (by omega) (by omega) (And.intro (fun c3 => no ?_) (fun c3 => b77 _ _ _ _ _ _ ?_))))))
          · rw [cor_le c2, Bool.false_and]
          · rw [cor_le c3, Bool.and_false]
          · rw [cnt_yes (by rw [cor_gt c2, cor_gt c3]; rfl), nI_s (cnt _ p)] at h8
            exact h8
      refine b23 _ _ _ _ _ _ (Exists.intro 142 (And.intro (by decide) (And.intro rfl (br_f (by rw [hI]; exact nI_ge (by omega) (by omega)) ?_))))
      exact cl 81 0 rfl
  have loop : ∀ d a, a + d = nh → F 6 [some (.ref 74), some (.int (nbo c nh a).1), some (.int (nI (nbo c nh a).2)), some (.int (nI a)), none, none, none] [] 90 al_R0 I J := by
    intro d
    induction d with
    | zero =>
      intro a ha
      obtain rfl : a = nh := by omega
      refine b6 _ _ _ _ _ _ (Exists.intro 142 (And.intro (by decide) (And.intro rfl (br_t (by rw [hI]; exact nI_le (by omega) (by omega)) ?_))))
      exact wk _ _ _ _ _ _ _ _ (by simp [al_le]) h115
    | succ d ih =>
      intro a ha
      have h9 := ih (a + 1) (by omega)
      rw [nI_s a] at h9
      refine b6 _ _ _ _ _ _ (Exists.intro 142 (And.intro (by decide) (And.intro rfl (br_f (by rw [hI]; exact nI_ge (by omega) (by omega)) ?_))))
      have h10 := inner a (by omega) (b109 _ _ _ _ _ _ h9) (nh - (a + 1)) 0 (by omega)
      rw [Nat.add_zero, nI_s a] at h10
      exact h10
  exact b0 _ _ _ _ _ _ (loop nh 0 (by omega))
theorem ma_bestToRound {h : Nat} {T : TW} {I : II} {J : JJ} {Q : QT} (hT : MTn 75 T I) (hv : VT T) (hf : mfd T.1 I J) (hh : h < T.2.1) (kq : ∀ (I' : II) (J' : JJ), kS I J I' J' → mfd T.1 I' J' → Q (some (.int (ar (cp T h) 81))) 90 al_R0 I' J') : CT m_X12_bestToRound 0 [.ref 74, .int (nI h)] 90 al_R0 I J Q := by
  refine r_X12_bestToRound (by decide) (fun F wk b0 b7 b35 b41 => ?_)
  have loop : ∀ (d i : Nat) (I' : II) (J' : JJ), i + d = 81 → kS I J I' J' → mfd T.1 I' J' → F 7 [some (.ref 74), some (.int (nI h)), some (.int (ar (cp T h) i)), some (.int (nI (mx (cp T h) i))), some (.int (nI i)), none] [] 90 al_R0 I' J' := by
    intro d
    induction d with
    | zero =>
      intro i I' J' hi g1 g2
      obtain rfl : i = 81 := by omega
      exact b7 _ _ _ _ _ _ (br_t (nI_le (by omega) (by omega)) (b41 _ _ _ _ _ _ (kq I' J' g1 g2)))
    | succ d ih =>
      intro i I' J' hi g1 g2
      have hm := mx_le (cp_le T h) i
      have hci := cp_le T h i
      refine b7 _ _ _ _ _ _ (br_f (nI_ge (by omega) (by omega)) (ma_countOf (g1.T (by decide) hT) hv g2 hh (by omega) (fun I2 J2 g3 g4 => ?_)))
      have h9 := ih (i + 1) I2 J2 (by omega) (g1.tr g3) g4
      refine And.intro (fun c2 => ?_) (fun c2 => ?_)
      · rw [nI_leI (by omega) (by omega)] at c2
        rw [mx, ar, if_neg (by omega), if_neg (by omega), nI_s i] at h9
        refine b35 _ _ _ _ _ _ (wk _ _ _ _ _ _ _ _ ?_ h9)
        simp [al_le]
      · rw [nI_leI (by omega) (by omega)] at c2
        rw [mx, ar, if_pos (by omega), if_pos (by omega), nI_s i] at h9
        refine b35 _ _ _ _ _ _ (wk _ _ _ _ _ _ _ _ ?_ h9)
        simp [al_le]
  exact b0 _ _ _ _ _ _ (loop 81 0 I J rfl (kS.rf I J) hf)
set_option maxHeartbeats 1000000 in
theorem ma_yearOf {h : Nat} {T : TW} {I : II} {J : JJ} {Q : QT} (hT : MTn 75 T I) (hv : VT T) (hf : mfd T.1 I J) (hh : h < T.2.1) (kq : ∀ (I' : II) (J' : JJ), kN I J I' J' → MTn 75 (lyT T h) I' → mfd T.1 I' J' → Q (some (.int (lyp T h))) 90 al_R0 I' J') : CT m_X12_yearOf 0 [.ref 74, .int (nI h)] 90 al_R0 I J Q := by
  have h6 := hv.1
  refine r_X12_yearOf (by decide) (fun F wk b0 b113 => ?_)
  have e : ∀ f, nI 64 + nI 5 * nI h + nI f = nI (64 + 5 * h + f) := fun f => by rw [pk_mul, nI_add, nI_add]
  refine b0 _ _ _ _ _ _ (ma_taxOf hT hv hf hh (fun I1 J1 g1 g2 => ?_))
  have hT1 := g1.T (by decide) hT
  have w1 : I1 75 (64 + 5 * h + 2) = T.2.2.1 h 2 := hT1.2.1 h (by omega) 2 (by omega)
  have o1 : I1 75 (64 + 5 * h + 3) = T.2.2.1 h 3 := hT1.2.1 h (by omega) 3 (by omega)
  refine Exists.intro (64 + 5 * h + 2) (And.intro (by omega) (And.intro (e 2) ?_))
  refine Exists.intro (64 + 5 * h + 2) (And.intro (by omega) (And.intro (e 2) (Exists.intro (64 + 5 * h + 2) (And.intro (by omega) (And.intro (e 2) ?_)))))
  refine Exists.intro (64 + 5 * h + 3) (And.intro (by omega) (And.intro (e 3) (Exists.intro (64 + 5 * h + 3) (And.intro (by omega) (And.intro (e 3) ?_)))))
  have hT2 : MTn 75 (ly1 T h) (al_up (al_up I1 75 (64 + 5 * h + 2) (I1 75 (64 + 5 * h + 2) - mni (nI (rtN T h * cts T h)) (I1 75 (64 + 5 * h + 2)))) 75 (64 + 5 * h + 3) (al_up I1 75 (64 + 5 * h + 2) (I1 75 (64 + 5 * h + 2) - mni (nI (rtN T h * cts T h)) (I1 75 (64 + 5 * h + 2))) 75 (64 + 5 * h + 3) + (nI (rtN T h * cts T h) - mni (nI (rtN T h * cts T h)) (I1 75 (64 + 5 * h + 2))))) := by
    rw [al_up_j (show 64 + 5 * h + 3 ≠ 64 + 5 * h + 2 by omega), w1, o1]
    exact (hT1.setf (by omega) (by omega)).setf (by omega) (by omega)
  have n2 := ((g1.n.tr (kN.up I1 J1 (64 + 5 * h + 2) (I1 75 (64 + 5 * h + 2) - mni (nI (rtN T h * cts T h)) (I1 75 (64 + 5 * h + 2))))).tr (kN.up _ J1 (64 + 5 * h + 3) (al_up I1 75 (64 + 5 * h + 2) (I1 75 (64 + 5 * h + 2) - mni (nI (rtN T h * cts T h)) (I1 75 (64 + 5 * h + 2))) 75 (64 + 5 * h + 3) + (nI (rtN T h * cts T h) - mni (nI (rtN T h * cts T h)) (I1 75 (64 + 5 * h + 2))))))
  have hf2 : mfd (ly1 T h).1 (al_up (al_up I1 75 (64 + 5 * h + 2) (I1 75 (64 + 5 * h + 2) - mni (nI (rtN T h * cts T h)) (I1 75 (64 + 5 * h + 2)))) 75 (64 + 5 * h + 3) (al_up I1 75 (64 + 5 * h + 2) (I1 75 (64 + 5 * h + 2) - mni (nI (rtN T h * cts T h)) (I1 75 (64 + 5 * h + 2))) 75 (64 + 5 * h + 3) + (nI (rtN T h * cts T h) - mni (nI (rtN T h * cts T h)) (I1 75 (64 + 5 * h + 2))))) J1 := mfd.up (mfd.up g2)
  refine ma_bestToRound (T := ly1 T h) hT2 (VTly1 hv) hf2 hh (fun I3 J3 g3 g4 => ?_)
  have hT3 := g3.T (by decide) hT2
  have n3 := n2.tr g3.n
  have w3 : I3 75 (64 + 5 * h + 2) = T.2.2.1 h 2 - lyp T h := by
    rw [hT3.2.1 h (by omega) 2 (by omega)]
    unfold ly1 setf
    dsimp only
    rw [al_up_j (by decide), al_up_s]
  have hrc := ((VTly1 (h := h) hv).rc hh).2
  have hr8 := ((VTly1 (h := h) hv).rc hh).1
  have r3 : I3 75 (64 + 5 * h + 4) = nI (rcN (ly1 T h) h) := by rw [hT3.2.1 h (by omega) 4 (by omega), hrc]
  have hend : ∀ (I' : II) (J' : JJ) (o2 o3 o5 : Int32), kN I J I' J' → MTn 75 (lyT T h) I' → mfd T.1 I' J' → F 113 [some (.ref 74), some (.int (nI h)), some (.int o2), some (.int o3), some (.int (mni (nI (rtN T h * cts T h)) (I1 75 (64 + 5 * h + 2)))), some (.int o5)] [] 90 al_R0 I' J' := fun I' J' o2 o3 o5 q1 q2 q3 => by
    have h9 := kq I' J' q1 q2 q3
    unfold lyp at h9
    rw [← w1] at h9
    exact b113 _ _ _ _ _ _ h9
  refine Exists.intro (64 + 5 * h + 2) (And.intro (by omega) (And.intro (e 2) (And.intro (fun c => ?_) (fun c => ?_))))
  · rw [w3] at c
    have he : lyT T h = ly1 T h := if_neg (fun q => Int32.not_le.mpr c q.1)
    exact hend I3 J3 _ _ _ n3 (by rw [he]; exact hT3) g4
  · rw [w3] at c
    refine Exists.intro (64 + 5 * h + 4) (And.intro (by omega) (And.intro (e 4) (And.intro (fun c2 => ?_) (fun c2 => And.intro (fun c3 => ?_) (fun c3 => ?_)))))
    · rw [r3, nI_leI (by omega) (by omega), ly1_rc] at c2
      have he : lyT T h = ly1 T h := if_neg (fun q => by omega)
      exact hend I3 J3 _ _ _ n3 (by rw [he]; exact hT3) g4
    · have he : lyT T h = ly1 T h := if_neg (fun q => q.2.2 c3)
      exact hend I3 J3 _ _ _ n3 (by rw [he]; exact hT3) g4
    · rw [r3, nI_leI (by omega) (by omega)] at c2
      have he : lyT T h = _ := if_pos ⟨Int32.not_lt.mp c, by rw [ly1_rc] at c2; omega, c3⟩
      rcases ar_or (cp (ly1 T h) h) 81 with q | ⟨k, q1, q2, q3⟩
      · rw [q] at c3
        exact absurd (by decide +kernel) c3
      have hk : (lyb T h).toNatClampNeg = k := by
        unfold lyb
        rw [q2, nI_clamp (by omega)]
      rw [hk] at he
      refine ma_rounds hT3 (by omega) (by omega) hrc (Exists.intro (64 + 5 * h + 2) (And.intro (by omega) (And.intro (e 2) (Exists.intro (64 + 5 * h + 2) (And.intro (by omega) (And.intro (e 2) ?_))))))
      have hT4 := (hT3.rdd (p := k) (show h < 6 by omega) (by omega)).setf (f := 2) (v := T.2.2.1 h 2 - lyp T h - nI 40) (show h < 6 by omega) (by omega)
      rw [al_up_j (show 64 + 5 * h + 2 ≠ 64 + 5 * h + 4 by omega), al_up_j (show 64 + 5 * h + 2 ≠ 94 + 8 * h + rcN (ly1 T h) h by omega), w3, q2]
      exact hend _ J3 _ _ _ (((n3.tr (kN.up _ _ _ _)).tr (kN.up _ _ _ _)).tr (kN.up _ _ _ _)) (by rw [he]; exact hT4) (((g4.up).up).up)
theorem M_years1 {a : Int32} {y : Nat} {S : SG} {I : II} {J : JJ} {Q : QT} (hM : MI S I J) (hV : VS S) (y1 : 1 ≤ y) (y2 : y ≤ 20) (ea : a = nI y) (kq : PM I J Q (sT S (yrs S.1 y).1) (.int (yrs S.1 y).2)) : CT m_X12_years 0 [.ref 74, .int a] 90 al_R0 I J Q := by
  subst ea
  have h6 := hV.1.1
  refine r_X12_years (by decide) (fun F wk b0 b17 b21 b29 b57 b63 => b0 _ _ _ _ _ _ (mi_t (by decide) y1 y2 (br_u n10 (b17 _ _ _ _ _ _ ?_))))
  have outer : ∀ (d k : Nat) (I' : II) (J' : JJ), k + d = y → kN I J I' J' → MTn 75 (yrs S.1 k).1 I' → mfd S.1.1 I' J' → F 21 [some (.ref 74), some (.int (nI y)), some (.int (yrs S.1 k).2), some (.int (nI k)), none] [] 90 al_R0 I' J' := by
    intro d
    induction d with
    | zero =>
      intro k I' J' hk g1 g2 g3
      obtain rfl : k = y := by omega
      refine b21 _ _ _ _ _ _ (br_t (nI_le (by omega) (by omega)) (b63 _ _ _ _ _ _ (g1.P hM g2 ?_ kq)))
      rw [(yrs_ok hV.1 k).2.1]
      exact g3
    | succ d ih =>
      intro k I' J' hk g1 g2 g3
      obtain ⟨u1, u2, u3⟩ := yrs_ok hV.1 k
      have inner : ∀ (e h : Nat) (I2 : II) (J2 : JJ), h + e = S.1.2.1 → kN I J I2 J2 → MTn 75 (yrh (yrs S.1 k).1 (yrs S.1 k).2 h).1 I2 → mfd S.1.1 I2 J2 → F 29 [some (.ref 74), some (.int (nI y)), some (.int (yrh (yrs S.1 k).1 (yrs S.1 k).2 h).2), some (.int (nI k)), some (.int (nI h))] [] 90 al_R0 I2 J2 := by
        intro e
        induction e with
        | zero =>
          intro h I2 J2 hh q1 q2 q3
          obtain rfl : h = S.1.2.1 := by omega
          obtain ⟨v1, v2, v3⟩ := yrh_ok (s := (yrs S.1 k).2) u1 S.1.2.1
          have h9 := ih (k + 1) I2 J2 (by omega) q1 q2 q3
          rw [nI_s k] at h9
          refine b29 _ _ _ _ _ _ (Exists.intro 142 (And.intro (by decide) (And.intro rfl (br_t ?_ (b57 _ _ _ _ _ _ (wk _ _ _ _ _ _ _ _ (by simp [al_le, yrs]) h9))))))
          rw [q2.2.2.2, v3, u3]
          exact nI_le (by omega) (by omega)
        | succ e ihe =>
          intro h I2 J2 hh q1 q2 q3
          obtain ⟨v1, v2, v3⟩ := yrh_ok (s := (yrs S.1 k).2) u1 h
          refine b29 _ _ _ _ _ _ (Exists.intro 142 (And.intro (by decide) (And.intro rfl (br_f ?_ (ma_yearOf q2 v1 (by rw [v2, u2]; exact q3) (by rw [v3, u3]; omega) (fun I3 J3 p1 p2 p3 => ?_))))))
          · rw [q2.2.2.2, v3, u3]
            exact nI_ge (by omega) (by omega)
          · rw [v2, u2] at p3
            have h9 := ihe (h + 1) I3 J3 (by omega) (q1.tr p1) p2 p3
            rw [nI_s h] at h9
            exact h9
      exact b21 _ _ _ _ _ _ (br_f (nI_ge (by omega) (by omega)) (inner S.1.2.1 0 I' J' (by omega) g1 g2 g3))
  exact outer y 0 I J (by omega) (kN.rf I J) hM.1 hM.2.1
theorem M_years2 {a : Int32} {S : SG} {I : II} {J : JJ} {Q : QT} (hM : MI S I J) (hg : ∀ y, 1 ≤ y → y ≤ 20 → ¬ a = nI y) (kq : PM I J Q (fnd 0 S) (.int (-1000000001))) : CT m_X12_years 0 [.ref 74, .int a] 90 al_R0 I J Q :=
  r_X12_years (by decide) (fun F wk b0 b17 b21 b29 b57 b63 => b0 _ _ _ _ _ _ (mi_f (by decide) (by decide) hg (br_v nI_0 (ma_finding hM (k := 0) (by decide) (by decide +kernel) kq))))
theorem MI.tape {S : SG} {t : Nat × (Nat → Int32)} {I I' : II} {J : JJ} (hM : MI S I J) (ht : mtp I' t) (hk : ∀ p, p ≠ 74 → p ≠ 81 → I' p = I p) (h74 : ∀ j, j ≠ 10 → I' 74 j = I 74 j) : MI (sP S t) I' J := by
  obtain ⟨h1, h2, h3, h4, h5, h6⟩ := hM
  exact ⟨h1.keep (hk 75 (by decide) (by decide)), h2.keep (h74 5 (by decide)) rfl, h3.keep (h74 2 (by decide)) (hk 76 (by decide) (by decide)), ht, h5.keep (hk 86 (by decide) (by decide)) (hk 87 (by decide) (by decide)) rfl, h6.keep (hk 77 (by decide) (by decide))⟩
theorem M_feed {a : Int32} {n : Nat} {S : SG} {I : II} {J : JJ} {Q : QT} (hM : MI S I J) (hV : VS S) (n1 : 1 ≤ n) (n2 : n ≤ 4) (k1 : S.2.2.2.1.1 + n ≤ 120 → PM I J Q (sP S (fdl a n S.2.2.2.1)) (.int (nI (S.2.2.2.1.1 + n)))) (k3 : 120 < S.2.2.2.1.1 + n → PM I J Q (fnd 1 S) (.int (-1000000002))) : CT m_X12_feed 0 [.ref 74, .int a, .int (nI n)] 90 al_R0 I J Q := by
  have ht := hM.2.2.2.1
  have ht120 := hV.2.2.1.1
  refine r_X12_feed (by decide) (fun F wk b0 b16 b34 b38 b77 => b0 _ _ _ _ _ _ (mi_t (by decide) n1 n2 (br_u n10 (b16 _ _ _ _ _ _ ?_))))
  dsimp only [k_X12_feed_16, o_iload, o_lload, o_aload, o_istore, o_astore, o_lstore, o_iinc, o_ic, o_lc, o_sc, o_iadd, o_isub, o_imul, o_iand, o_ior, o_ixor, o_ishl, o_ishr, o_ladd, o_lsub, o_land, o_lor, o_lxor, o_lshl, o_lshr, o_i2l, o_l2i, o_lcmp, o_dup, o_dup2, o_pop, o_getI, o_getJ, o_getR, o_putI, o_putZ, o_putJ, o_iald, o_zald, o_lald, o_aald, o_iast, o_zast, o_last, o_alen, o_cpyI, o_cpyJ, o_iret, o_zret, o_lret, o_aret, o_vret, o_idiv, o_irem, o_ineg, o_ifeq, o_ifne, o_iflt, o_ifge, o_ifgt, o_ifle, o_iceq, o_icne, o_iclt, o_icge, o_icgt, o_icle, al_gL, al_sL, al_sJ, al_gd]
  show (I 74 10 + nI n ≤ nI 120 → _) ∧ (¬ I 74 10 + nI n ≤ nI 120 → _)
  rw [ht.1, nI_add, nI_leI (by omega) (by omega)]
  refine And.intro (fun c => ?_) (fun c => ma_finding hM (k := 1) (by decide) (by decide +kernel) (k3 (by omega)))
  have h9 := k1 c
  have loop : ∀ (k : Nat) (v : Int32) (t : Nat × (Nat → Int32)) (I' : II), v + nI 1 = nI k → fdl a n S.2.2.2.1 = fdl a k t → t.1 + k = S.2.2.2.1.1 + n → mtp I' t → (∀ p, p ≠ 74 → p ≠ 81 → I' p = I p) → (∀ j, j ≠ 10 → I' 74 j = I 74 j) → F 38 [some (.ref 74), some (.int a), some (.int (nI n)), some (.int v)] [] 90 al_R0 I' J := by
    intro k
    induction k with
    | zero =>
      intro v t I' hv h1 h2 g1 g2 g3
      have hv2 : v = -1 := by
        have h3 : v + nI 1 - nI 1 = nI 0 - nI 1 := by rw [hv]
        rw [Int32.add_sub_cancel] at h3
        rw [h3]
        decide +kernel
      refine b38 _ _ _ _ _ _ (br_t (by rw [hv2]; decide +kernel) (b77 _ _ _ _ _ _ ?_))
      show Q (some (.int (I' 74 10))) 90 al_R0 I' J
      rw [h1] at h9
      rw [g1.1, show t.1 = S.2.2.2.1.1 + n from h2]
      exact h9 I' J (hM.tape g1 g2 g3) (fun p hp => ⟨g2 p (by omega) (by omega), rfl⟩)
    | succ k ih =>
      intro v t I' hv h1 h2 g1 g2 g3
      have hv2 : v = nI k := by
        have h3 : v + nI 1 - nI 1 = nI k + nI 1 - nI 1 := by rw [hv, nI_s]
        rw [Int32.add_sub_cancel, Int32.add_sub_cancel] at h3
        exact h3
      subst hv2
      refine b38 _ _ _ _ _ _ (br_f (nI_pos (by omega)) (Exists.intro t.1 (And.intro (by omega) (And.intro g1.1 ?_))))
      refine ih (nI k + (-1)) (fda a k t) _ ?_ h1 (by show t.1 + 1 + k = _; omega) ⟨?_, fun j hj => ?_⟩ (fun p p1 p2 => ?_) (fun j hj => ?_)
      · rw [Int32.add_assoc, show (-1 : Int32) + nI 1 = 0 by decide +kernel, Int32.add_zero]
      · show al_up (al_up I' 81 t.1 _) 74 10 (al_up I' 81 t.1 _ 74 10 + nI 1) 74 10 = nI (t.1 + 1)
        rw [al_up_s, al_up_p (by decide), g1.1]
        exact (nI_s _).symm
      · have hj : j < t.1 + 1 := hj
        rw [al_up_p (by decide)]
        show _ = ups t.2 t.1 _ j
        by_cases e : j = t.1
        · rw [e, al_up_s, ups_s]
        · rw [al_up_j e, ups_n e]
          exact g1.2 j (by omega)
      · rw [al_up_row p1, al_up_row p2]
        exact g2 p p1 p2
      · rw [al_up_j hj, al_up_p (by decide)]
        exact g3 j hj
  refine b34 _ _ _ _ _ _ (loop n _ S.2.2.2.1 I ?_ rfl rfl ht (fun _ _ _ => rfl) (fun _ _ => rfl))
  rw [Int32.sub_add_cancel]
theorem M_feed2 {a b : Int32} {S : SG} {I : II} {J : JJ} {Q : QT} (hM : MI S I J) (hg : ∀ n, 1 ≤ n → n ≤ 4 → ¬ b = nI n) (kq : PM I J Q (fnd 0 S) (.int (-1000000001))) : CT m_X12_feed 0 [.ref 74, .int a, .int b] 90 al_R0 I J Q :=
  r_X12_feed (by decide) (fun F wk b0 b16 b34 b38 b77 => b0 _ _ _ _ _ _ (mi_f (by decide) (by decide) hg (br_v nI_0 (ma_finding hM (k := 0) (by decide) (by decide +kernel) kq))))
theorem M_wipe {S : SG} {I : II} {J : JJ} {Q : QT} (hM : MI S I J) (kq : PM I J Q (sP S (0, S.2.2.2.1.2)) (.int (nI S.2.2.2.1.1))) : CT m_X12_wipe 0 [.ref 74] 90 al_R0 I J Q := by
  refine r_X12_wipe (by decide) (fun F wk b0 => b0 _ _ _ _ _ _ ?_)
  show Q (some (.int (I 74 10))) 90 al_R0 (al_up I 74 10 (nI 0)) J
  rw [hM.2.2.2.1.1]
  exact kq _ _ (hM.tape ⟨al_up_s, fun j hj => absurd hj (by show ¬ j < 0; omega)⟩ (fun p p1 p2 => al_up_row p1) (fun j hj => al_up_j hj)) (fun p hp => ⟨al_up_row (by omega), rfl⟩)
theorem ma_copyA {I : II} {J : JJ} {Q : QT} (kq : ∀ I' : II, (∀ q, q ≠ 76 → I' q = I q) → (∀ j, j < 143 → I' 76 j = I 75 j) → Q none 90 al_R0 I' J) : CT m_X12_copyRow 0 [.ref 75, .ref 76] 90 al_R0 I J Q := by
  refine r_X12_copyRow (by decide) (fun F wk b0 b2 b21 => ?_)
  have loop : ∀ (d i : Nat) (I' : II), i + d = 143 → (∀ q, q ≠ 76 → I' q = I q) → (∀ j, j < i → I' 76 j = I 75 j) → F 2 [some (.ref 75), some (.ref 76), some (.int (nI i))] [] 90 al_R0 I' J := by
    intro d
    induction d with
    | zero =>
      intro i I' hi g1 g2
      obtain rfl : i = 143 := by omega
      exact b2 _ _ _ _ _ _ (br_t (nI_le (by omega) (by omega)) (b21 _ _ _ _ _ _ (kq I' g1 g2)))
    | succ d ih =>
      intro i I' hi g1 g2
      have h9 := ih (i + 1) (al_up I' 76 i (I' 75 i)) (by omega) (fun q hq => by rw [al_up_row hq]; exact g1 q hq) (fun j hj => by
        by_cases e : j = i
        · subst e; rw [al_up_s, g1 75 (by decide)]
        · rw [al_up_j e]; exact g2 j (by omega))
      rw [nI_s i] at h9
      exact b2 _ _ _ _ _ _ (br_f (nI_ge (by omega) (by omega)) (Exists.intro i (And.intro (by omega) (And.intro rfl (Exists.intro i (And.intro (by omega) (And.intro rfl h9)))))))
  exact b0 _ _ _ _ _ _ (loop 143 0 I rfl (fun _ _ => rfl) (fun j hj => absurd hj (by omega)))
theorem ma_copyB {I : II} {J : JJ} {Q : QT} (kq : ∀ I' : II, (∀ q, q ≠ 75 → I' q = I q) → (∀ j, j < 143 → I' 75 j = I 76 j) → Q none 90 al_R0 I' J) : CT m_X12_copyRow 0 [.ref 76, .ref 75] 90 al_R0 I J Q := by
  refine r_X12_copyRow (by decide) (fun F wk b0 b2 b21 => ?_)
  have loop : ∀ (d i : Nat) (I' : II), i + d = 143 → (∀ q, q ≠ 75 → I' q = I q) → (∀ j, j < i → I' 75 j = I 76 j) → F 2 [some (.ref 76), some (.ref 75), some (.int (nI i))] [] 90 al_R0 I' J := by
    intro d
    induction d with
    | zero =>
      intro i I' hi g1 g2
      obtain rfl : i = 143 := by omega
      exact b2 _ _ _ _ _ _ (br_t (nI_le (by omega) (by omega)) (b21 _ _ _ _ _ _ (kq I' g1 g2)))
    | succ d ih =>
      intro i I' hi g1 g2
      have h9 := ih (i + 1) (al_up I' 75 i (I' 76 i)) (by omega) (fun q hq => by rw [al_up_row hq]; exact g1 q hq) (fun j hj => by
        by_cases e : j = i
        · subst e; rw [al_up_s, g1 76 (by decide)]
        · rw [al_up_j e]; exact g2 j (by omega))
      rw [nI_s i] at h9
      exact b2 _ _ _ _ _ _ (br_f (nI_ge (by omega) (by omega)) (Exists.intro i (And.intro (by omega) (And.intro rfl (Exists.intro i (And.intro (by omega) (And.intro rfl h9)))))))
  exact b0 _ _ _ _ _ _ (loop 143 0 I rfl (fun _ _ => rfl) (fun j hj => absurd hj (by omega)))
theorem MTn.copy {b d : Nat} {T : TW} {I I' : II} (h : MTn b T I) (hk : ∀ j, j < 143 → I' d j = I b j) : MTn d T I' := by
  obtain ⟨h1, h2, h3, h4⟩ := h
  exact ⟨fun j hj => by rw [hk j (by omega)]; exact h1 j hj, fun h hh f hf => by rw [hk _ (by omega)]; exact h2 h hh f hf, fun h hh k hj => by rw [hk _ (by omega)]; exact h3 h hh k hj, by rw [hk _ (by omega)]; exact h4⟩
theorem M_image {S : SG} {I : II} {J : JJ} {Q : QT} (hM : MI S I J) (kq : PM I J Q (sK S true S.1) (.int (nI 1))) : CT m_X12_image 0 [.ref 74] 90 al_R0 I J Q := by
  refine r_X12_image (by decide) (fun F wk b0 => b0 _ _ _ _ _ _ (ma_copyA (fun I' g1 g2 => And.intro (Or.inr nI_1') ?_)))
  have hk : ∀ p, p ≠ 74 → p ≠ 76 → al_up I' 74 2 (nI 1) p = I p := fun p p1 p2 => by rw [al_up_row p1]; exact g1 p p2
  have h74 : ∀ j, j ≠ 2 → al_up I' 74 2 (nI 1) 74 j = I 74 j := fun j hj => by rw [al_up_j hj, g1 74 (by decide)]
  obtain ⟨h1, h2, h3, h4, h5, h6⟩ := hM
  exact kq _ _ ⟨h1.keep (hk 75 (by decide) (by decide)), h2.keep (h74 5 (by decide)) rfl, ⟨al_up_s, fun _ => (h1.copy g2).keep (al_up_row (by decide))⟩, h4.keep (h74 10 (by decide)) (hk 81 (by decide) (by decide)), h5.keep (hk 86 (by decide) (by decide)) (hk 87 (by decide) (by decide)) rfl, h6.keep (hk 77 (by decide) (by decide))⟩ (fun p hp => ⟨hk p (by omega) (by omega), rfl⟩)
theorem M_undo1 {S : SG} {I : II} {J : JJ} {Q : QT} (hM : MI S I J) (hb : S.2.1 = true) (kq : PM I J Q (sT S S.2.2.1) (.int (nI S.2.2.1.2.1))) : CT m_X12_undo 0 [.ref 74] 90 al_R0 I J Q := by
  have hB := hM.2.2.1
  refine r_X12_undo (by decide) (fun F wk b0 b14 => b0 _ _ _ _ _ _ (br_u (by rw [hB.1, hb]; decide +kernel) (b14 _ _ _ _ _ _ (ma_copyB (fun I' g1 g2 => And.intro (Or.inl nI_0) (Exists.intro 142 (And.intro (by decide) (And.intro rfl ?_))))))))
  have hT : MTn 75 S.2.2.1 (al_up I' 74 5 (nI 0)) := ((hB.2 hb).copy g2).keep (al_up_row (by decide))
  dsimp only [o_iload, o_lload, o_aload, o_istore, o_astore, o_lstore, o_iinc, o_ic, o_lc, o_sc, o_iadd, o_isub, o_imul, o_iand, o_ior, o_ixor, o_ishl, o_ishr, o_ladd, o_lsub, o_land, o_lor, o_lxor, o_lshl, o_lshr, o_i2l, o_l2i, o_lcmp, o_dup, o_dup2, o_pop, o_getI, o_getJ, o_getR, o_putI, o_putZ, o_putJ, o_iald, o_zald, o_lald, o_aald, o_iast, o_zast, o_last, o_alen, o_cpyI, o_cpyJ, o_iret, o_zret, o_lret, o_aret, o_vret, o_idiv, o_irem, o_ineg, o_ifeq, o_ifne, o_iflt, o_ifge, o_ifgt, o_ifle, o_iceq, o_icne, o_iclt, o_icge, o_icgt, o_icle, al_gL, al_sL, al_sJ, al_gd]
  rw [hT.2.2.2]
  exact kN.P ⟨fun q h1 h2 => by rw [al_up_row h1]; exact g1 q h2, fun j hj => by rw [al_up_j hj, g1 74 (by decide)], fun _ _ => rfl⟩ hM hT (Or.inl al_up_s) kq
theorem M_undo2 {S : SG} {I : II} {J : JJ} {Q : QT} (hM : MI S I J) (hb : S.2.1 = false) (kq : PM I J Q (fnd 3 S) (.int (-1000000004))) : CT m_X12_undo 0 [.ref 74] 90 al_R0 I J Q := by
  have hB := hM.2.2.1
  exact r_X12_undo (by decide) (fun F wk b0 b14 => b0 _ _ _ _ _ _ (br_v (by rw [hB.1, hb]; exact nI_0) (ma_finding hM (k := 3) (by decide) (by decide +kernel) kq)))
theorem M_tear {S : SG} {I : II} {J : JJ} {Q : QT} (hM : MI S I J) (kq : PM I J Q (sK S false S.2.2.1) (.int (nI S.2.1.toNat))) : CT m_X12_tear 0 [.ref 74] 90 al_R0 I J Q := by
  have hB := hM.2.2.1
  refine r_X12_tear (by decide) (fun F wk b0 b11 b12 => ?_)
  have h12 : F 12 [some (.ref 74), none] [.int (nI S.2.1.toNat)] 90 al_R0 I J := by
    refine b12 _ _ _ _ _ _ (And.intro (Or.inl nI_0) ?_)
    have hk : ∀ p, p ≠ 74 → al_up I 74 2 (nI 0) p = I p := fun p p1 => al_up_row p1
    have h74 : ∀ j, j ≠ 2 → al_up I 74 2 (nI 0) 74 j = I 74 j := fun j hj => al_up_j hj
    obtain ⟨h1, h2, h3, h4, h5, h6⟩ := hM
    exact kq _ _ ⟨h1.keep (hk 75 (by decide)), h2.keep (h74 5 (by decide)) rfl, ⟨al_up_s, fun q => absurd (show false = true from q) (by decide)⟩, h4.keep (h74 10 (by decide)) (hk 81 (by decide)), h5.keep (hk 86 (by decide)) (hk 87 (by decide)) rfl, h6.keep (hk 77 (by decide))⟩ (fun p hp => ⟨hk p (by omega), rfl⟩)
  refine b0 _ _ _ _ _ _ (And.intro (fun c => ?_) (fun c => ?_))
  · rw [hB.1] at c
    rw [bz_f c] at h12
    exact b11 _ _ _ _ _ _ h12
  · rw [hB.1] at c
    rw [bz_t c] at h12
    exact h12
theorem M_count1 {a : Int32} {w : Nat} {S : SG} {I : II} {J : JJ} {Q : QT} (hM : MI S I J) (hV : VS S) (hw : w < 6) (ea : a = nI w) (kq : PM I J Q S (.int (cov S w))) : CT m_X12_count 0 [.ref 74, .int a] 90 al_R0 I J Q := by
  subst ea
  have h9 := hM.go kq
  refine r_X12_count (by decide) (fun F wk b0 b40 b49 b55 b60 b62 b84 b85 b93 b95 => b0 _ _ _ _ _ _ ?_)
  rcases (show w = 0 ∨ w = 1 ∨ w = 2 ∨ w = 3 ∨ w = 4 ∨ w = 5 by omega) with rfl | rfl | rfl | rfl | rfl | rfl
  · refine br_t (by decide +kernel) (b40 _ _ _ _ _ _ (Exists.intro 142 (And.intro (by decide) (And.intro rfl ?_))))
    show Q (some (.int (I 75 142))) 90 al_R0 I J
    rw [hM.1.2.2.2]
    exact h9
  · exact br_f (by decide +kernel) (br_t (by decide +kernel) (b49 _ _ _ _ _ _ (ma_manyOf (x := 1) hM.1.1 hV.1.cdo (by omega) h9)))
  · exact br_f (by decide +kernel) (br_f (by decide +kernel) (br_t (by decide +kernel) (b49 _ _ _ _ _ _ (ma_manyOf (x := 2) hM.1.1 hV.1.cdo (by omega) h9))))
  · exact br_f (by decide +kernel) (br_f (by decide +kernel) (br_f (by decide +kernel) (br_t (by decide +kernel) (b49 _ _ _ _ _ _ (ma_manyOf (x := 3) hM.1.1 hV.1.cdo (by omega) h9)))))
  · refine br_f (by decide +kernel) (br_f (by decide +kernel) (br_f (by decide +kernel) (br_f (by decide +kernel) (br_t (by decide +kernel) (b55 _ _ _ _ _ _ ?_)))))
    show Q (some (.int (I 74 10))) 90 al_R0 I J
    rw [hM.2.2.2.1.1]
    exact h9
  · refine br_f (by decide +kernel) (br_f (by decide +kernel) (br_f (by decide +kernel) (br_f (by decide +kernel) (br_f (by decide +kernel) (br_t (by decide +kernel) (b60 _ _ _ _ _ _ ?_))))))
    have loop : ∀ d i : Nat, i + d = 64 → F 62 [some (.ref 74), some (.int (nI 5)), some (.int (nI (cnt (fun j => decide (10 ≤ S.1.1 j)) i))), some (.int (nI i))] [] 90 al_R0 I J := by
      intro d
      induction d with
      | zero =>
        intro i hi
        obtain rfl : i = 64 := by omega
        exact b62 _ _ _ _ _ _ (br_t (nI_le (by omega) (by omega)) (b93 _ _ _ _ _ _ h9))
      | succ d ih =>
        intro i hi
        have h8 := ih (i + 1) (by omega)
        have hv := hM.1.1 i (by omega)
        have hc9 := hV.1.cdo i (by omega)
        refine b62 _ _ _ _ _ _ (br_f (nI_ge (by omega) (by omega)) (Exists.intro i (And.intro (by omega) (And.intro rfl (And.intro (fun c2 => b84 _ _ _ _ _ _ (b85 _ _ _ _ _ _ ?_)) (fun c2 => b85 _ _ _ _ _ _ ?_))))))
        · rw [hv, nI_ltI (by omega) (by omega)] at c2
          rw [cnt_no (decide_eq_false (by omega)), nI_s i] at h8
          dsimp only [k_X12_count_85, o_iload, o_lload, o_aload, o_istore, o_astore, o_lstore, o_iinc, o_ic, o_lc, o_sc, o_iadd, o_isub, o_imul, o_iand, o_ior, o_ixor, o_ishl, o_ishr, o_ladd, o_lsub, o_land, o_lor, o_lxor, o_lshl, o_lshr, o_i2l, o_l2i, o_lcmp, o_dup, o_dup2, o_pop, o_getI, o_getJ, o_getR, o_putI, o_putZ, o_putJ, o_iald, o_zald, o_lald, o_aald, o_iast, o_zast, o_last, o_alen, o_cpyI, o_cpyJ, o_iret, o_zret, o_lret, o_aret, o_vret, o_idiv, o_irem, o_ineg, o_ifeq, o_ifne, o_iflt, o_ifge, o_ifgt, o_ifle, o_iceq, o_icne, o_iclt, o_icge, o_icgt, o_icle, al_gL, al_sL, al_sJ, al_gd]
          rw [nI_add, Nat.add_zero]
          exact h8
        · rw [hv, nI_ltI (by omega) (by omega)] at c2
          rw [cnt_yes (decide_eq_true (by omega)), nI_s i, nI_s (cnt _ i)] at h8
          exact h8
    exact loop 64 0 rfl
theorem M_count2 {a : Int32} {S : SG} {I : II} {J : JJ} {Q : QT} (hM : MI S I J) (hg : ing 6 a) (kq : PM I J Q (fnd 0 S) (.int (-1000000001))) : CT m_X12_count 0 [.ref 74, .int a] 90 al_R0 I J Q :=
  r_X12_count (by decide) (fun F wk b0 b40 b49 b55 b60 b62 b84 b85 b93 b95 => b0 _ _ _ _ _ _ (br_f (hg 0 (by decide)) (br_f (hg 1 (by decide)) (br_f (hg 2 (by decide)) (br_f (hg 3 (by decide)) (br_f (hg 4 (by decide)) (br_f (hg 5 (by decide)) (b95 _ _ _ _ _ _ (ma_finding hM (k := 0) (by decide) (by decide +kernel) kq)))))))))
theorem m1T : (-1 : Int32).toInt = -1 := by decide +kernel
theorem M_status1 {a : Int32} {w : Nat} {S : SG} {I : II} {J : JJ} {Q : QT} (hM : MI S I J) (hw : w < 7) (ea : a = nI w) (kq : PM I J Q S (.int (S.2.2.2.2.2 w))) : CT m_X12_status 0 [.ref 74, .int a] 90 al_R0 I J Q := by
  subst ea
  have hf := hM.2.2.2.2.2
  refine r_X12_status (by decide) (fun F wk b0 b21 b27 => b0 _ _ _ _ _ _ (mw_t (by rw [m1T, nT (by omega)]; omega) (by rw [nT (by omega), nT (by omega)]; omega) (br_f n10 (Exists.intro (w + 1) (And.intro (by omega) (And.intro (nI_s w).symm (b27 _ _ _ _ _ _ ?_)))))))
  have h9 := hM.go kq
  rw [← hf.1 w hw] at h9
  exact h9
theorem M_status2 {a : Int32} {S : SG} {I : II} {J : JJ} {Q : QT} (hM : MI S I J) (ea : a = -1) (kq : PM I J Q S (.int (smI S.2.2.2.2.2 7))) : CT m_X12_status 0 [.ref 74, .int a] 90 al_R0 I J Q := by
  subst ea
  have hf := hM.2.2.2.2.2
  refine r_X12_status (by decide) (fun F wk b0 b21 b27 => b0 _ _ _ _ _ _ (mw_t (by rw [m1T]; omega) (by rw [m1T, nT (by omega)]; omega) (br_f n10 (Exists.intro 0 (And.intro (by omega) (And.intro m1_s (b27 _ _ _ _ _ _ ?_)))))))
  have h9 := hM.go kq
  rw [← hf.2] at h9
  exact h9
theorem M_status3 {a : Int32} {S : SG} {I : II} {J : JJ} {Q : QT} (hM : MI S I J) (hg : ing 7 a) (hn : ¬ a = -1) (kq : PM I J Q (fnd 0 S) (.int (-1000000001))) : CT m_X12_status 0 [.ref 74, .int a] 90 al_R0 I J Q := by
  have h1 := ing_of hg (by decide)
  have h2 : ¬ a.toInt = -1 := fun q => hn (Int32.toInt_inj.mp (q.trans m1T.symm))
  exact r_X12_status (by decide) (fun F wk b0 b21 b27 => b0 _ _ _ _ _ _ (mw_f (by rw [m1T, nT (by omega)]; omega) (br_t nI_0 (b21 _ _ _ _ _ _ (ma_finding hM (k := 0) (by decide) (by decide +kernel) (fun I' J' g1 g2 => b27 _ _ _ _ _ _ (kq I' J' g1 g2)))))))
