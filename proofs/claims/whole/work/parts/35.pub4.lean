/-! NEIGHBOURS, YEARS, TAPE, IMAGES, COUNTS, STATUS -/
def nbn (c : Nat → Nat) (a : Nat) (s : Int32 × Nat) : Nat → Int32 × Nat
  | 0 => s
  | e + 1 => if (nbn c a s e).2 < cnt (fun p => cor c a p && cor c (a + 1 + e) p) 81 then (nI 10 * nI a + nI (a + 1 + e), cnt (fun p => cor c a p && cor c (a + 1 + e) p) 81) else nbn c a s e
def nbo (c : Nat → Nat) (nh : Nat) : Nat → Int32 × Nat
  | 0 => (-1, 0)
  | a + 1 => nbn c a (nbo c nh a) (nh - (a + 1))
theorem nbn_le {c : Nat → Nat} {a : Nat} {s : Int32 × Nat} (h : s.2 ≤ 81) : ∀ e, (nbn c a s e).2 ≤ 81
  | 0 => h
  | e + 1 => by
    have h1 := nbn_le (c := c) (a := a) h e
    have h2 := cnt_le (fun p => cor c a p && cor c (a + 1 + e) p) 81
    unfold nbn
    split
    · exact h2
    · exact h1
theorem nbo_le (c : Nat → Nat) (nh : Nat) : ∀ a, (nbo c nh a).2 ≤ 81
  | 0 => Nat.zero_le _
  | a + 1 => nbn_le (nbo_le c nh a) _
theorem X_neighbours {S : SG} {I : II} {J : JJ} {Q : QT} (hC : CI S I J) (hV : VS S) (k1 : ¬ (nbo S.1.1 S.1.2.1 S.1.2.1).1 < 0 → PX I J Q S (.int (nbo S.1.1 S.1.2.1 S.1.2.1).1)) (k3 : (nbo S.1.1 S.1.2.1 S.1.2.1).1 < 0 → PX I J Q (fnd 3 S) (.int (-1000000004))) : CT m_X11_neighbours 0 [.ref 0] 90 al_R0 I J Q := by
  have h6 := hV.1.1
  have hI := hC.1.1
  have rf := f74.rf I J
  refine r_X11_neighbours (by decide) (fun F wk b0 b6 b22 b63 b69 b75 b83 b89 => ?_)
  generalize hc : S.1.1 = c at *
  generalize hn : S.1.2.1 = nh at *
  have h75 : F 75 [some (.ref 0), some (.int (nbo c nh nh).1), none, none, none, none] [] 90 al_R0 I J := by
    refine b75 _ _ _ _ _ _ (And.intro (fun q => ?_) (fun q => ?_))
    · exact b83 _ _ _ _ _ _ (cx_finding hC (k := 3) (by decide) (by decide +kernel) (fun I2 J2 g1 g2 => b89 _ _ _ _ _ _ (k3 q I2 J2 g1 g2)))
    · exact b89 _ _ _ _ _ _ (k1 q I J hC rf)
  have inner : ∀ a, a < nh → (F 69 [some (.ref 0), some (.int (nbo c nh (a + 1)).1), some (.int (nI (nbo c nh (a + 1)).2)), some (.int (nI a)), none, none] [] 90 al_R0 I J) → ∀ d e, a + 1 + e + d = nh → F 22 [some (.ref 0), some (.int (nbn c a (nbo c nh a) e).1), some (.int (nI (nbn c a (nbo c nh a) e).2)), some (.int (nI a)), some (.int (nI (a + 1 + e))), none] [] 90 al_R0 I J := by
    intro a ha k d
    induction d with
    | zero =>
      intro e he
      refine b22 _ _ _ _ _ _ (br_t (by rw [hI]; exact nI_le (by omega) (by omega)) ?_)
      have he2 : nbo c nh (a + 1) = nbn c a (nbo c nh a) e := by
        rw [nbo, show nh - (a + 1) = e by omega]
      rw [he2] at k
      exact wk _ _ _ _ _ _ _ _ (by simp [al_le]) k
    | succ d ih =>
      intro e he
      have h9 := ih (e + 1) (by omega)
      have hle := nbn_le (c := c) (a := a) (nbo_le c nh a) e
      have hcl := cnt_le (fun p => cor c a p && cor c (a + 1 + e) p) 81
      refine b22 _ _ _ _ _ _ (br_f (by rw [hI]; exact nI_ge (by omega) (by omega)) ?_)
      refine ca_cornersInCommon (hc ▸ hC.1.2.1) (hc ▸ hV.1.cdo) (by omega) (by omega) ?_
      refine And.intro (fun c2 => ?_) (fun c2 => ?_)
      · rw [nI_leI (by omega) (by omega)] at c2
        rw [nbn, if_neg (by omega), show a + 1 + (e + 1) = (a + 1 + e) + 1 by omega, nI_s (a + 1 + e)] at h9
        exact b63 _ _ _ _ _ _ (wk _ _ _ _ _ _ _ _ (by simp [al_le]) h9)
      · rw [nI_leI (by omega) (by omega)] at c2
        rw [nbn, if_pos (by omega), show a + 1 + (e + 1) = (a + 1 + e) + 1 by omega, nI_s (a + 1 + e)] at h9
        exact b63 _ _ _ _ _ _ (wk _ _ _ _ _ _ _ _ (by simp [al_le]) h9)
  have loop : ∀ d a, a + d = nh → F 6 [some (.ref 0), some (.int (nbo c nh a).1), some (.int (nI (nbo c nh a).2)), some (.int (nI a)), none, none] [] 90 al_R0 I J := by
    intro d
    induction d with
    | zero =>
      intro a ha
      obtain rfl : a = nh := by omega
      refine b6 _ _ _ _ _ _ (br_t (by rw [hI]; exact nI_le (by omega) (by omega)) ?_)
      exact wk _ _ _ _ _ _ _ _ (by simp [al_le]) h75
    | succ d ih =>
      intro a ha
      have h9 := ih (a + 1) (by omega)
      rw [nI_s a] at h9
      refine b6 _ _ _ _ _ _ (br_f (by rw [hI]; exact nI_ge (by omega) (by omega)) ?_)
      have h10 := inner a (by omega) (b69 _ _ _ _ _ _ h9) (nh - (a + 1)) 0 (by omega)
      rw [Nat.add_zero, nI_s a] at h10
      exact h10
  exact b0 _ _ _ _ _ _ (loop nh 0 (by omega))
/-- a house's year -/
def mni (x y : Int32) : Int32 := if y < x then y else x
def lyp (T : TW) (h : Nat) : Int32 := mni (nI (rtN T h * cts T h)) (T.2.2.1 h 2)
def ly1 (T : TW) (h : Nat) : TW := setf (setf T h 2 (T.2.2.1 h 2 - lyp T h)) h 3 (T.2.2.1 h 3 + (nI (rtN T h * cts T h) - lyp T h))
def lyb (T : TW) (h : Nat) : Int32 := ar (cp (ly1 T h) h) 81
def lyT (T : TW) (h : Nat) : TW := if nI 40 ≤ T.2.2.1 h 2 - lyp T h ∧ rcN T h < 8 ∧ ¬ lyb T h < 0 then setf (rdd (ly1 T h) h (lyb T h).toNatClampNeg) h 2 (T.2.2.1 h 2 - lyp T h - nI 40) else ly1 T h
theorem ly1_rc (T : TW) (h : Nat) : rcN (ly1 T h) h = rcN T h := by
  unfold rcN ly1 setf
  dsimp only
  rw [al_up_j (by decide), al_up_j (by decide)]
theorem VTly1 {T : TW} {h : Nat} (hv : VT T) : VT (ly1 T h) := VT.setf (VT.setf hv (by omega) (by omega) (by omega)) (by omega) (by omega) (by omega)
theorem VTlyT {T : TW} {h : Nat} (hv : VT T) : VT (lyT T h) := by
  have h1 := VTly1 (h := h) hv
  by_cases e : nI 40 ≤ T.2.2.1 h 2 - lyp T h ∧ rcN T h < 8 ∧ ¬ lyb T h < 0
  · rw [show lyT T h = _ from if_pos e]
    exact VT.setf (VT.rdd h1 (by rw [ly1_rc]; exact e.2.1)) (by omega) (by omega) (by omega)
  · rw [show lyT T h = _ from if_neg e]
    exact h1
theorem lyT_s (T : TW) (h : Nat) : (lyT T h).1 = T.1 ∧ (lyT T h).2.1 = T.2.1 := by
  by_cases e : nI 40 ≤ T.2.2.1 h 2 - lyp T h ∧ rcN T h < 8 ∧ ¬ lyb T h < 0
  · rw [show lyT T h = _ from if_pos e]
    exact ⟨rfl, rfl⟩
  · rw [show lyT T h = _ from if_neg e]
    exact ⟨rfl, rfl⟩
theorem ca_liveYear {h : Nat} {S : SG} {I : II} {J : JJ} {Q : QT} (hC : CI S I J) (hV : VT S.1) (hh : h < S.1.2.1) (kq : ∀ I' : II, CI (sT S (lyT S.1 h)) I' J → f74 I J I' J → Q (some (.int (lyp S.1 h))) 90 al_R0 I' J) : CT m_X11_liveYear 0 [.ref 0, .int (nI h)] 90 al_R0 I J Q := by
  have h6 := hV.1
  obtain ⟨r1, r2, r3⟩ := hV.rt hh
  obtain ⟨m1, m2⟩ := hV.rc hh
  have hcl := tb_hC tb8 (show h < 6 by omega)
  refine r_X11_liveYear (by decide) (fun F wk b0 b108 => ?_)
  refine b0 _ _ _ _ _ _ (Exists.intro h (And.intro (by omega) (And.intro rfl (al_rk_in (tb_hO tb8 (by omega)) ?_))))
  dsimp only [o_iload, o_lload, o_aload, o_istore, o_astore, o_lstore, o_iinc, o_ic, o_lc, o_sc, o_iadd, o_isub, o_imul, o_iand, o_ior, o_ixor, o_ishl, o_ishr, o_ladd, o_lsub, o_land, o_lor, o_lxor, o_lshl, o_lshr, o_i2l, o_l2i, o_lcmp, o_dup, o_dup2, o_pop, o_getI, o_getJ, o_getR, o_putI, o_putZ, o_putJ, o_iald, o_zald, o_lald, o_aald, o_iast, o_zast, o_last, o_alen, o_cpyI, o_cpyJ, o_iret, o_zret, o_lret, o_aret, o_vret, o_idiv, o_irem, o_ineg, o_ifeq, o_ifne, o_iflt, o_ifge, o_ifgt, o_ifle, o_iceq, o_icne, o_iclt, o_icge, o_icgt, o_icle, al_gL, al_sL, al_sJ, al_gd]
  refine al_isC_in hcl ?_
  rw [show I (8 + 3 + 2 * h) 1 = S.1.2.2.1 h 1 from hC.1.2.2.2.1 h (by omega) 1 (by omega), r3]
  refine ca_countsOf hC.1 hV hC.2.1 hh (fun I1 g1 g2 => ?_)
  have hC1 := hC.k39 g1 g2
  have hfd := hC1.1.2.2.2.1 h (by omega)
  dsimp only [al_pu, o_iload, o_lload, o_aload, o_istore, o_astore, o_lstore, o_iinc, o_ic, o_lc, o_sc, o_iadd, o_isub, o_imul, o_iand, o_ior, o_ixor, o_ishl, o_ishr, o_ladd, o_lsub, o_land, o_lor, o_lxor, o_lshl, o_lshr, o_i2l, o_l2i, o_lcmp, o_dup, o_dup2, o_pop, o_getI, o_getJ, o_getR, o_putI, o_putZ, o_putJ, o_iald, o_zald, o_lald, o_aald, o_iast, o_zast, o_last, o_alen, o_cpyI, o_cpyJ, o_iret, o_zret, o_lret, o_aret, o_vret, o_idiv, o_irem, o_ineg, o_ifeq, o_ifne, o_iflt, o_ifge, o_ifgt, o_ifle, o_iceq, o_icne, o_iclt, o_icge, o_icgt, o_icle, al_gL, al_sL, al_sJ, al_gd, o_mmin]
  rw [pk_mul]
  refine al_isC_in hcl (al_r8_in (by decide) ?_)
  rw [show I1 (8 + 3 + 2 * h) 2 = S.1.2.2.1 h 2 from hfd 2 (by omega)]
  refine al_isC_in hcl (al_isC_in hcl (al_isC_in hcl (al_isC_in hcl (al_isC_in hcl ?_))))
  rw [al_up_j (show (3 : Nat) ≠ 2 by decide), show I1 (8 + 3 + 2 * h) 3 = S.1.2.2.1 h 3 from hfd 3 (by omega), al_up_j (show (2 : Nat) ≠ 3 by decide), al_up_s]
  have hT1 : CTn 8 (ly1 S.1 h) _ J := CTn.setf (f := 3) (v := S.1.2.2.1 h 3 + (nI (rtN S.1 h * cts S.1 h) - lyp S.1 h)) (CTn.setf (f := 2) (v := S.1.2.2.1 h 2 - lyp S.1 h) hC1.1 (show h < 6 by omega) (by omega)) (show h < 6 by omega) (by omega)
  have hC2 : CI (sT S (ly1 S.1 h)) _ J := CI.same hC1 rfl hT1 (fun p hp => ⟨by rw [al_up_row (by omega), al_up_row (by omega)], rfl⟩)
  have hf2 : f74 I J (al_up (al_up I1 (8 + 3 + 2 * h) (fi 2) (S.1.2.2.1 h 2 - lyp S.1 h)) (8 + 3 + 2 * h) (fi 3) (S.1.2.2.1 h 3 + (nI (rtN S.1 h * cts S.1 h) - lyp S.1 h))) J := fun p hp => ⟨by rw [al_up_row (by omega), al_up_row (by omega)]; exact g1 p (by omega), rfl⟩
  have hrc : I1 (8 + 3 + 2 * h) 5 = nI (rcN S.1 h) := by rw [← m2]; exact hfd 4 (by omega)
  have hend : ∀ I' : II, CI (sT S (lyT S.1 h)) I' J → f74 I J I' J → F 108 [some (.ref 0), some (.int (nI h)), some (.ref (8 + 3 + 2 * h)), none, some (.int (lyp S.1 h)), none] [] 90 al_R0 I' J := fun I' q1 q2 => b108 _ _ _ _ _ _ (kq I' q1 q2)
  refine And.intro (fun c => ?_) (fun c => ?_)
  · have he : lyT S.1 h = ly1 S.1 h := if_neg (fun q => Int32.not_le.mpr c q.1)
    refine wk _ _ _ _ _ _ _ _ ?_ (hend _ (by rw [he]; exact hC2) hf2)
    simp [al_le, lyp, mni]
  have hw : nI 40 ≤ S.1.2.2.1 h 2 - lyp S.1 h := Int32.not_lt.mp c
  refine al_isC_in hcl ?_
  rw [al_up_j (show (5 : Nat) ≠ 3 by decide), al_up_j (show (5 : Nat) ≠ 2 by decide), hrc]
  refine And.intro (fun c2 => ?_) (fun c2 => ?_)
  · rw [nI_leI (by omega) (by omega)] at c2
    have he : lyT S.1 h = ly1 S.1 h := if_neg (fun q => by omega)
    refine wk _ _ _ _ _ _ _ _ ?_ (hend _ (by rw [he]; exact hC2) hf2)
    simp [al_le, lyp, mni]
  rw [nI_leI (by omega) (by omega)] at c2
  refine ca_dearest (T := ly1 S.1 h) hC2.1 (VTly1 hV) hC2.2.1 hh (fun I2 g3 g4 => ?_)
  have hC3 := hC2.k39 g3 g4
  dsimp only [al_pu, o_iload, o_lload, o_aload, o_istore, o_astore, o_lstore, o_iinc, o_ic, o_lc, o_sc, o_iadd, o_isub, o_imul, o_iand, o_ior, o_ixor, o_ishl, o_ishr, o_ladd, o_lsub, o_land, o_lor, o_lxor, o_lshl, o_lshr, o_i2l, o_l2i, o_lcmp, o_dup, o_dup2, o_pop, o_getI, o_getJ, o_getR, o_putI, o_putZ, o_putJ, o_iald, o_zald, o_lald, o_aald, o_iast, o_zast, o_last, o_alen, o_cpyI, o_cpyJ, o_iret, o_zret, o_lret, o_aret, o_vret, o_idiv, o_irem, o_ineg, o_ifeq, o_ifne, o_iflt, o_ifge, o_ifgt, o_ifle, o_iceq, o_icne, o_iclt, o_icge, o_icgt, o_icle, al_gL, al_sL, al_sJ, al_gd]
  refine And.intro (fun c3 => ?_) (fun c3 => ?_)
  · have he : lyT S.1 h = ly1 S.1 h := if_neg (fun q => q.2.2 c3)
    refine wk _ _ _ _ _ _ _ _ ?_ (hend I2 (by rw [he]; exact hC3) (f74.tr hf2 (k39.f g3)))
    simp [al_le, lyp, mni]
  · have he : lyT S.1 h = _ := if_pos ⟨hw, by omega, c3⟩
    rcases ar_or (cp (ly1 S.1 h) h) 81 with q | ⟨k, q1, q2, q3⟩
    · rw [q] at c3
      exact absurd (by decide +kernel) c3
    have hk : (lyb S.1 h).toNatClampNeg = k := by
      unfold lyb
      rw [q2, nI_clamp (by omega)]
    rw [hk] at he
    rw [q2]
    have hfd3 := hC3.1.2.2.2.1 h (by omega)
    have hrc3 : I2 (8 + 3 + 2 * h) 5 = nI (rcN (ly1 S.1 h) h) := by
      rw [show I2 (8 + 3 + 2 * h) 5 = (ly1 S.1 h).2.2.1 h 4 from hfd3 4 (by omega)]
      exact ((VTly1 (h := h) hV).rc hh).2
    have hw3 : I2 (8 + 3 + 2 * h) 2 = S.1.2.2.1 h 2 - lyp S.1 h := by
      rw [show I2 (8 + 3 + 2 * h) 2 = (ly1 S.1 h).2.2.1 h 2 from hfd3 2 (by omega)]
      unfold ly1 setf
      dsimp only
      rw [al_up_j (by decide), al_up_s]
    dsimp only [o_cV, al_pop, al_hd]
    refine al_isC_in hcl (al_r8_in (by decide) (ca_addRounded tb8 (by omega) (by rw [ly1_rc]; omega) hrc3 ?_))
    dsimp only [al_pu, o_iload, o_lload, o_aload, o_istore, o_astore, o_lstore, o_iinc, o_ic, o_lc, o_sc, o_iadd, o_isub, o_imul, o_iand, o_ior, o_ixor, o_ishl, o_ishr, o_ladd, o_lsub, o_land, o_lor, o_lxor, o_lshl, o_lshr, o_i2l, o_l2i, o_lcmp, o_dup, o_dup2, o_pop, o_getI, o_getJ, o_getR, o_putI, o_putZ, o_putJ, o_iald, o_zald, o_lald, o_aald, o_iast, o_zast, o_last, o_alen, o_cpyI, o_cpyJ, o_iret, o_zret, o_lret, o_aret, o_vret, o_idiv, o_irem, o_ineg, o_ifeq, o_ifne, o_iflt, o_ifge, o_ifgt, o_ifle, o_iceq, o_icne, o_iclt, o_icge, o_icgt, o_icle, al_gL, al_sL, al_sJ, al_gd]
    refine al_isC_in hcl (al_isC_in hcl ?_)
    have hT3 := CTn.setf (f := 2) (v := S.1.2.2.1 h 2 - lyp S.1 h - nI 40) (CTn.rdd (p := k) hC3.1 (show h < 6 by omega)) (show h < 6 by omega) (by omega)
    have hC4 := CI.same (T' := setf (rdd (ly1 S.1 h) h k) h 2 (S.1.2.2.1 h 2 - lyp S.1 h - nI 40)) hC3 rfl hT3 (fun p hp => ⟨by rw [al_up_row (by omega), al_up_row (by omega), al_up_row (by omega)], rfl⟩)
    rw [← he] at hC4
    rw [al_up_j (show (2 : Nat) ≠ 5 by decide), al_up_p (show 8 + 3 + 2 * h ≠ 8 + 4 + 2 * h by omega), hw3]
    refine wk _ _ _ _ _ _ _ _ ?_ (hend _ hC4 (f74.tr (f74.tr hf2 (k39.f g3)) (fun p hp => ⟨by rw [al_up_row (by omega), al_up_row (by omega), al_up_row (by omega)], rfl⟩)))
    simp [al_le, lyp, mni]
/-- a year of all houses; so many years -/
def yrh (T : TW) (s : Int32) : Nat → TW × Int32
  | 0 => (T, s)
  | h + 1 => (lyT (yrh T s h).1 h, (yrh T s h).2 + lyp (yrh T s h).1 h)
def yrs (T : TW) : Nat → TW × Int32
  | 0 => (T, nI 0)
  | y + 1 => yrh (yrs T y).1 (yrs T y).2 T.2.1
theorem yrh_ok {T : TW} {s : Int32} (hv : VT T) : ∀ h, VT (yrh T s h).1 ∧ (yrh T s h).1.1 = T.1 ∧ (yrh T s h).1.2.1 = T.2.1
  | 0 => ⟨hv, rfl, rfl⟩
  | h + 1 => by
    obtain ⟨h1, h2, h3⟩ := yrh_ok (s := s) hv h
    exact ⟨VTlyT h1, (lyT_s _ _).1.trans h2, (lyT_s _ _).2.trans h3⟩
theorem yrs_ok {T : TW} (hv : VT T) : ∀ y, VT (yrs T y).1 ∧ (yrs T y).1.1 = T.1 ∧ (yrs T y).1.2.1 = T.2.1
  | 0 => ⟨hv, rfl, rfl⟩
  | y + 1 => by
    obtain ⟨h1, h2, h3⟩ := yrs_ok hv y
    obtain ⟨g1, g2, g3⟩ := yrh_ok (s := (yrs T y).2) h1 T.2.1
    exact ⟨g1, g2.trans h2, g3.trans h3⟩
theorem X_years {a : Int32} {S : SG} {I : II} {J : JJ} {Q : QT} (hC : CI S I J) (hV : VS S) (k1 : ∀ y, 1 ≤ y → y ≤ 20 → a = nI y → PX I J Q (sT S (yrs S.1 y).1) (.int (yrs S.1 y).2)) (k2 : (∀ y, 1 ≤ y → y ≤ 20 → ¬ a = nI y) → PX I J Q (fnd 0 S) (.int (-1000000001))) : CT m_X11_years 0 [.ref 0, .int a] 90 al_R0 I J Q := by
  have h6 := hV.1.1
  refine r_X11_years (by decide) (fun F wk b0 b11 b18 b22 b30 b57 b63 => ?_)
  have h11 : (∀ y, 1 ≤ y → y ≤ 20 → ¬ a = nI y) → F 11 [some (.ref 0), some (.int a), none, none, none] [] 90 al_R0 I J := fun q => b11 _ _ _ _ _ _ (cx_finding hC (k := 0) (by decide) (by decide +kernel) (k2 q))
  refine b0 _ _ _ _ _ _ (And.intro (fun c => ?_) (fun c => And.intro (fun c2 => ?_) (fun c2 => ?_)))
  · rw [ix_lt (by decide)] at c
    refine h11 (fun y y1 y2 e => ?_)
    rw [e, nI_toInt (by omega)] at c
    omega
  · rw [ix_lt (by decide)] at c
    rw [ix_le (by decide)] at c2
    obtain ⟨y, y1, y2, e⟩ : ∃ y, 1 ≤ y ∧ y ≤ 20 ∧ a = nI y := ⟨a.toInt.toNat, by omega, by omega, i_of (by omega) (by omega)⟩
    have p1 := k1 y y1 y2 e
    clear k1 k2 h11 c c2
    subst e
    have inner : ∀ i, i < y → (∀ I' : II, CI (sT S (yrs S.1 (i + 1)).1) I' J → f74 I J I' J → F 57 [some (.ref 0), some (.int (nI y)), some (.int (yrs S.1 (i + 1)).2), some (.int (nI i)), none] [] 90 al_R0 I' J) → ∀ (d h : Nat) (I' : II), h + d = S.1.2.1 → CI (sT S (yrh (yrs S.1 i).1 (yrs S.1 i).2 h).1) I' J → f74 I J I' J → F 30 [some (.ref 0), some (.int (nI y)), some (.int (yrh (yrs S.1 i).1 (yrs S.1 i).2 h).2), some (.int (nI i)), some (.int (nI h))] [] 90 al_R0 I' J := by
      intro i hi k d
      induction d with
      | zero =>
        intro h I' hh g1 g2
        obtain ⟨v1, v2, v3⟩ := yrs_ok hV.1 i
        obtain ⟨w1, w2, w3⟩ := yrh_ok (s := (yrs S.1 i).2) v1 h
        have g11 : I' 8 3 = nI h := by rw [g1.1.1, show (sT S (yrh (yrs S.1 i).1 (yrs S.1 i).2 h).1).1.2.1 = h from (w3.trans v3).trans (by omega)]
        have h9 := k I' (by rw [yrs, show S.1.2.1 = h by omega]; exact g1) g2
        rw [yrs, show S.1.2.1 = h by omega] at h9
        refine b30 _ _ _ _ _ _ (br_t (by rw [g11]; exact nI_le (by omega) (by omega)) (wk _ _ _ _ _ _ _ _ ?_ h9))
        simp [al_le]
      | succ d ih =>
        intro h I' hh g1 g2
        obtain ⟨v1, v2, v3⟩ := yrs_ok hV.1 i
        obtain ⟨w1, w2, w3⟩ := yrh_ok (s := (yrs S.1 i).2) v1 h
        have w4 : (yrh (yrs S.1 i).1 (yrs S.1 i).2 h).1.2.1 = S.1.2.1 := w3.trans v3
        refine b30 _ _ _ _ _ _ (br_f (by rw [g1.1.1]; show ¬ nI (yrh (yrs S.1 i).1 (yrs S.1 i).2 h).1.2.1 ≤ nI h; rw [w4]; exact nI_ge (by omega) (by omega)) ?_)
        refine ca_liveYear (S := sT S (yrh (yrs S.1 i).1 (yrs S.1 i).2 h).1) g1 w1 (by show h < (yrh (yrs S.1 i).1 (yrs S.1 i).2 h).1.2.1; omega) (fun I2 g3 g4 => ?_)
        have h9 := ih (h + 1) I2 (by omega) g3 (f74.tr g2 g4)
        rw [nI_s h] at h9
        exact h9
    have loop : ∀ (d i : Nat) (I' : II), i + d = y → CI (sT S (yrs S.1 i).1) I' J → f74 I J I' J → F 22 [some (.ref 0), some (.int (nI y)), some (.int (yrs S.1 i).2), some (.int (nI i)), none] [] 90 al_R0 I' J := by
      intro d
      induction d with
      | zero =>
        intro i I' hi g1 g2
        obtain rfl : i = y := by omega
        exact b22 _ _ _ _ _ _ (br_t (nI_le (by omega) (by omega)) (b63 _ _ _ _ _ _ (p1 I' J g1 g2)))
      | succ d ih =>
        intro i I' hi g1 g2
        refine b22 _ _ _ _ _ _ (br_f (nI_ge (by omega) (by omega)) ?_)
        exact inner i (by omega) (fun I2 g3 g4 => b57 _ _ _ _ _ _ (by have h9 := ih (i + 1) I2 (by omega) g3 g4; rw [nI_s i] at h9; exact h9)) S.1.2.1 0 I' (by omega) g1 g2
    exact b18 _ _ _ _ _ _ (loop y 0 I (by omega) hC (f74.rf I J))
  · rw [ix_le (by decide)] at c2
    refine h11 (fun y y1 y2 e => ?_)
    rw [e, nI_toInt (by omega)] at c2
    omega
