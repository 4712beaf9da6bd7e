/-! PUBLIC CALLS OF THE CLASS: houses, corners, counts -/
def setf (T : TW) (h f : Nat) (v : Int32) : TW := (T.1, T.2.1, al_up T.2.2.1 h f v, T.2.2.2)
def rdd (T : TW) (h p : Nat) : TW := (T.1, T.2.1, al_up T.2.2.1 h 4 (nI (rcN T h + 1)), al_up T.2.2.2 h (rcN T h) (nI p))
theorem fi_inj (f g : Nat) (hf : f < 5) (hg : g < 5) : fi f = fi g → f = g := (by decide : ∀ f, f < 5 → ∀ g, g < 5 → fi f = fi g → f = g) f hf g hg
theorem CTn.setf {T : TW} {I : II} {J : JJ} {h f : Nat} {v : Int32} (hT : CTn 8 T I J) (hh : h < 6) (hf : f < 5) : CTn 8 (setf T h f v) (al_up I (8 + 3 + 2 * h) (fi f) v) J := by
  obtain ⟨h1, h2, h3, h4, h5⟩ := hT
  refine ⟨by rw [al_up_p (by omega)]; exact h1, fun j hj => by rw [al_up_p (by omega)]; exact h2 j hj, h3, fun g hg e he => ?_, fun g hg k hk => by rw [al_up_p (by omega)]; exact h5 g hg k hk⟩
  show _ = al_up T.2.2.1 h f v g e
  by_cases q : g = h
  · subst q
    by_cases q2 : e = f
    · subst q2; rw [al_up_s, al_up_s]
    · rw [al_up_j (fun q3 => q2 (fi_inj e f he hf q3)), al_up_j q2]
      exact h4 g hg e he
  · rw [al_up_p (by omega), al_up_p q]
    exact h4 g hg e he
theorem CTn.rdd {T : TW} {I : II} {J : JJ} {h p : Nat} (hT : CTn 8 T I J) (hh : h < 6) : CTn 8 (rdd T h p) (al_up (al_up I (8 + 4 + 2 * h) (rcN T h) (nI p)) (8 + 3 + 2 * h) 5 (nI (rcN T h + 1))) J := by
  obtain ⟨h1, h2, h3, h4, h5⟩ := hT
  refine ⟨by rw [al_up_p (by omega), al_up_p (by omega)]; exact h1, fun j hj => by rw [al_up_p (by omega), al_up_p (by omega)]; exact h2 j hj, h3, fun g hg e he => ?_, fun g hg k hk => ?_⟩
  · show _ = al_up T.2.2.1 h 4 (nI (rcN T h + 1)) g e
    by_cases q : g = h
    · subst q
      by_cases q2 : e = 4
      · subst q2; rw [al_up_s]; exact al_up_s
      · rw [al_up_j (show fi e ≠ 5 from fun q3 => q2 (fi_inj e 4 he (by omega) q3)), al_up_j q2, al_up_p (by omega)]
        exact h4 g hg e he
    · rw [al_up_p (by omega), al_up_p (by omega), al_up_p q]
      exact h4 g hg e he
  · show _ = al_up T.2.2.2 h (rcN T h) (nI p) g k
    rw [al_up_p (by omega)]
    by_cases q : g = h
    · subst q
      by_cases q2 : k = rcN T g
      · subst q2; rw [al_up_s, al_up_s]
      · rw [al_up_j q2, al_up_j q2]
        exact h5 g hg k hk
    · rw [al_up_p (by omega), al_up_p q]
      exact h5 g hg k hk
/-- what `of` tells -/
def ofv (T : TW) (h w : Nat) : Int32 := if w = 0 then T.2.2.1 h 0 else if w = 1 then T.2.2.1 h 1 else if w = 2 then T.2.2.1 h 2 else if w = 3 then nI (cnt (fun j => decide (T.1 j = 10 + h)) 64) else if w = 4 then nI (cnt (cor T.1 h) 81) else if w = 5 then T.2.2.1 h 4 else if w = 6 then nI (rtN T h * cts T h) else T.2.2.1 h 3
theorem X_of {a b : Int32} {S : SG} {I : II} {J : JJ} {Q : QT} (hC : CI S I J) (hV : VS S) (k1 : ∀ h w, h < S.1.2.1 → w < 8 → a = nI h → b = nI w → PX I J Q S (.int (ofv S.1 h w))) (k2 : (ing S.1.2.1 a ∨ ∃ h, h < S.1.2.1 ∧ a = nI h ∧ ing 8 b) → PX I J Q (fnd 0 S) (.int (-1000000001))) : CT m_X11_of 0 [.ref 0, .int a, .int b] 90 al_R0 I J Q := by
  have h6 := hV.1.1
  refine r_X11_of (by decide) (fun F wk b0 b15 b72 b77 b82 b87 b99 b108 b113 b119 b124 => ?_)
  refine b0 _ _ _ _ _ _ (cx_isHouse h6 hC.1.1 (fun h hh e => br_u (by decide +kernel) (b15 _ _ _ _ _ _ ?_)) (fun hn => br_v nI_0 (cx_finding hC (k := 0) (by decide) (by decide +kernel) (k2 (Or.inl hn)))))
  refine Exists.intro h (And.intro (by omega) (And.intro e (al_rk_in (tb_hO tb8 (by omega)) ?_)))
  have hcl := tb_hC tb8 (show h < 6 by omega)
  have hfd := hC.1.2.2.2.1 h (by omega)
  have rf := f74.rf I J
  refine And.intro (fun c => b72 _ _ _ _ _ _ ?_) (fun n0 => And.intro (fun c => b77 _ _ _ _ _ _ ?_) (fun n1 => And.intro (fun c => b82 _ _ _ _ _ _ ?_) (fun n2 => And.intro (fun c => b87 _ _ _ _ _ _ ?_) (fun n3 => And.intro (fun c => b99 _ _ _ _ _ _ ?_) (fun n4 => And.intro (fun c => b108 _ _ _ _ _ _ ?_) (fun n5 => And.intro (fun c => b113 _ _ _ _ _ _ ?_) (fun n6 => And.intro (fun c => b119 _ _ _ _ _ _ ?_) (fun n7 => b124 _ _ _ _ _ _ ?_))))))))
  · dsimp only [k_X11_of_72, o_iload, o_lload, o_aload, o_istore, o_astore, o_lstore, o_iinc, o_ic, o_lc, o_sc, o_iadd, o_isub, o_imul, o_iand, o_ior, o_ixor, o_ishl, o_ishr, o_ladd, o_lsub, o_land, o_lor, o_lxor, o_lshl, o_lshr, o_i2l, o_l2i, o_lcmp, o_dup, o_dup2, o_pop, o_getI, o_getJ, o_getR, o_putI, o_putZ, o_putJ, o_iald, o_zald, o_lald, o_aald, o_iast, o_zast, o_last, o_alen, o_cpyI, o_cpyJ, o_iret, o_zret, o_lret, o_aret, o_vret, o_idiv, o_irem, o_ineg, o_ifeq, o_ifne, o_iflt, o_ifge, o_ifgt, o_ifle, o_iceq, o_icne, o_iclt, o_icge, o_icgt, o_icle, al_gL, al_sL, al_sJ, al_gd]
    refine al_isC_in hcl ?_
    rw [show I (8 + 3 + 2 * h) 0 = S.1.2.2.1 h 0 from hfd 0 (by omega)]
    exact k1 h 0 hh (by omega) e c I J hC rf
  · dsimp only [k_X11_of_77, o_iload, o_lload, o_aload, o_istore, o_astore, o_lstore, o_iinc, o_ic, o_lc, o_sc, o_iadd, o_isub, o_imul, o_iand, o_ior, o_ixor, o_ishl, o_ishr, o_ladd, o_lsub, o_land, o_lor, o_lxor, o_lshl, o_lshr, o_i2l, o_l2i, o_lcmp, o_dup, o_dup2, o_pop, o_getI, o_getJ, o_getR, o_putI, o_putZ, o_putJ, o_iald, o_zald, o_lald, o_aald, o_iast, o_zast, o_last, o_alen, o_cpyI, o_cpyJ, o_iret, o_zret, o_lret, o_aret, o_vret, o_idiv, o_irem, o_ineg, o_ifeq, o_ifne, o_iflt, o_ifge, o_ifgt, o_ifle, o_iceq, o_icne, o_iclt, o_icge, o_icgt, o_icle, al_gL, al_sL, al_sJ, al_gd]
    refine al_isC_in hcl ?_
    rw [show I (8 + 3 + 2 * h) 1 = S.1.2.2.1 h 1 from hfd 1 (by omega)]
    exact k1 h 1 hh (by omega) e c I J hC rf
  · dsimp only [k_X11_of_82, o_iload, o_lload, o_aload, o_istore, o_astore, o_lstore, o_iinc, o_ic, o_lc, o_sc, o_iadd, o_isub, o_imul, o_iand, o_ior, o_ixor, o_ishl, o_ishr, o_ladd, o_lsub, o_land, o_lor, o_lxor, o_lshl, o_lshr, o_i2l, o_l2i, o_lcmp, o_dup, o_dup2, o_pop, o_getI, o_getJ, o_getR, o_putI, o_putZ, o_putJ, o_iald, o_zald, o_lald, o_aald, o_iast, o_zast, o_last, o_alen, o_cpyI, o_cpyJ, o_iret, o_zret, o_lret, o_aret, o_vret, o_idiv, o_irem, o_ineg, o_ifeq, o_ifne, o_iflt, o_ifge, o_ifgt, o_ifle, o_iceq, o_icne, o_iclt, o_icge, o_icgt, o_icle, al_gL, al_sL, al_sJ, al_gd]
    refine al_isC_in hcl ?_
    rw [show I (8 + 3 + 2 * h) 2 = S.1.2.2.1 h 2 from hfd 2 (by omega)]
    exact k1 h 2 hh (by omega) e c I J hC rf
  · have h9 := k1 h 3 hh (by omega) e c I J hC rf
    subst e
    dsimp only [k_X11_of_87, o_iload, o_lload, o_aload, o_istore, o_astore, o_lstore, o_iinc, o_ic, o_lc, o_sc, o_iadd, o_isub, o_imul, o_iand, o_ior, o_ixor, o_ishl, o_ishr, o_ladd, o_lsub, o_land, o_lor, o_lxor, o_lshl, o_lshr, o_i2l, o_l2i, o_lcmp, o_dup, o_dup2, o_pop, o_getI, o_getJ, o_getR, o_putI, o_putZ, o_putJ, o_iald, o_zald, o_lald, o_aald, o_iast, o_zast, o_last, o_alen, o_cpyI, o_cpyJ, o_iret, o_zret, o_lret, o_aret, o_vret, o_idiv, o_irem, o_ineg, o_ifeq, o_ifne, o_iflt, o_ifge, o_ifgt, o_ifle, o_iceq, o_icne, o_iclt, o_icge, o_icgt, o_icle, al_gL, al_sL, al_sJ, al_gd]
    rw [nI_add]
    exact ca_squaresThatAre hC.1.2.1 hV.1.cdo (by omega) h9
  · have h9 := k1 h 4 hh (by omega) e c I J hC rf
    subst e
    exact ca_cornersOf hC.1.2.1 hV.1.cdo (by omega) h9
  · dsimp only [k_X11_of_108, o_iload, o_lload, o_aload, o_istore, o_astore, o_lstore, o_iinc, o_ic, o_lc, o_sc, o_iadd, o_isub, o_imul, o_iand, o_ior, o_ixor, o_ishl, o_ishr, o_ladd, o_lsub, o_land, o_lor, o_lxor, o_lshl, o_lshr, o_i2l, o_l2i, o_lcmp, o_dup, o_dup2, o_pop, o_getI, o_getJ, o_getR, o_putI, o_putZ, o_putJ, o_iald, o_zald, o_lald, o_aald, o_iast, o_zast, o_last, o_alen, o_cpyI, o_cpyJ, o_iret, o_zret, o_lret, o_aret, o_vret, o_idiv, o_irem, o_ineg, o_ifeq, o_ifne, o_iflt, o_ifge, o_ifgt, o_ifle, o_iceq, o_icne, o_iclt, o_icge, o_icgt, o_icle, al_gL, al_sL, al_sJ, al_gd]
    refine al_isC_in hcl ?_
    rw [show I (8 + 3 + 2 * h) 5 = S.1.2.2.1 h 4 from hfd 4 (by omega)]
    exact k1 h 5 hh (by omega) e c I J hC rf
  · have h9 := k1 h 6 hh (by omega) e c
    subst e
    exact ca_taxOf hC.1 hV.1 hC.2.1 hh (fun I' g1 g2 => h9 I' J (hC.k39 g1 g2) (k39.f g1))
  · dsimp only [k_X11_of_119, o_iload, o_lload, o_aload, o_istore, o_astore, o_lstore, o_iinc, o_ic, o_lc, o_sc, o_iadd, o_isub, o_imul, o_iand, o_ior, o_ixor, o_ishl, o_ishr, o_ladd, o_lsub, o_land, o_lor, o_lxor, o_lshl, o_lshr, o_i2l, o_l2i, o_lcmp, o_dup, o_dup2, o_pop, o_getI, o_getJ, o_getR, o_putI, o_putZ, o_putJ, o_iald, o_zald, o_lald, o_aald, o_iast, o_zast, o_last, o_alen, o_cpyI, o_cpyJ, o_iret, o_zret, o_lret, o_aret, o_vret, o_idiv, o_irem, o_ineg, o_ifeq, o_ifne, o_iflt, o_ifge, o_ifgt, o_ifle, o_iceq, o_icne, o_iclt, o_icge, o_icgt, o_icle, al_gL, al_sL, al_sJ, al_gd]
    refine al_isC_in hcl ?_
    rw [show I (8 + 3 + 2 * h) 3 = S.1.2.2.1 h 3 from hfd 3 (by omega)]
    exact k1 h 7 hh (by omega) e c I J hC rf
  · refine cx_finding hC (k := 0) (by decide) (by decide +kernel) (k2 (Or.inr ⟨h, hh, e, ?_⟩))
    rintro q hq rfl
    rcases (show q = 0 ∨ q = 1 ∨ q = 2 ∨ q = 3 ∨ q = 4 ∨ q = 5 ∨ q = 6 ∨ q = 7 by omega) with rfl | rfl | rfl | rfl | rfl | rfl | rfl | rfl
    · exact n0 rfl
    · exact n1 rfl
    · exact n2 rfl
    · exact n3 rfl
    · exact n4 rfl
    · exact n5 rfl
    · exact n6 rfl
    · exact n7 rfl
theorem cx_set {S : SG} {I : II} {J : JJ} {Q : QT} {h f : Nat} {v : Int32} {w : Value} (hC : CI S I J) (hh : h < 6) (hf : f < 5) (k : PX I J Q (sT S (setf S.1 h f v)) w) : Q (some w) 90 al_R0 (al_up I (8 + 3 + 2 * h) (fi f) v) J := by
  refine k _ _ (CI.same hC rfl (CTn.setf hC.1 hh hf) (fun p hp => ⟨al_up_row (by omega), rfl⟩)) (fun p hp => ⟨al_up_row (by omega), rfl⟩)
theorem X_set {a b d : Int32} {S : SG} {I : II} {J : JJ} {Q : QT} (hC : CI S I J) (hV : VS S) (k1 : ∀ h w, h < S.1.2.1 → a = nI h → b = nI w → (w = 1 ∧ (∃ r, 1 ≤ r ∧ r ≤ 99 ∧ d = nI r) ∨ w = 2 ∧ (∃ r, r < 10000 ∧ d = nI r)) → PX I J Q (sT S (setf S.1 h w d)) (.int (S.1.2.2.1 h w))) (k2 : (ing S.1.2.1 a ∨ ∃ h, h < S.1.2.1 ∧ a = nI h ∧ (b = nI 1 → ∀ r, 1 ≤ r → r ≤ 99 → ¬ d = nI r) ∧ (b = nI 2 → ing 10000 d)) → PX I J Q (fnd 0 S) (.int (-1000000001))) : CT m_X11_set 0 [.ref 0, .int a, .int b, .int d] 90 al_R0 I J Q := by
  have h6 := hV.1.1
  refine r_X11_set (by decide) (fun F wk b0 b15 b54 b82 => ?_)
  refine b0 _ _ _ _ _ _ (cx_isHouse h6 hC.1.1 (fun h hh e => br_u (by decide +kernel) (b15 _ _ _ _ _ _ ?_)) (fun hn => br_v nI_0 (cx_finding hC (k := 0) (by decide) (by decide +kernel) (k2 (Or.inl hn)))))
  refine Exists.intro h (And.intro (by omega) (And.intro e (al_rk_in (tb_hO tb8 (by omega)) ?_)))
  have hcl := tb_hC tb8 (show h < 6 by omega)
  have hfd := hC.1.2.2.2.1 h (by omega)
  have h82 : ((b = nI 1 → ∀ r, 1 ≤ r → r ≤ 99 → ¬ d = nI r) ∧ (b = nI 2 → ing 10000 d)) → F 82 [some (.ref 0), some (.int a), some (.int b), some (.int d), some (.ref (8 + 3 + 2 * h)), none] [] 90 al_R0 I J := fun q => b82 _ _ _ _ _ _ (cx_finding hC (k := 0) (by decide) (by decide +kernel) (k2 (Or.inr ⟨h, hh, e, q⟩)))
  have h54 : (b = nI 1 → ∀ r, 1 ≤ r → r ≤ 99 → ¬ d = nI r) → F 54 [some (.ref 0), some (.int a), some (.int b), some (.int d), some (.ref (8 + 3 + 2 * h)), none] [] 90 al_R0 I J := fun q => by
    refine b54 _ _ _ _ _ _ (And.intro (fun c => h82 ⟨q, fun c2 => absurd c2 c⟩) (fun c => ?_))
    refine cx_isWealth (fun r r1 e2 => br_f (by decide +kernel) ?_) (fun hn => br_t nI_0 (h82 ⟨q, fun _ => hn⟩))
    dsimp only [o_iload, o_lload, o_aload, o_istore, o_astore, o_lstore, o_iinc, o_ic, o_lc, o_sc, o_iadd, o_isub, o_imul, o_iand, o_ior, o_ixor, o_ishl, o_ishr, o_ladd, o_lsub, o_land, o_lor, o_lxor, o_lshl, o_lshr, o_i2l, o_l2i, o_lcmp, o_dup, o_dup2, o_pop, o_getI, o_getJ, o_getR, o_putI, o_putZ, o_putJ, o_iald, o_zald, o_lald, o_aald, o_iast, o_zast, o_last, o_alen, o_cpyI, o_cpyJ, o_iret, o_zret, o_lret, o_aret, o_vret, o_idiv, o_irem, o_ineg, o_ifeq, o_ifne, o_iflt, o_ifge, o_ifgt, o_ifle, o_iceq, o_icne, o_iclt, o_icge, o_icgt, o_icle, al_gL, al_sL, al_sJ, al_gd]
    refine al_isC_in hcl (al_isC_in hcl ?_)
    rw [show I (8 + 3 + 2 * h) 2 = S.1.2.2.1 h 2 from hfd 2 (by omega)]
    exact cx_set (f := 2) hC (by omega) (by omega) (k1 h 2 hh e c (Or.inr ⟨rfl, r, r1, e2⟩))
  refine And.intro (fun c => h54 (fun c2 => absurd c2 c)) (fun c => ?_)
  refine cx_isRate (fun r r1 r2 e2 => br_f (by decide +kernel) ?_) (fun hn => br_t nI_0 (h54 (fun _ => hn)))
  dsimp only [o_iload, o_lload, o_aload, o_istore, o_astore, o_lstore, o_iinc, o_ic, o_lc, o_sc, o_iadd, o_isub, o_imul, o_iand, o_ior, o_ixor, o_ishl, o_ishr, o_ladd, o_lsub, o_land, o_lor, o_lxor, o_lshl, o_lshr, o_i2l, o_l2i, o_lcmp, o_dup, o_dup2, o_pop, o_getI, o_getJ, o_getR, o_putI, o_putZ, o_putJ, o_iald, o_zald, o_lald, o_aald, o_iast, o_zast, o_last, o_alen, o_cpyI, o_cpyJ, o_iret, o_zret, o_lret, o_aret, o_vret, o_idiv, o_irem, o_ineg, o_ifeq, o_ifne, o_iflt, o_ifge, o_ifgt, o_ifle, o_iceq, o_icne, o_iclt, o_icge, o_icgt, o_icle, al_gL, al_sL, al_sJ, al_gd]
  refine al_isC_in hcl (al_isC_in hcl ?_)
  rw [show I (8 + 3 + 2 * h) 1 = S.1.2.2.1 h 1 from hfd 1 (by omega)]
  exact cx_set (f := 1) hC (by omega) (by omega) (k1 h 1 hh e c (Or.inl ⟨rfl, r, r1, r2, e2⟩))
theorem X_turn {a b : Int32} {S : SG} {I : II} {J : JJ} {Q : QT} (hC : CI S I J) (hV : VS S) (k1 : ∀ h k, h < S.1.2.1 → k < 6 → a = nI h → b = nI k → PX I J Q (sT S (setf S.1 h 0 (nI k))) (.int (S.1.2.2.1 h 0))) (k2 : (ing S.1.2.1 a ∨ ing 6 b) → PX I J Q (fnd 0 S) (.int (-1000000001))) : CT m_X11_turn 0 [.ref 0, .int a, .int b] 90 al_R0 I J Q := by
  have h6 := hV.1.1
  refine r_X11_turn (by decide) (fun F wk b0 b15 b22 => ?_)
  have h15 : (ing S.1.2.1 a ∨ ing 6 b) → F 15 [some (.ref 0), some (.int a), some (.int b), none, none] [] 90 al_R0 I J := fun q => b15 _ _ _ _ _ _ (cx_finding hC (k := 0) (by decide) (by decide +kernel) (k2 q))
  refine b0 _ _ _ _ _ _ (cx_isHouse h6 hC.1.1 (fun h hh e => br_f (by decide +kernel) (cx_isKind (fun k hk e2 => br_u (by decide +kernel) (b22 _ _ _ _ _ _ ?_)) (fun hn => br_v nI_0 (h15 (Or.inr hn))))) (fun hn => br_t nI_0 (h15 (Or.inl hn))))
  refine Exists.intro h (And.intro (by omega) (And.intro e (al_rk_in (tb_hO tb8 (by omega)) ?_)))
  have hcl := tb_hC tb8 (show h < 6 by omega)
  dsimp only [o_iload, o_lload, o_aload, o_istore, o_astore, o_lstore, o_iinc, o_ic, o_lc, o_sc, o_iadd, o_isub, o_imul, o_iand, o_ior, o_ixor, o_ishl, o_ishr, o_ladd, o_lsub, o_land, o_lor, o_lxor, o_lshl, o_lshr, o_i2l, o_l2i, o_lcmp, o_dup, o_dup2, o_pop, o_getI, o_getJ, o_getR, o_putI, o_putZ, o_putJ, o_iald, o_zald, o_lald, o_aald, o_iast, o_zast, o_last, o_alen, o_cpyI, o_cpyJ, o_iret, o_zret, o_lret, o_aret, o_vret, o_idiv, o_irem, o_ineg, o_ifeq, o_ifne, o_iflt, o_ifge, o_ifgt, o_ifle, o_iceq, o_icne, o_iclt, o_icge, o_icgt, o_icle, al_gL, al_sL, al_sJ, al_gd]
  refine al_isC_in hcl (al_isC_in hcl ?_)
  rw [show I (8 + 3 + 2 * h) 0 = S.1.2.2.1 h 0 from hC.1.2.2.2.1 h (by omega) 0 (by omega)]
  have h9 := cx_set (f := 0) hC (by omega) (by omega) (k1 h k hh hk e e2)
  rw [← e2] at h9
  exact h9
theorem X_as {a b : Int32} {S : SG} {I : II} {J : JJ} {Q : QT} (hC : CI S I J) (hV : VS S) (k1 : ∀ h k, h < S.1.2.1 → k < 6 → a = nI h → b = nI k → isk (kdN S.1 h) k = true → PX I J Q S (.int (S.1.2.2.1 h 1))) (k2 : (ing S.1.2.1 a ∨ ing 6 b) → PX I J Q (fnd 0 S) (.int (-1000000001))) (k3 : ∀ h k, h < S.1.2.1 → k < 6 → a = nI h → b = nI k → isk (kdN S.1 h) k = false → PX I J Q (fnd 2 S) (.int (-1000000003))) : CT m_X11_as 0 [.ref 0, .int a, .int b] 90 al_R0 I J Q := by
  have h6 := hV.1.1
  refine r_X11_as (by decide) (fun F wk b0 b15 b22 b44 => ?_)
  have h15 : (ing S.1.2.1 a ∨ ing 6 b) → F 15 [some (.ref 0), some (.int a), some (.int b)] [] 90 al_R0 I J := fun q => b15 _ _ _ _ _ _ (cx_finding hC (k := 0) (by decide) (by decide +kernel) (k2 q))
  refine b0 _ _ _ _ _ _ (cx_isHouse h6 hC.1.1 (fun h hh e => br_f (by decide +kernel) (cx_isKind (fun k hk e2 => br_u (by decide +kernel) (b22 _ _ _ _ _ _ ?_)) (fun hn => br_v nI_0 (h15 (Or.inr hn))))) (fun hn => br_t nI_0 (h15 (Or.inl hn))))
  obtain ⟨hk6, -⟩ := hV.1.kd hh
  have p1 := k1 h k hh hk e e2
  have p3 := k3 h k hh hk e e2
  subst e e2
  refine ca_lawOf hC.1 hV.1 hh ?_
  dsimp only [o_iload, o_lload, o_aload, o_istore, o_astore, o_lstore, o_iinc, o_ic, o_lc, o_sc, o_iadd, o_isub, o_imul, o_iand, o_ior, o_ixor, o_ishl, o_ishr, o_ladd, o_lsub, o_land, o_lor, o_lxor, o_lshl, o_lshr, o_i2l, o_l2i, o_lcmp, o_dup, o_dup2, o_pop, o_getI, o_getJ, o_getR, o_putI, o_putZ, o_putJ, o_iald, o_zald, o_lald, o_aald, o_iast, o_zast, o_last, o_alen, o_cpyI, o_cpyJ, o_iret, o_zret, o_lret, o_aret, o_vret, o_idiv, o_irem, o_ineg, o_ifeq, o_ifne, o_iflt, o_ifge, o_ifgt, o_ifle, o_iceq, o_icne, o_iclt, o_icge, o_icgt, o_icle, al_gL, al_sL, al_sJ, al_gd, o_cU, al_pop, al_hd, al_pu]
  have key : (isk (kdN S.1 h) k = true → F 44 [some (.ref 0), some (.int (nI h)), some (.int (nI k))] [] 90 al_R0 I J) := fun q => by
    refine b44 _ _ _ _ _ _ (Exists.intro h (And.intro (by omega) (And.intro rfl (al_rk_in (tb_hO tb8 (by omega)) ?_))))
    dsimp only [o_iload, o_lload, o_aload, o_istore, o_astore, o_lstore, o_iinc, o_ic, o_lc, o_sc, o_iadd, o_isub, o_imul, o_iand, o_ior, o_ixor, o_ishl, o_ishr, o_ladd, o_lsub, o_land, o_lor, o_lxor, o_lshl, o_lshr, o_i2l, o_l2i, o_lcmp, o_dup, o_dup2, o_pop, o_getI, o_getJ, o_getR, o_putI, o_putZ, o_putJ, o_iald, o_zald, o_lald, o_aald, o_iast, o_zast, o_last, o_alen, o_cpyI, o_cpyJ, o_iret, o_zret, o_lret, o_aret, o_vret, o_idiv, o_irem, o_ineg, o_ifeq, o_ifne, o_iflt, o_ifge, o_ifgt, o_ifle, o_iceq, o_icne, o_iclt, o_icge, o_icgt, o_icle, al_gL, al_sL, al_sJ, al_gd]
    refine al_isC_in (tb_hC tb8 (by omega)) ?_
    rw [show I (8 + 3 + 2 * h) 1 = S.1.2.2.1 h 1 from hC.1.2.2.2.1 h (by omega) 1 (by omega)]
    exact p1 q I J hC (f74.rf I J)
  have hw := cl_isOf (R := al_R0) (I := I) (J := J) (Q := fun v n' R' I' J' => al_pu v [] (fun st' => o_ifne (F 44) (o_aload 0 (o_ic (-1000000003) (o_cV 11 m_X11_finding 2 (o_iret Q)))) [some (.ref 0), some (.int (nI h)), some (.int (nI k))] st' n' R' I' J')) hk6 (show k < 100 by omega) (by
    refine And.intro (fun c => ?_) (fun c => ?_)
    · exact key (bz_t c)
    · exact cx_finding hC (k := 2) (by decide) (by decide +kernel) (p3 (bz_f c)))
  obtain ⟨ci, e1, e2, e3⟩ := al_rk_of hw
  exact al_rk_in e1 (And.intro e2 (al_r8_in (by decide) e3))
theorem X_corner {a b : Int32} {S : SG} {I : II} {J : JJ} {Q : QT} (hC : CI S I J) (hV : VS S) (k1 : ∀ h p, h < S.1.2.1 → p < 81 → a = nI h → b = nI p → PX I J Q S (.int (nI (shp S.1.1 h p)))) (k2 : (ing S.1.2.1 a ∨ ing 81 b) → PX I J Q (fnd 0 S) (.int (-1000000001))) : CT m_X11_corner 0 [.ref 0, .int a, .int b] 90 al_R0 I J Q := by
  have h6 := hV.1.1
  refine r_X11_corner (by decide) (fun F wk b0 b15 b22 => ?_)
  have h15 : (ing S.1.2.1 a ∨ ing 81 b) → F 15 [some (.ref 0), some (.int a), some (.int b)] [] 90 al_R0 I J := fun q => b15 _ _ _ _ _ _ (cx_finding hC (k := 0) (by decide) (by decide +kernel) (k2 q))
  refine b0 _ _ _ _ _ _ (cx_isHouse h6 hC.1.1 (fun h hh e => br_f (by decide +kernel) (cx_isPoint (fun k hk e2 => br_u (by decide +kernel) (b22 _ _ _ _ _ _ ?_)) (fun hn => br_v nI_0 (h15 (Or.inr hn))))) (fun hn => br_t nI_0 (h15 (Or.inl hn))))
  have p1 := k1 h k hh hk e e2
  subst e e2
  exact ca_shapeAt hC.1.2.1 hV.1.cdo (by omega) hk (p1 I J hC (f74.rf I J))
theorem X_counts {a b : Int32} {S : SG} {I : II} {J : JJ} {Q : QT} (hC : CI S I J) (hV : VS S) (k1 : ∀ h p, h < S.1.2.1 → p < 81 → a = nI h → b = nI p → PX I J Q S (.int (nI (cp S.1 h p)))) (k2 : (ing S.1.2.1 a ∨ ing 81 b) → PX I J Q (fnd 0 S) (.int (-1000000001))) : CT m_X11_counts 0 [.ref 0, .int a, .int b] 90 al_R0 I J Q := by
  have h6 := hV.1.1
  refine r_X11_counts (by decide) (fun F wk b0 b15 b22 => ?_)
  have h15 : (ing S.1.2.1 a ∨ ing 81 b) → F 15 [some (.ref 0), some (.int a), some (.int b)] [] 90 al_R0 I J := fun q => b15 _ _ _ _ _ _ (cx_finding hC (k := 0) (by decide) (by decide +kernel) (k2 q))
  refine b0 _ _ _ _ _ _ (cx_isHouse h6 hC.1.1 (fun h hh e => br_f (by decide +kernel) (cx_isPoint (fun k hk e2 => br_u (by decide +kernel) (b22 _ _ _ _ _ _ ?_)) (fun hn => br_v nI_0 (h15 (Or.inr hn))))) (fun hn => br_t nI_0 (h15 (Or.inl hn))))
  have p1 := k1 h k hh hk e e2
  subst e e2
  exact ca_countOf hC.1 hV.1 hC.2.1 hh hk (fun I' g1 g2 => p1 I' J (hC.k39 g1 g2) (k39.f g1))
theorem X_seen {a : Int32} {S : SG} {I : II} {J : JJ} {Q : QT} (hC : CI S I J) (k1 : ∀ p, p < 81 → a = nI p → PX I J Q S (.int (nI (nsn S.1.1 p)))) (k2 : ing 81 a → PX I J Q (fnd 0 S) (.int (-1000000001))) : CT m_X11_seen 0 [.ref 0, .int a] 90 al_R0 I J Q := by
  refine r_X11_seen (by decide) (fun F wk b0 b14 => ?_)
  refine b0 _ _ _ _ _ _ (cx_isPoint (fun k hk e2 => br_u (by decide +kernel) (b14 _ _ _ _ _ _ ?_)) (fun hn => br_v nI_0 (cx_finding hC (k := 0) (by decide) (by decide +kernel) (k2 hn))))
  have p1 := k1 k hk e2
  subst e2
  exact ca_seenFrom hC.1.2.2.1 hC.2.1 hk (fun I' g1 g2 => p1 I' J (hC.k39 g1 g2) (k39.f g1))
theorem X_whose {a : Int32} {S : SG} {I : II} {J : JJ} {Q : QT} (hC : CI S I J) (hV : VS S) (k1 : ∀ p, p < 81 → a = nI p → PX I J Q S (.int (orb (fun h => cor S.1.1 h p) S.1.2.1))) (k2 : ing 81 a → PX I J Q (fnd 0 S) (.int (-1000000001))) : CT m_X11_whose 0 [.ref 0, .int a] 90 al_R0 I J Q := by
  refine r_X11_whose (by decide) (fun F wk b0 b14 => ?_)
  refine b0 _ _ _ _ _ _ (cx_isPoint (fun k hk e2 => br_u (by decide +kernel) (b14 _ _ _ _ _ _ ?_)) (fun hn => br_v nI_0 (cx_finding hC (k := 0) (by decide) (by decide +kernel) (k2 hn))))
  have p1 := k1 k hk e2
  subst e2
  exact ca_ownersAt hC.1.2.1 hV.1.cdo hk hV.1.1 hC.1.1 (p1 I J hC (f74.rf I J))
theorem X_sees {a b : Int32} {S : SG} {I : II} {J : JJ} {Q : QT} (hC : CI S I J) (hV : VS S) (k1 : ∀ q p, q < 64 → p < 81 → a = nI q → b = nI p → S.1.1 q = 1 → PX I J Q S (.int (nI (sen S.1.1 p q).toNat))) (k2 : (ing 64 a ∨ ing 81 b) → PX I J Q (fnd 0 S) (.int (-1000000001))) (k3 : ∀ q p, q < 64 → p < 81 → a = nI q → b = nI p → ¬ S.1.1 q = 1 → PX I J Q (fnd 4 S) (.int (-1000000005))) : CT m_X11_sees 0 [.ref 0, .int a, .int b] 90 al_R0 I J Q := by
  refine r_X11_sees (by decide) (fun F wk b0 b14 b21 b41 b57 b58 => ?_)
  have h14 : (ing 64 a ∨ ing 81 b) → F 14 [some (.ref 0), some (.int a), some (.int b)] [] 90 al_R0 I J := fun q => b14 _ _ _ _ _ _ (cx_finding hC (k := 0) (by decide) (by decide +kernel) (k2 q))
  refine b0 _ _ _ _ _ _ (cx_isSquare (fun q hq e => br_f (by decide +kernel) (cx_isPoint (fun p hp e2 => br_u (by decide +kernel) (b21 _ _ _ _ _ _ ?_)) (fun hn => br_v nI_0 (h14 (Or.inr hn))))) (fun hn => br_t nI_0 (h14 (Or.inl hn))))
  have p1 := k1 q p hq hp e e2
  have p3 := k3 q p hq hp e e2
  subst e e2
  have hv := hC.1.2.1 q hq
  have h16 := hV.1.cdo q hq
  refine Exists.intro q (And.intro hq (And.intro rfl (And.intro (fun c => ?_) (fun c => ?_))))
  · rw [show I 9 q = nI (S.1.1 q) from hv, nI_eq (by omega) (by omega)] at c
    have h9 := p1 c I J hC (f74.rf I J)
    have hs : sen S.1.1 p q = clr S.1.1 q p := by simp [sen, c]
    rw [hs] at h9
    refine b41 _ _ _ _ _ _ (ca_reaches hC.1.2.2.1 hq hp (And.intro (fun c2 => ?_) (fun c2 => ?_)))
    · rw [bz_f c2] at h9
      exact b57 _ _ _ _ _ _ (b58 _ _ _ _ _ _ h9)
    · rw [bz_t c2] at h9
      exact b58 _ _ _ _ _ _ h9
  · rw [show I 9 q = nI (S.1.1 q) from hv, nI_eq (by omega) (by omega)] at c
    exact cx_finding hC (k := 4) (by decide) (by decide +kernel) (p3 c)
theorem X_pays {a b : Int32} {S : SG} {I : II} {J : JJ} {Q : QT} (hC : CI S I J) (hV : VS S) (k1 : ∀ h p, h < S.1.2.1 → p < 81 → a = nI h → b = nI p → 0 < rtN S.1 h * cp S.1 h p → PX I J Q S (.int ((nI 40 + nI (rtN S.1 h * cp S.1 h p) - nI 1) / nI (rtN S.1 h * cp S.1 h p)))) (k2 : (ing S.1.2.1 a ∨ ing 81 b) → PX I J Q (fnd 0 S) (.int (-1000000001))) (k3 : ∀ h p, h < S.1.2.1 → p < 81 → a = nI h → b = nI p → rtN S.1 h * cp S.1 h p = 0 → PX I J Q (fnd 3 S) (.int (-1000000004))) : CT m_X11_pays 0 [.ref 0, .int a, .int b] 90 al_R0 I J Q := by
  have h6 := hV.1.1
  refine r_X11_pays (by decide) (fun F wk b0 b15 b22 b56 => ?_)
  have h15 : (ing S.1.2.1 a ∨ ing 81 b) → F 15 [some (.ref 0), some (.int a), some (.int b), none] [] 90 al_R0 I J := fun q => b15 _ _ _ _ _ _ (cx_finding hC (k := 0) (by decide) (by decide +kernel) (k2 q))
  refine b0 _ _ _ _ _ _ (cx_isHouse h6 hC.1.1 (fun h hh e => br_f (by decide +kernel) (cx_isPoint (fun k hk e2 => br_u (by decide +kernel) (b22 _ _ _ _ _ _ ?_)) (fun hn => br_v nI_0 (h15 (Or.inr hn))))) (fun hn => br_t nI_0 (h15 (Or.inl hn))))
  have p1 := k1 h k hh hk e e2
  have p3 := k3 h k hh hk e e2
  subst e e2
  obtain ⟨r1, r2, r3⟩ := hV.1.rt hh
  have hc3 := cp_le S.1 h k
  have hle : rtN S.1 h * cp S.1 h k ≤ 99 * 3 := Nat.mul_le_mul r2 hc3
  refine Exists.intro h (And.intro (by omega) (And.intro rfl (al_rk_in (tb_hO tb8 (by omega)) ?_)))
  dsimp only [o_iload, o_lload, o_aload, o_istore, o_astore, o_lstore, o_iinc, o_ic, o_lc, o_sc, o_iadd, o_isub, o_imul, o_iand, o_ior, o_ixor, o_ishl, o_ishr, o_ladd, o_lsub, o_land, o_lor, o_lxor, o_lshl, o_lshr, o_i2l, o_l2i, o_lcmp, o_dup, o_dup2, o_pop, o_getI, o_getJ, o_getR, o_putI, o_putZ, o_putJ, o_iald, o_zald, o_lald, o_aald, o_iast, o_zast, o_last, o_alen, o_cpyI, o_cpyJ, o_iret, o_zret, o_lret, o_aret, o_vret, o_idiv, o_irem, o_ineg, o_ifeq, o_ifne, o_iflt, o_ifge, o_ifgt, o_ifle, o_iceq, o_icne, o_iclt, o_icge, o_icgt, o_icle, al_gL, al_sL, al_sJ, al_gd]
  refine al_isC_in (tb_hC tb8 (by omega)) ?_
  rw [show I (8 + 3 + 2 * h) 1 = S.1.2.2.1 h 1 from hC.1.2.2.2.1 h (by omega) 1 (by omega), r3]
  refine ca_countOf hC.1 hV.1 hC.2.1 hh hk (fun I' g1 g2 => ?_)
  have hC' := hC.k39 g1 g2
  dsimp only [al_pu, o_iload, o_lload, o_aload, o_istore, o_astore, o_lstore, o_iinc, o_ic, o_lc, o_sc, o_iadd, o_isub, o_imul, o_iand, o_ior, o_ixor, o_ishl, o_ishr, o_ladd, o_lsub, o_land, o_lor, o_lxor, o_lshl, o_lshr, o_i2l, o_l2i, o_lcmp, o_dup, o_dup2, o_pop, o_getI, o_getJ, o_getR, o_putI, o_putZ, o_putJ, o_iald, o_zald, o_lald, o_aald, o_iast, o_zast, o_last, o_alen, o_cpyI, o_cpyJ, o_iret, o_zret, o_lret, o_aret, o_vret, o_idiv, o_irem, o_ineg, o_ifeq, o_ifne, o_iflt, o_ifge, o_ifgt, o_ifle, o_iceq, o_icne, o_iclt, o_icge, o_icgt, o_icle, al_gL, al_sL, al_sJ, al_gd]
  rw [pk_mul]
  generalize rtN S.1 h * cp S.1 h k = s at *
  refine And.intro (fun c => ?_) (fun c => ?_)
  · rw [← nI_0, nI_ltI (by omega) (by omega)] at c
    refine b56 _ _ _ _ _ _ (And.intro (fun c2 => ?_) (p1 c I' J hC' (k39.f g1)))
    rw [← nI_0, nI_eq (by omega) (by omega)] at c2
    omega
  · rw [← nI_0, nI_ltI (by omega) (by omega)] at c
    exact cx_finding hC' (k := 3) (by decide) (by decide +kernel) (fun I2 J2 h1 h2 => p3 (by omega) I2 J2 h1 (f74.tr (k39.f g1) h2))
theorem X_round {a b : Int32} {S : SG} {I : II} {J : JJ} {Q : QT} (hC : CI S I J) (hV : VS S) (k1 : ∀ h p, h < S.1.2.1 → p < 81 → a = nI h → b = nI p → cor S.1.1 h p = true → rnd S.1 h p = false → rcN S.1 h < 8 → VT (rdd S.1 h p) ∧ PX I J Q (sT S (rdd S.1 h p)) (.int (nI (rtN (rdd S.1 h p) h * cts (rdd S.1 h p) h)))) (k2 : (ing S.1.2.1 a ∨ ing 81 b) → PX I J Q (fnd 0 S) (.int (-1000000001))) (k3 : ∀ h p, h < S.1.2.1 → p < 81 → a = nI h → b = nI p → cor S.1.1 h p = false → PX I J Q (fnd 3 S) (.int (-1000000004))) (k4 : ∀ h p, h < S.1.2.1 → p < 81 → a = nI h → b = nI p → cor S.1.1 h p = true → rnd S.1 h p = true → PX I J Q (fnd 4 S) (.int (-1000000005))) (k5 : ∀ h p, h < S.1.2.1 → p < 81 → a = nI h → b = nI p → cor S.1.1 h p = true → rnd S.1 h p = false → rcN S.1 h = 8 → PX I J Q (fnd 1 S) (.int (-1000000002))) : CT m_X11_round 0 [.ref 0, .int a, .int b] 90 al_R0 I J Q := by
  have h6 := hV.1.1
  refine r_X11_round (by decide) (fun F wk b0 b15 b22 b41 b66 b82 => ?_)
  have h15 : (ing S.1.2.1 a ∨ ing 81 b) → F 15 [some (.ref 0), some (.int a), some (.int b), none] [] 90 al_R0 I J := fun q => b15 _ _ _ _ _ _ (cx_finding hC (k := 0) (by decide) (by decide +kernel) (k2 q))
  refine b0 _ _ _ _ _ _ (cx_isHouse h6 hC.1.1 (fun h hh e => br_f (by decide +kernel) (cx_isPoint (fun p hp e2 => br_u (by decide +kernel) (b22 _ _ _ _ _ _ ?_)) (fun hn => br_v nI_0 (h15 (Or.inr hn))))) (fun hn => br_t nI_0 (h15 (Or.inl hn))))
  have p1 := k1 h p hh hp e e2
  have p3 := k3 h p hh hp e e2
  have p4 := k4 h p hh hp e e2
  have p5 := k5 h p hh hp e e2
  subst e e2
  obtain ⟨hr, hr2⟩ := hV.1.rc hh
  have hfd := hC.1.2.2.2.1 h (by omega)
  have hcl := tb_hC tb8 (show h < 6 by omega)
  refine ca_shapeAt hC.1.2.1 hV.1.cdo (by omega) hp (And.intro (fun c => ?_) (fun c => ?_))
  · have hcr := cor_yes c
    refine b41 _ _ _ _ _ _ (Exists.intro h (And.intro (by omega) (And.intro rfl (al_rk_in (tb_hO tb8 (by omega)) ?_))))
    dsimp only [o_iload, o_lload, o_aload, o_istore, o_astore, o_lstore, o_iinc, o_ic, o_lc, o_sc, o_iadd, o_isub, o_imul, o_iand, o_ior, o_ixor, o_ishl, o_ishr, o_ladd, o_lsub, o_land, o_lor, o_lxor, o_lshl, o_lshr, o_i2l, o_l2i, o_lcmp, o_dup, o_dup2, o_pop, o_getI, o_getJ, o_getR, o_putI, o_putZ, o_putJ, o_iald, o_zald, o_lald, o_aald, o_iast, o_zast, o_last, o_alen, o_cpyI, o_cpyJ, o_iret, o_zret, o_lret, o_aret, o_vret, o_idiv, o_irem, o_ineg, o_ifeq, o_ifne, o_iflt, o_ifge, o_ifgt, o_ifle, o_iceq, o_icne, o_iclt, o_icge, o_icgt, o_icle, al_gL, al_sL, al_sJ, al_gd, o_cV, al_pop, al_hd]
    refine al_isC_in hcl (al_r8_in (by decide) (ca_isRounded tb8 (by omega) hr (by rw [← hr2]; exact hfd 4 (by omega)) ?_))
    rw [rnd_of hC.1 hV.1 hh]
    refine And.intro (fun c2 => ?_) (fun c2 => cx_finding hC (k := 4) (by decide) (by decide +kernel) (p4 hcr (bz_t c2)))
    have hrn := bz_f c2
    refine b66 _ _ _ _ _ _ ?_
    dsimp only [k_X11_round_66, o_iload, o_lload, o_aload, o_istore, o_astore, o_lstore, o_iinc, o_ic, o_lc, o_sc, o_iadd, o_isub, o_imul, o_iand, o_ior, o_ixor, o_ishl, o_ishr, o_ladd, o_lsub, o_land, o_lor, o_lxor, o_lshl, o_lshr, o_i2l, o_l2i, o_lcmp, o_dup, o_dup2, o_pop, o_getI, o_getJ, o_getR, o_putI, o_putZ, o_putJ, o_iald, o_zald, o_lald, o_aald, o_iast, o_zast, o_last, o_alen, o_cpyI, o_cpyJ, o_iret, o_zret, o_lret, o_aret, o_vret, o_idiv, o_irem, o_ineg, o_ifeq, o_ifne, o_iflt, o_ifge, o_ifgt, o_ifle, o_iceq, o_icne, o_iclt, o_icge, o_icgt, o_icle, al_gL, al_sL, al_sJ, al_gd]
    refine al_isC_in hcl ?_
    rw [show I (8 + 3 + 2 * h) 5 = S.1.2.2.1 h 4 from hfd 4 (by omega), hr2]
    refine And.intro (fun c3 => ?_) (fun c3 => ?_)
    · rw [nI_ltI (by omega) (by omega)] at c3
      obtain ⟨hv', p1'⟩ := p1 hcr hrn c3
      refine b82 _ _ _ _ _ _ ?_
      dsimp only [k_X11_round_82, o_iload, o_lload, o_aload, o_istore, o_astore, o_lstore, o_iinc, o_ic, o_lc, o_sc, o_iadd, o_isub, o_imul, o_iand, o_ior, o_ixor, o_ishl, o_ishr, o_ladd, o_lsub, o_land, o_lor, o_lxor, o_lshl, o_lshr, o_i2l, o_l2i, o_lcmp, o_dup, o_dup2, o_pop, o_getI, o_getJ, o_getR, o_putI, o_putZ, o_putJ, o_iald, o_zald, o_lald, o_aald, o_iast, o_zast, o_last, o_alen, o_cpyI, o_cpyJ, o_iret, o_zret, o_lret, o_aret, o_vret, o_idiv, o_irem, o_ineg, o_ifeq, o_ifne, o_iflt, o_ifge, o_ifgt, o_ifle, o_iceq, o_icne, o_iclt, o_icge, o_icgt, o_icle, al_gL, al_sL, al_sJ, al_gd, o_cV, al_pop, al_hd]
      refine al_isC_in hcl (al_r8_in (by decide) (ca_addRounded tb8 (by omega) c3 (by rw [← hr2]; exact hfd 4 (by omega)) ?_))
      have hC' : CI (sT S (rdd S.1 h p)) _ J := CI.same hC rfl (CTn.rdd (p := p) hC.1 (show h < 6 by omega)) (fun q hq => ⟨by rw [al_up_row (by omega), al_up_row (by omega)], rfl⟩)
      refine ca_taxOf (T := rdd S.1 h p) hC'.1 hv' hC'.2.1 hh (fun I' g1 g2 => p1' I' J (hC'.k39 g1 g2) (fun q hq => ⟨by rw [g1 q (by omega), al_up_row (by omega), al_up_row (by omega)], rfl⟩))
    · rw [nI_ltI (by omega) (by omega)] at c3
      exact cx_finding hC (k := 1) (by decide) (by decide +kernel) (p5 hcr hrn (by omega))
  · exact cx_finding hC (k := 3) (by decide) (by decide +kernel) (p3 (cor_no c))
theorem VT.lay {T : TW} {q x : Nat} (h : VT T) (hx : vok T.2.1 x) : VT (ups T.1 q x, T.2) := ⟨h.1, fun j hj => by
  show vok T.2.1 (ups T.1 q x j)
  by_cases e : j = q
  · rw [e, ups_s]; exact hx
  · rw [ups_n e]; exact h.2.1 j hj, h.2.2⟩
theorem VT.bld {T : TW} {k r : Nat} (h : VT T) (hn : T.2.1 < 6) (hk : k < 6) (r1 : 1 ≤ r) (r2 : r ≤ 99) : VT (bld T (nI k) (nI r)) := by
  refine ⟨by show T.2.1 + 1 ≤ 6; omega, fun j hj => ?_, fun g hg => ?_⟩
  · have := h.2.1 j hj
    show vok (T.2.1 + 1) (T.1 j)
    unfold vok at this ⊢
    omega
  · have hg' : g < T.2.1 + 1 := hg
    show (∃ k', k' < 6 ∧ (if g = T.2.1 then _ else _) = nI k') ∧ (∃ r', 1 ≤ r' ∧ r' ≤ 99 ∧ (if g = T.2.1 then _ else _) = nI r') ∧ ∃ m, m ≤ 8 ∧ (if g = T.2.1 then _ else _) = nI m
    by_cases e : g = T.2.1
    · rw [if_pos e, if_pos e, if_pos e]
      exact ⟨⟨k, hk, rfl⟩, ⟨r, r1, r2, rfl⟩, ⟨0, by omega, rfl⟩⟩
    · rw [if_neg e, if_neg e, if_neg e]
      exact h.2.2 g (by omega)
theorem VT.setf {T : TW} {g f : Nat} {v : Int32} (h : VT T) (h0 : f = 0 → ∃ k, k < 6 ∧ v = nI k) (h1 : f = 1 → ∃ r, 1 ≤ r ∧ r ≤ 99 ∧ v = nI r) (h4 : f = 4 → ∃ m, m ≤ 8 ∧ v = nI m) : VT (setf T g f v) := by
  refine ⟨h.1, h.2.1, fun e he => ?_⟩
  obtain ⟨q0, q1, q4⟩ := h.2.2 e he
  show (∃ k, k < 6 ∧ al_up T.2.2.1 g f v e 0 = nI k) ∧ (∃ r, 1 ≤ r ∧ r ≤ 99 ∧ al_up T.2.2.1 g f v e 1 = nI r) ∧ ∃ m, m ≤ 8 ∧ al_up T.2.2.1 g f v e 4 = nI m
  by_cases q : e = g
  · subst q
    refine ⟨?_, ?_, ?_⟩
    · by_cases w : (0 : Nat) = f
      · rw [w, al_up_s]; exact h0 w.symm
      · rw [al_up_j w]; exact q0
    · by_cases w : (1 : Nat) = f
      · obtain ⟨r, r1, r2, r3⟩ := h1 w.symm
        exact ⟨r, r1, r2, by rw [w, al_up_s]; exact r3⟩
      · rw [al_up_j w]; exact q1
    · by_cases w : (4 : Nat) = f
      · rw [w, al_up_s]; exact h4 w.symm
      · rw [al_up_j w]; exact q4
  · rw [al_up_p q, al_up_p q, al_up_p q]
    exact ⟨q0, q1, q4⟩
theorem VT.rdd {T : TW} {g p : Nat} (h : VT T) (hr : rcN T g < 8) : VT (rdd T g p) := VT.setf (T := T) (g := g) (f := 4) (v := nI (rcN T g + 1)) h (by omega) (by omega) (fun _ => ⟨rcN T g + 1, by omega, rfl⟩)
