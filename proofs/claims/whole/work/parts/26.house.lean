/-! HOUSES, FILLS, SHEETS -/
def tb (b : Nat) : Prop := b = 8 ∨ b = 23 ∨ b = 46
theorem tb_hC {b h : Nat} (hb : tb b) (hh : h < 6) : al_cls 90 (b + 3 + 2 * h) = some 2 := by
  rcases hb with rfl | rfl | rfl
  · exact (by decide +kernel : ∀ h, h < 6 → al_cls 90 (8 + 3 + 2 * h) = some 2) h hh
  · exact (by decide +kernel : ∀ h, h < 6 → al_cls 90 (23 + 3 + 2 * h) = some 2) h hh
  · exact (by decide +kernel : ∀ h, h < 6 → al_cls 90 (46 + 3 + 2 * h) = some 2) h hh
theorem tb_hR {b h : Nat} (hb : tb b) (hh : h < 6) : al_R0 (b + 3 + 2 * h) 4 = some (b + 4 + 2 * h) := by
  rcases hb with rfl | rfl | rfl
  · exact (by decide +kernel : ∀ h, h < 6 → al_R0 (8 + 3 + 2 * h) 4 = some (8 + 4 + 2 * h)) h hh
  · exact (by decide +kernel : ∀ h, h < 6 → al_R0 (23 + 3 + 2 * h) 4 = some (23 + 4 + 2 * h)) h hh
  · exact (by decide +kernel : ∀ h, h < 6 → al_R0 (46 + 3 + 2 * h) 4 = some (46 + 4 + 2 * h)) h hh
theorem tb_hA {b h : Nat} (hb : tb b) (hh : h < 6) : al_ark 90 (b + 4 + 2 * h) = some (0, 8) := by
  rcases hb with rfl | rfl | rfl
  · exact (by decide +kernel : ∀ h, h < 6 → al_ark 90 (8 + 4 + 2 * h) = some (0, 8)) h hh
  · exact (by decide +kernel : ∀ h, h < 6 → al_ark 90 (23 + 4 + 2 * h) = some (0, 8)) h hh
  · exact (by decide +kernel : ∀ h, h < 6 → al_ark 90 (46 + 4 + 2 * h) = some (0, 8)) h hh
theorem tb_hO {b h : Nat} (hb : tb b) (hh : h < 6) : al_R0 (b + 2) h = some (b + 3 + 2 * h) := by
  rcases hb with rfl | rfl | rfl
  · exact (by decide +kernel : ∀ h, h < 6 → al_R0 (8 + 2) h = some (8 + 3 + 2 * h)) h hh
  · exact (by decide +kernel : ∀ h, h < 6 → al_R0 (23 + 2) h = some (23 + 3 + 2 * h)) h hh
  · exact (by decide +kernel : ∀ h, h < 6 → al_R0 (46 + 2) h = some (46 + 3 + 2 * h)) h hh
theorem tb_c {b : Nat} (hb : tb b) : al_cls 90 b = some 9 ∧ al_R0 b 1 = some (b + 1) ∧ al_R0 b 2 = some (b + 2) ∧ al_ark 90 (b + 1) = some (0, 64) ∧ al_ark 90 (b + 2) = some (4, 6) := by
  rcases hb with rfl | rfl | rfl <;> decide +kernel
theorem tb8 : tb 8 := Or.inl rfl
/-- whether a point stands among the rounded ones -/
theorem ca_isRounded {b h rc : Nat} {pt : Int32} {I : II} {J : JJ} {Q : QT} (hb : tb b) (hh : h < 6) (hrc : rc ≤ 8) (hI : I (b + 3 + 2 * h) 5 = nI rc) (kq : Q (some (.int (nI (anyb (fun i => decide (I (b + 4 + 2 * h) i = pt)) rc).toNat))) 90 al_R0 I J) : CT m_X2_isRounded 0 [.ref (b + 3 + 2 * h), .int pt] 90 al_R0 I J Q := by
  refine r_X2_isRounded (by decide) (fun F wk b0 b2 b22 b28 => ?_)
  have loop : ∀ d i : Nat, i + d = rc → (∀ j, j < i → ¬ I (b + 4 + 2 * h) j = pt) → F 2 [some (.ref (b + 3 + 2 * h)), some (.int pt), some (.int (nI i))] [] 90 al_R0 I J := by
    intro d
    induction d with
    | zero =>
      intro i hi hno
      refine b2 _ _ _ _ _ _ ?_
      dsimp only [k_X2_isRounded_2, o_iload, o_lload, o_aload, o_istore, o_astore, o_lstore, o_iinc, o_ic, o_lc, o_sc, o_iadd, o_isub, o_imul, o_iand, o_ior, o_ixor, o_ishl, o_ishr, o_ladd, o_lsub, o_land, o_lor, o_lxor, o_lshl, o_lshr, o_i2l, o_l2i, o_lcmp, o_dup, o_dup2, o_pop, o_getI, o_getJ, o_getR, o_putI, o_putZ, o_putJ, o_iald, o_zald, o_lald, o_aald, o_iast, o_zast, o_last, o_alen, o_cpyI, o_cpyJ, o_iret, o_zret, o_lret, o_aret, o_vret, o_idiv, o_irem, o_ineg, o_ifeq, o_ifne, o_iflt, o_ifge, o_ifgt, o_ifle, o_iceq, o_icne, o_iclt, o_icge, o_icgt, o_icle, al_gL, al_sL, al_sJ, al_gd]
      refine al_isC_in (tb_hC hb hh) (br_t (by rw [hI]; exact nI_le (by omega) (by omega)) (b28 _ _ _ _ _ _ ?_))
      rw [anyb_no (fun j hj => decide_eq_false (hno j (by omega)))] at kq
      exact And.intro (Or.inl nI_0) kq
    | succ d ih =>
      intro i hi hno
      refine b2 _ _ _ _ _ _ ?_
      dsimp only [k_X2_isRounded_2, o_iload, o_lload, o_aload, o_istore, o_astore, o_lstore, o_iinc, o_ic, o_lc, o_sc, o_iadd, o_isub, o_imul, o_iand, o_ior, o_ixor, o_ishl, o_ishr, o_ladd, o_lsub, o_land, o_lor, o_lxor, o_lshl, o_lshr, o_i2l, o_l2i, o_lcmp, o_dup, o_dup2, o_pop, o_getI, o_getJ, o_getR, o_putI, o_putZ, o_putJ, o_iald, o_zald, o_lald, o_aald, o_iast, o_zast, o_last, o_alen, o_cpyI, o_cpyJ, o_iret, o_zret, o_lret, o_aret, o_vret, o_idiv, o_irem, o_ineg, o_ifeq, o_ifne, o_iflt, o_ifge, o_ifgt, o_ifle, o_iceq, o_icne, o_iclt, o_icge, o_icgt, o_icle, al_gL, al_sL, al_sJ, al_gd]
      refine al_isC_in (tb_hC hb hh) (br_f (by rw [hI]; exact nI_ge (by omega) (by omega)) (al_isC_in (tb_hC hb hh) (al_rk_in (tb_hR hb hh) (al_isA_in (tb_hA hb hh) (Exists.intro i (And.intro (by omega) (And.intro rfl (And.intro (fun c2 => ?_) (fun c2 => ?_)))))))))
      · have h9 := ih (i + 1) (by omega) (fun j hj => by
          rcases Nat.lt_or_ge j i with q | q
          · exact hno j q
          · rw [show j = i by omega]; exact c2)
        rw [nI_s i] at h9
        exact b22 _ _ _ _ _ _ h9
      · rw [anyb_yes (j := i) (by omega) (decide_eq_true c2)] at kq
        exact And.intro (Or.inr nI_1') kq
  exact b0 _ _ _ _ _ _ (loop rc 0 (by omega) (fun j hj => absurd hj (by omega)))
theorem ca_addRounded {b h rc : Nat} {pt : Int32} {I : II} {J : JJ} {Q : QT} (hb : tb b) (hh : h < 6) (hrc : rc < 8) (hI : I (b + 3 + 2 * h) 5 = nI rc) (kq : Q none 90 al_R0 (al_up (al_up I (b + 4 + 2 * h) rc pt) (b + 3 + 2 * h) 5 (nI (rc + 1))) J) : CT m_X2_addRounded 0 [.ref (b + 3 + 2 * h), .int pt] 90 al_R0 I J Q := by
  refine r_X2_addRounded (by decide) (fun F wk b0 b29 => ?_)
  refine b0 _ _ _ _ _ _ ?_
  dsimp only [k_X2_addRounded_0, o_iload, o_lload, o_aload, o_istore, o_astore, o_lstore, o_iinc, o_ic, o_lc, o_sc, o_iadd, o_isub, o_imul, o_iand, o_ior, o_ixor, o_ishl, o_ishr, o_ladd, o_lsub, o_land, o_lor, o_lxor, o_lshl, o_lshr, o_i2l, o_l2i, o_lcmp, o_dup, o_dup2, o_pop, o_getI, o_getJ, o_getR, o_putI, o_putZ, o_putJ, o_iald, o_zald, o_lald, o_aald, o_iast, o_zast, o_last, o_alen, o_cpyI, o_cpyJ, o_iret, o_zret, o_lret, o_aret, o_vret, o_idiv, o_irem, o_ineg, o_ifeq, o_ifne, o_iflt, o_ifge, o_ifgt, o_ifle, o_iceq, o_icne, o_iclt, o_icge, o_icgt, o_icle, al_gL, al_sL, al_sJ, al_gd]
  refine al_isC_in (tb_hC hb hh) (br_f (by rw [hI]; exact nI_ge (by omega) (by omega)) (al_isC_in (tb_hC hb hh) (al_rk_in (tb_hR hb hh) (al_isC_in (tb_hC hb hh) (al_isA_in (tb_hA hb hh) (Exists.intro rc (And.intro hrc (And.intro hI (al_isC_in (tb_hC hb hh) (al_isC_in (tb_hC hb hh) (b29 _ _ _ _ _ _ ?_)))))))))))
  rw [al_up_p (show b + 3 + 2 * h ≠ b + 4 + 2 * h by omega), hI, ← nI_s rc]
  exact kq
theorem ca_begin {b h : Nat} {kd rt : Int32} {I : II} {J : JJ} {Q : QT} (hb : tb b) (hh : h < 6) (kq : Q none 90 al_R0 (al_up (al_up (al_up (al_up (al_up I (b + 3 + 2 * h) 0 kd) (b + 3 + 2 * h) 1 rt) (b + 3 + 2 * h) 2 (nI 0)) (b + 3 + 2 * h) 3 (nI 0)) (b + 3 + 2 * h) 5 (nI 0)) J) : CT m_X2_begin 0 [.ref (b + 3 + 2 * h), .int kd, .int rt] 90 al_R0 I J Q := by
  refine r_X2_begin (by decide) (fun F wk b0 => ?_)
  refine b0 _ _ _ _ _ _ ?_
  dsimp only [k_X2_begin_0, o_iload, o_lload, o_aload, o_istore, o_astore, o_lstore, o_iinc, o_ic, o_lc, o_sc, o_iadd, o_isub, o_imul, o_iand, o_ior, o_ixor, o_ishl, o_ishr, o_ladd, o_lsub, o_land, o_lor, o_lxor, o_lshl, o_lshr, o_i2l, o_l2i, o_lcmp, o_dup, o_dup2, o_pop, o_getI, o_getJ, o_getR, o_putI, o_putZ, o_putJ, o_iald, o_zald, o_lald, o_aald, o_iast, o_zast, o_last, o_alen, o_cpyI, o_cpyJ, o_iret, o_zret, o_lret, o_aret, o_vret, o_idiv, o_irem, o_ineg, o_ifeq, o_ifne, o_iflt, o_ifge, o_ifgt, o_ifle, o_iceq, o_icne, o_iclt, o_icge, o_icgt, o_icle, al_gL, al_sL, al_sJ, al_gd]
  have hc := tb_hC hb hh
  exact al_isC_in hc (al_isC_in hc (al_isC_in hc (al_isC_in hc (al_isC_in hc kq))))
/-- a row of ints filled -/
theorem cj_fillI {p len : Nat} {v : Int32} {n : Nat} {R : RR} {I : II} {J : JJ} {Q : QT} (hn : n ≤ 90) (hp : al_ark n p = some (0, len)) (hl : len < 2 ^ 31) (kq : ∀ I' : II, (∀ q, q ≠ p → I' q = I q) → (∀ j, j < len → I' p j = v) → (∀ j, len ≤ j → I' p j = I p j) → Q none n R I' J) : CT m_J7_fill_53178 0 [.ref p, .int v] n R I J Q := by
  refine r_J7_fill_53178 hn (fun F wk b0 b5 b20 => ?_)
  have loop : ∀ (d i : Nat) (I' : II), i + d = len → (∀ q, q ≠ p → I' q = I q) → (∀ j, j < i → I' p j = v) → (∀ j, i ≤ j → I' p j = I p j) → F 5 [some (.ref p), some (.int v), some (.int (nI i)), some (.int (nI len))] [] n R I' J := by
    intro d
    induction d with
    | zero =>
      intro i I' hi h1 h2 h3
      obtain rfl : i = len := by omega
      exact b5 _ _ _ _ _ _ (br_t (nI_le (by omega) (by omega)) (b20 _ _ _ _ _ _ (kq I' h1 h2 h3)))
    | succ d ih =>
      intro i I' hi h1 h2 h3
      refine b5 _ _ _ _ _ _ (br_f (nI_ge (by omega) (by omega)) ?_)
      dsimp only [o_iload, o_lload, o_aload, o_istore, o_astore, o_lstore, o_iinc, o_ic, o_lc, o_sc, o_iadd, o_isub, o_imul, o_iand, o_ior, o_ixor, o_ishl, o_ishr, o_ladd, o_lsub, o_land, o_lor, o_lxor, o_lshl, o_lshr, o_i2l, o_l2i, o_lcmp, o_dup, o_dup2, o_pop, o_getI, o_getJ, o_getR, o_putI, o_putZ, o_putJ, o_iald, o_zald, o_lald, o_aald, o_iast, o_zast, o_last, o_alen, o_cpyI, o_cpyJ, o_iret, o_zret, o_lret, o_aret, o_vret, o_idiv, o_irem, o_ineg, o_ifeq, o_ifne, o_iflt, o_ifge, o_ifgt, o_ifle, o_iceq, o_icne, o_iclt, o_icge, o_icgt, o_icle, al_gL, al_sL, al_sJ, al_gd]
      refine al_isA_in hp (Exists.intro i (And.intro (by omega) (And.intro rfl ?_)))
      have h9 := ih (i + 1) (al_up I' p i v) (by omega) (fun q hq => by rw [al_up_row hq, h1 q hq]) (fun j hj => by
        by_cases e : j = i
        · subst e; exact al_up_s
        · rw [al_up_j e]; exact h2 j (by omega)) (fun j hj => by rw [al_up_j (by omega)]; exact h3 j (by omega))
      rw [nI_s i] at h9
      exact h9
  refine b0 _ _ _ _ _ _ ?_
  dsimp only [k_J7_fill_53178_0, o_iload, o_lload, o_aload, o_istore, o_astore, o_lstore, o_iinc, o_ic, o_lc, o_sc, o_iadd, o_isub, o_imul, o_iand, o_ior, o_ixor, o_ishl, o_ishr, o_ladd, o_lsub, o_land, o_lor, o_lxor, o_lshl, o_lshr, o_i2l, o_l2i, o_lcmp, o_dup, o_dup2, o_pop, o_getI, o_getJ, o_getR, o_putI, o_putZ, o_putJ, o_iald, o_zald, o_lald, o_aald, o_iast, o_zast, o_last, o_alen, o_cpyI, o_cpyJ, o_iret, o_zret, o_lret, o_aret, o_vret, o_idiv, o_irem, o_ineg, o_ifeq, o_ifne, o_iflt, o_ifge, o_ifgt, o_ifle, o_iceq, o_icne, o_iclt, o_icge, o_icgt, o_icle, al_gL, al_sL, al_sJ, al_gd]
  exact al_isA_in hp (loop len 0 I (by omega) (fun _ _ => rfl) (fun j hj => absurd hj (by omega)) (fun _ _ => rfl))
theorem cj_fillJ {p len : Nat} {v : Int64} {n : Nat} {R : RR} {I : II} {J : JJ} {Q : QT} (hn : n ≤ 90) (hp : al_ark n p = some (1, len)) (hl : len < 2 ^ 31) (kq : ∀ J' : JJ, (∀ q, q ≠ p → J' q = J q) → (∀ j, j < len → J' p j = v) → (∀ j, len ≤ j → J' p j = J p j) → Q none n R I J') : CT m_J7_fill_d0a16 0 [.ref p, .long v] n R I J Q := by
  refine r_J7_fill_d0a16 hn (fun F wk b0 b6 b22 => ?_)
  have loop : ∀ (d i : Nat) (J' : JJ), i + d = len → (∀ q, q ≠ p → J' q = J q) → (∀ j, j < i → J' p j = v) → (∀ j, i ≤ j → J' p j = J p j) → F 6 [some (.ref p), some (.long v), none, some (.int (nI i)), some (.int (nI len))] [] n R I J' := by
    intro d
    induction d with
    | zero =>
      intro i J' hi h1 h2 h3
      obtain rfl : i = len := by omega
      exact b6 _ _ _ _ _ _ (br_t (nI_le (by omega) (by omega)) (b22 _ _ _ _ _ _ (kq J' h1 h2 h3)))
    | succ d ih =>
      intro i J' hi h1 h2 h3
      refine b6 _ _ _ _ _ _ (br_f (nI_ge (by omega) (by omega)) ?_)
      dsimp only [o_iload, o_lload, o_aload, o_istore, o_astore, o_lstore, o_iinc, o_ic, o_lc, o_sc, o_iadd, o_isub, o_imul, o_iand, o_ior, o_ixor, o_ishl, o_ishr, o_ladd, o_lsub, o_land, o_lor, o_lxor, o_lshl, o_lshr, o_i2l, o_l2i, o_lcmp, o_dup, o_dup2, o_pop, o_getI, o_getJ, o_getR, o_putI, o_putZ, o_putJ, o_iald, o_zald, o_lald, o_aald, o_iast, o_zast, o_last, o_alen, o_cpyI, o_cpyJ, o_iret, o_zret, o_lret, o_aret, o_vret, o_idiv, o_irem, o_ineg, o_ifeq, o_ifne, o_iflt, o_ifge, o_ifgt, o_ifle, o_iceq, o_icne, o_iclt, o_icge, o_icgt, o_icle, al_gL, al_sL, al_sJ, al_gd]
      refine al_isA_in hp (Exists.intro i (And.intro (by omega) (And.intro rfl ?_)))
      have h9 := ih (i + 1) (al_up J' p i v) (by omega) (fun q hq => by rw [al_up_row hq, h1 q hq]) (fun j hj => by
        by_cases e : j = i
        · subst e; exact al_up_s
        · rw [al_up_j e]; exact h2 j (by omega)) (fun j hj => by rw [al_up_j (by omega)]; exact h3 j (by omega))
      rw [nI_s i] at h9
      exact h9
  refine b0 _ _ _ _ _ _ ?_
  dsimp only [k_J7_fill_d0a16_0, o_iload, o_lload, o_aload, o_istore, o_astore, o_lstore, o_iinc, o_ic, o_lc, o_sc, o_iadd, o_isub, o_imul, o_iand, o_ior, o_ixor, o_ishl, o_ishr, o_ladd, o_lsub, o_land, o_lor, o_lxor, o_lshl, o_lshr, o_i2l, o_l2i, o_lcmp, o_dup, o_dup2, o_pop, o_getI, o_getJ, o_getR, o_putI, o_putZ, o_putJ, o_iald, o_zald, o_lald, o_aald, o_iast, o_zast, o_last, o_alen, o_cpyI, o_cpyJ, o_iret, o_zret, o_lret, o_aret, o_vret, o_idiv, o_irem, o_ineg, o_ifeq, o_ifne, o_iflt, o_ifge, o_ifgt, o_ifle, o_iceq, o_icne, o_iclt, o_icge, o_icgt, o_icle, al_gL, al_sL, al_sJ, al_gd]
  exact al_isA_in hp (loop len 0 J (by omega) (fun _ _ => rfl) (fun j hj => absurd hj (by omega)) (fun _ _ => rfl))
