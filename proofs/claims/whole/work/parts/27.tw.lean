/-! A TOWN: squares, how many houses, the houses' numbers (0 kind, 1 rate, 2 wealth, 3 owed, 4 how many rounded), rounded points -/
theorem al_r8_in {r : List Value} {P : Prop} (h : al_cs r ≤ 8) (hP : P) : al_r8 r P := by
  unfold al_r8
  rw [Nat.ble_eq_true_of_le h]
  exact hP
abbrev TW : Type := (Nat → Nat) × Nat × (Nat → Nat → Int32) × (Nat → Nat → Int32)
def fi (f : Nat) : Nat := if f = 4 then 5 else f
def VT (T : TW) : Prop := T.2.1 ≤ 6 ∧ (∀ j, j < 64 → vok T.2.1 (T.1 j)) ∧ ∀ h, h < T.2.1 → (∃ k, k < 6 ∧ T.2.2.1 h 0 = nI k) ∧ (∃ r, 1 ≤ r ∧ r ≤ 99 ∧ T.2.2.1 h 1 = nI r) ∧ ∃ m, m ≤ 8 ∧ T.2.2.1 h 4 = nI m
def CTn (b : Nat) (T : TW) (I : II) (J : JJ) : Prop := I b 3 = nI T.2.1 ∧ sqr I (b + 1) T.1 ∧ mks (J b 4) (J b 5) T.1 ∧ (∀ h, h < 6 → ∀ f, f < 5 → I (b + 3 + 2 * h) (fi f) = T.2.2.1 h f) ∧ ∀ h, h < 6 → ∀ k, k < 8 → I (b + 4 + 2 * h) k = T.2.2.2 h k
theorem VT.cdo {T : TW} (h : VT T) : cdo T.1 := fun j hj => by
  have h1 := h.2.1 j hj
  have h2 := h.1
  unfold vok at h1
  omega
theorem CTn.keep {b : Nat} {T : TW} {I I' : II} {J J' : JJ} (h : CTn b T I J) (hk : ∀ p, b ≤ p → p < b + 15 → I' p = I p ∧ J' p = J p) : CTn b T I' J' := by
  obtain ⟨h1, h2, h3, h4, h5⟩ := h
  refine ⟨by rw [(hk b (by omega) (by omega)).1]; exact h1, fun j hj => by rw [(hk (b + 1) (by omega) (by omega)).1]; exact h2 j hj, by rw [(hk b (by omega) (by omega)).2]; exact h3, fun h hh f hf => by rw [(hk (b + 3 + 2 * h) (by omega) (by omega)).1]; exact h4 h hh f hf, fun h hh k hk9 => by rw [(hk (b + 4 + 2 * h) (by omega) (by omega)).1]; exact h5 h hh k hk9⟩
theorem ca_hbecome {d s h : Nat} {I : II} {J : JJ} {Q : QT} (hd : tb d) (hs : tb s) (hds : d ≠ s) (hh : h < 6) (kq : ∀ I' : II, (∀ f, f < 5 → I' (d + 3 + 2 * h) (fi f) = I (s + 3 + 2 * h) (fi f)) → (∀ k, k < 8 → I' (d + 4 + 2 * h) k = I (s + 4 + 2 * h) k) → (∀ p, p ≠ d + 3 + 2 * h → p ≠ d + 4 + 2 * h → I' p = I p) → Q none 90 al_R0 I' J) : CT m_X2_become 0 [.ref (d + 3 + 2 * h), .ref (s + 3 + 2 * h)] 90 al_R0 I J Q := by
  refine r_X2_become (by decide) rfl (fun F wk b0 => ?_)
  refine b0 _ _ _ _ _ _ ?_
  dsimp only [k_X2_become_0, o_iload, o_lload, o_aload, o_istore, o_astore, o_lstore, o_iinc, o_ic, o_lc, o_sc, o_iadd, o_isub, o_imul, o_iand, o_ior, o_ixor, o_ishl, o_ishr, o_ladd, o_lsub, o_land, o_lor, o_lxor, o_lshl, o_lshr, o_i2l, o_l2i, o_lcmp, o_dup, o_dup2, o_pop, o_getI, o_getJ, o_getR, o_putI, o_putZ, o_putJ, o_iald, o_zald, o_lald, o_aald, o_iast, o_zast, o_last, o_alen, o_cpyI, o_cpyJ, o_iret, o_zret, o_lret, o_aret, o_vret, o_idiv, o_irem, o_ineg, o_ifeq, o_ifne, o_iflt, o_ifge, o_ifgt, o_ifle, o_iceq, o_icne, o_iclt, o_icge, o_icgt, o_icle, al_gL, al_sL, al_sJ, al_gd]
  have c1 := tb_hC hd hh
  have c2 := tb_hC hs hh
  have r1 := tb_hR hd hh
  have r2 := tb_hR hs hh
  have a1 := tb_hA hd hh
  have a2 := tb_hA hs hh
  have far : ∀ i j : Nat, i < 15 → j < 15 → d + i ≠ s + j := by
    unfold tb at hd hs
    intro i j hi hj
    omega
  generalize ed : d + 3 + 2 * h = x at *
  generalize es : s + 3 + 2 * h = y at *
  have ed4 : d + 4 + 2 * h = x + 1 := by omega
  have es4 : s + 4 + 2 * h = y + 1 := by omega
  rw [ed4] at r1 a1 kq
  rw [es4] at r2 a2 kq
  have hxy : x ≠ y := by have := far (3 + 2 * h) (3 + 2 * h) (by omega) (by omega); omega
  have hxy1 : x ≠ y + 1 := by have := far (3 + 2 * h) (4 + 2 * h) (by omega) (by omega); omega
  have hx1y : x + 1 ≠ y := by have := far (4 + 2 * h) (3 + 2 * h) (by omega) (by omega); omega
  have hx1y1 : x + 1 ≠ y + 1 := by omega
  refine al_isC_in c2 (al_isC_in c1 (al_isC_in c2 (al_isC_in c1 (al_isC_in c2 (al_isC_in c1 (al_isC_in c2 (al_isC_in c1 (al_isC_in c2 (al_isC_in c1 (al_isC_in c2 (al_rk_in r2 (al_isC_in c1 (al_rk_in r1 ?_)))))))))))))
  refine al_r8_in (by decide) ?_
  refine al_isA_in a2 (al_isA_in a1 (Exists.intro 8 (Exists.intro 0 (Exists.intro 0 (And.intro rfl (And.intro rfl (And.intro rfl (And.intro (by decide) (And.intro (by decide) ?_)))))))))
  refine kq _ ?_ ?_ ?_
  · intro f hf
    rw [al_cpy_row (by omega)]
    rcases (show f = 0 ∨ f = 1 ∨ f = 2 ∨ f = 3 ∨ f = 4 by omega) with rfl | rfl | rfl | rfl | rfl <;> simp [fi, al_up, Ne.symm hxy]
  · intro k hk
    simp only [al_cpy, if_true, if_pos (show 0 ≤ k ∧ k < 0 + 8 by omega), Nat.zero_add, Nat.sub_zero]
    rw [al_up_p (Ne.symm hxy1), al_up_p (Ne.symm hxy1), al_up_p (Ne.symm hxy1), al_up_p (Ne.symm hxy1), al_up_p (Ne.symm hxy1)]
  · intro p h1 h2
    rw [al_cpy_row h2, al_up_row h1, al_up_row h1, al_up_row h1, al_up_row h1, al_up_row h1]
theorem ca_become {d s : Nat} {T : TW} {I : II} {J : JJ} {Q : QT} (hd : tb d) (hs : tb s) (hds : d ≠ s) (hT : CTn s T I J) (kq : ∀ (I' : II) (J' : JJ), CTn d T I' J' → (∀ p, ¬ (d ≤ p ∧ p < d + 15) → I' p = I p ∧ J' p = J p) → Q none 90 al_R0 I' J') : CT m_X9_become 0 [.ref d, .ref s] 90 al_R0 I J Q := by
  refine r_X9_become (by decide) rfl (fun F wk b0 b41 b68 => ?_)
  obtain ⟨t1, t2, t3, t4, t5⟩ := hT
  obtain ⟨c1, r1, o1, a1, e1⟩ := tb_c hd
  obtain ⟨c2, r2, o2, a2, e2⟩ := tb_c hs
  have far : ∀ i j : Nat, i < 15 → j < 15 → d + i ≠ s + j := by
    unfold tb at hd hs
    intro i j hi hj
    omega
  have fds : s ≠ d := by omega
  have fd1 : s + 1 ≠ d := by have := far 0 1 (by omega) (by omega); omega
  have fs1 : s ≠ d + 1 := by have := far 1 0 (by omega) (by omega); omega
  have loop : ∀ (e i : Nat) (I' : II) (J' : JJ), i + e = 6 → I' d 3 = nI T.2.1 → sqr I' (d + 1) T.1 → mks (J' d 4) (J' d 5) T.1 → (∀ h, h < i → ∀ f, f < 5 → I' (d + 3 + 2 * h) (fi f) = T.2.2.1 h f) → (∀ h, h < i → ∀ k, k < 8 → I' (d + 4 + 2 * h) k = T.2.2.2 h k) → (∀ p, ¬ (d ≤ p ∧ p < d + 15) → I' p = I p ∧ J' p = J p) → F 41 [some (.ref d), some (.ref s), some (.int (nI i))] [] 90 al_R0 I' J' := by
    intro e
    induction e with
    | zero =>
      intro i I' J' hi g1 g2 g3 g4 g5 g6
      obtain rfl : i = 6 := by omega
      exact b41 _ _ _ _ _ _ (br_t (nI_le (by omega) (by omega)) (b68 _ _ _ _ _ _ (kq I' J' ⟨g1, g2, g3, g4, g5⟩ g6)))
    | succ e ih =>
      intro i I' J' hi g1 g2 g3 g4 g5 g6
      refine b41 _ _ _ _ _ _ (br_f (nI_ge (by omega) (by omega)) ?_)
      dsimp only [o_iload, o_lload, o_aload, o_istore, o_astore, o_lstore, o_iinc, o_ic, o_lc, o_sc, o_iadd, o_isub, o_imul, o_iand, o_ior, o_ixor, o_ishl, o_ishr, o_ladd, o_lsub, o_land, o_lor, o_lxor, o_lshl, o_lshr, o_i2l, o_l2i, o_lcmp, o_dup, o_dup2, o_pop, o_getI, o_getJ, o_getR, o_putI, o_putZ, o_putJ, o_iald, o_zald, o_lald, o_aald, o_iast, o_zast, o_last, o_alen, o_cpyI, o_cpyJ, o_iret, o_zret, o_lret, o_aret, o_vret, o_idiv, o_irem, o_ineg, o_ifeq, o_ifne, o_iflt, o_ifge, o_ifgt, o_ifle, o_iceq, o_icne, o_iclt, o_icge, o_icgt, o_icle, al_gL, al_sL, al_sJ, al_gd]
      refine al_isC_in c1 (al_rk_in o1 (al_isA_in e1 (Exists.intro i (And.intro (by omega) (And.intro rfl (al_rk_in (tb_hO hd (by omega)) (al_isC_in c2 (al_rk_in o2 (al_isA_in e2 (Exists.intro i (And.intro (by omega) (And.intro rfl (al_rk_in (tb_hO hs (by omega)) ?_)))))))))))))
      dsimp only [o_cV, al_pop, al_hd]
      refine al_isC_in (tb_hC hd (by omega)) (al_r8_in (by decide) ?_)
      refine ca_hbecome hd hs hds (by omega) (fun I2 p1 p2 p3 => ?_)
      have k1 : ∀ f, f < 5 → I2 (d + 3 + 2 * i) (fi f) = T.2.2.1 i f := fun f hf => by
        rw [p1 f hf, (g6 (s + 3 + 2 * i) (by unfold tb at hd hs; omega)).1]
        exact t4 i (by omega) f hf
      have k2 : ∀ k, k < 8 → I2 (d + 4 + 2 * i) k = T.2.2.2 i k := fun k hk => by
        rw [p2 k hk, (g6 (s + 4 + 2 * i) (by unfold tb at hd hs; omega)).1]
        exact t5 i (by omega) k hk
      have h9 := ih (i + 1) I2 J' (by omega) (by rw [p3 d (by omega) (by omega)]; exact g1) (fun j hj => by rw [p3 (d + 1) (by omega) (by omega)]; exact g2 j hj) g3 (fun h hh f hf => by
          by_cases q : h = i
          · subst q; exact k1 f hf
          · rw [p3 (d + 3 + 2 * h) (by omega) (by omega)]; exact g4 h (by omega) f hf) (fun h hh k hk => by
          by_cases q : h = i
          · subst q; exact k2 k hk
          · rw [p3 (d + 4 + 2 * h) (by omega) (by omega)]; exact g5 h (by omega) k hk) (fun p hp => ⟨by rw [p3 p (by omega) (by omega)]; exact (g6 p hp).1, (g6 p hp).2⟩)
      rw [nI_s i] at h9
      exact h9
  refine b0 _ _ _ _ _ _ ?_
  dsimp only [k_X9_become_0, o_iload, o_lload, o_aload, o_istore, o_astore, o_lstore, o_iinc, o_ic, o_lc, o_sc, o_iadd, o_isub, o_imul, o_iand, o_ior, o_ixor, o_ishl, o_ishr, o_ladd, o_lsub, o_land, o_lor, o_lxor, o_lshl, o_lshr, o_i2l, o_l2i, o_lcmp, o_dup, o_dup2, o_pop, o_getI, o_getJ, o_getR, o_putI, o_putZ, o_putJ, o_iald, o_zald, o_lald, o_aald, o_iast, o_zast, o_last, o_alen, o_cpyI, o_cpyJ, o_iret, o_zret, o_lret, o_aret, o_vret, o_idiv, o_irem, o_ineg, o_ifeq, o_ifne, o_iflt, o_ifge, o_ifgt, o_ifle, o_iceq, o_icne, o_iclt, o_icge, o_icgt, o_icle, al_gL, al_sL, al_sJ, al_gd]
  refine al_isC_in c2 (al_isC_in c1 (al_isC_in c2 (al_isC_in c1 (al_isC_in c2 (al_isC_in c1 (al_isC_in c2 (al_rk_in r2 (al_isC_in c1 (al_rk_in r1 ?_)))))))))
  refine al_r8_in (by decide) ?_
  refine al_isA_in a2 (al_isA_in a1 (Exists.intro 64 (Exists.intro 0 (Exists.intro 0 (And.intro rfl (And.intro rfl (And.intro rfl (And.intro (by decide) (And.intro (by decide) ?_)))))))))
  refine loop 6 0 _ _ rfl ?_ ?_ ?_ (fun h hh => absurd hh (by omega)) (fun h hh => absurd hh (by omega)) ?_
  · rw [al_cpy_row (by omega), al_up_s]
    exact t1
  · intro j hj
    simp only [al_cpy, if_true, if_pos (show 0 ≤ j ∧ j < 0 + 64 by omega), Nat.zero_add, Nat.sub_zero]
    rw [al_up_p fd1]
    exact t2 j hj
  · rw [al_up_j (by decide), al_up_s, al_up_s, al_up_p fds]
    exact t3
  · intro p hp
    refine ⟨?_, ?_⟩
    · rw [al_cpy_row (by omega), al_up_row (by omega)]
    · rw [al_up_row (by omega), al_up_row (by omega)]
