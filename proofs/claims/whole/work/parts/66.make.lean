/-! MAKING: the constructors -/
theorem sk_C {n p ci : Nat} (h : al_sk p = .inl ci) (hp : p < n) : al_cls n p = some ci := by
  unfold al_cls
  rw [show Nat.blt p n = true from Nat.ble_eq_true_of_le hp, h]
theorem sk_A {n p : Nat} {a : Nat × Nat} (h : al_sk p = .inr a) (hp : p < n) : al_ark n p = some a := by
  unfold al_ark
  rw [show Nat.blt p n = true from Nat.ble_eq_true_of_le hp, h]
def FZ (n : Nat) (R : RR) (I : II) (J : JJ) : Prop := ∀ p, n ≤ p → (∀ j, R p j = none) ∧ (∀ j, I p j = 0) ∧ ∀ j, J p j = 0
theorem FZ.up {n p j : Nat} {v : Option Nat} {R : RR} {I : II} {J : JJ} (h : FZ n R I J) (hp : p < n) : FZ n (al_up R p j v) I J := fun q hq => ⟨fun k => by rw [al_up_p (by omega)]; exact (h q hq).1 k, (h q hq).2⟩
theorem FZ.le {n m : Nat} {R : RR} {I : II} {J : JJ} (h : FZ n R I J) (hm : n ≤ m) : FZ m R I J := fun q hq => h q (by omega)
theorem mk_3 {p n : Nat} {R : RR} {I : II} {J : JJ} {Q : QT} (hn : n ≤ 90) (kq : Q none n R I J) : CT m_X3_init 0 [.ref p] n R I J Q :=
  r_X3_init hn (fun F wk b0 => b0 _ _ _ _ _ _ (And.intro rfl kq))
theorem mk_5 {p n : Nat} {R : RR} {I : II} {J : JJ} {Q : QT} (hn : n ≤ 90) (kq : Q none n R I J) : CT m_X5_init 0 [.ref p] n R I J Q :=
  r_X5_init hn (fun F wk b0 => b0 _ _ _ _ _ _ (And.intro (Nat.le_refl _) (mk_3 hn (And.intro rfl kq))))
theorem mk_6 {p n : Nat} {R : RR} {I : II} {J : JJ} {Q : QT} (hn : n ≤ 90) (kq : Q none n R I J) : CT m_X6_init 0 [.ref p] n R I J Q :=
  r_X6_init hn (fun F wk b0 => b0 _ _ _ _ _ _ (And.intro (Nat.le_refl _) (mk_3 hn (And.intro rfl kq))))
theorem mk_0 {p n : Nat} {R : RR} {I : II} {J : JJ} {Q : QT} (hn : n ≤ 90) (kq : Q none n R I J) : CT m_X0_init 0 [.ref p] n R I J Q :=
  r_X0_init hn (fun F wk b0 => b0 _ _ _ _ _ _ (And.intro (Nat.le_refl _) (mk_5 hn (And.intro rfl kq))))
theorem mk_4 {p n : Nat} {R : RR} {I : II} {J : JJ} {Q : QT} (hn : n ≤ 90) (kq : Q none n R I J) : CT m_X4_init 0 [.ref p] n R I J Q :=
  r_X4_init hn (fun F wk b0 => b0 _ _ _ _ _ _ (And.intro (Nat.le_refl _) (mk_6 hn (And.intro rfl kq))))
theorem mk_1 {p n : Nat} {R : RR} {I : II} {J : JJ} {Q : QT} (hn : n ≤ 90) (kq : Q none n R I J) : CT m_X1_init 0 [.ref p] n R I J Q :=
  r_X1_init hn (fun F wk b0 => b0 _ _ _ _ _ _ (And.intro (Nat.le_refl _) (mk_0 hn (And.intro rfl kq))))
theorem mk_2 {p n : Nat} {R : RR} {I : II} {J : JJ} {Q : QT} (hn : n + 1 ≤ 90) (hp : al_sk p = .inl 2) (hpn : p < n) (ha : al_sk n = .inr (0, 8)) (hz : FZ n R I J) (kq : Q none (n + 1) (al_up R p 4 (some n)) I J) : CT m_X2_init 1 [.ref p] n R I J Q := by
  refine r_X2_init hn (fun F wk b0 => b0 _ _ _ _ _ _ (And.intro rfl (And.intro (by omega) (And.intro ha (And.intro (hz n (Nat.le_refl n)) ?_)))))
  dsimp only [o_putR]
  exact al_isC_in (sk_C hp (by omega)) (And.intro rfl kq)
theorem mk_7 {p n : Nat} {R : RR} {I : II} {J : JJ} {Q : QT} (hn : n + 1 ≤ 90) (hp : al_sk p = .inl 7) (hpn : p < n) (ha : al_sk n = .inr (1, 40)) (hz : FZ n R I J) (kq : Q none (n + 1) (al_up R p 2 (some n)) I J) : CT m_X7_init 1 [.ref p] n R I J Q := by
  refine r_X7_init hn (fun F wk b0 => b0 _ _ _ _ _ _ (And.intro rfl (And.intro (by omega) (And.intro ha (And.intro (hz n (Nat.le_refl n)) ?_)))))
  dsimp only [o_putR]
  exact al_isC_in (sk_C hp (by omega)) (And.intro rfl kq)
/-- a town made -/
def R9h (b : Nat) (R : RR) : Nat → RR
  | 0 => R
  | i + 1 => al_up (al_up (R9h b R i) (b + 3 + 2 * i) 4 (some (b + 4 + 2 * i))) (b + 2) i (some (b + 3 + 2 * i))
def R9 (b : Nat) (R : RR) : RR := R9h b (al_up (al_up (al_up R b 0 (some 1)) b 1 (some (b + 1))) b 2 (some (b + 2))) 6
theorem tb_sk {b : Nat} (hb : tb b) : al_sk b = .inl 9 ∧ al_sk (b + 1) = .inr (0, 64) ∧ al_sk (b + 2) = .inr (4, 6) := by
  rcases hb with rfl | rfl | rfl <;> exact ⟨rfl, rfl, rfl⟩
theorem tb_skh {b i : Nat} (hb : tb b) (hi : i < 6) : al_sk (b + 3 + 2 * i) = .inl 2 ∧ al_sk (b + 4 + 2 * i) = .inr (0, 8) := by
  rcases (show i = 0 ∨ i = 1 ∨ i = 2 ∨ i = 3 ∨ i = 4 ∨ i = 5 by omega) with rfl | rfl | rfl | rfl | rfl | rfl <;> rcases hb with rfl | rfl | rfl <;> exact ⟨rfl, rfl⟩
theorem R9h_b {b : Nat} {R : RR} : ∀ i, R9h b R i b 2 = R b 2
  | 0 => rfl
  | i + 1 => by rw [R9h, al_up_p (by omega), al_up_p (by omega)]; exact R9h_b i
theorem R9h_z {b : Nat} {R : RR} {I : II} {J : JJ} (hz : FZ (b + 3) R I J) : ∀ i, FZ (b + 3 + 2 * i) (R9h b R i) I J
  | 0 => hz
  | i + 1 => (((R9h_z hz i).le (show b + 3 + 2 * i ≤ b + 3 + 2 * (i + 1) by omega)).up (by omega)).up (by omega)
theorem R9_z {b : Nat} {R : RR} {I : II} {J : JJ} (hz : FZ (b + 1) R I J) : FZ (b + 15) (R9 b R) I J := R9h_z ((((hz.le (show b + 1 ≤ b + 3 by omega)).up (by omega)).up (by omega)).up (by omega)) 6
theorem R9h_n {b q : Nat} {R : RR} (hq : q < b ∨ b + 15 ≤ q) (j : Nat) : ∀ i, i ≤ 6 → R9h b R i q j = R q j
  | 0, _ => rfl
  | i + 1, h => by rw [R9h, al_up_p (by omega), al_up_p (by omega)]; exact R9h_n hq j i (by omega)
theorem R9_n {b q j : Nat} {R : RR} (hq : q < b ∨ b + 15 ≤ q) : R9 b R q j = R q j := by
  unfold R9
  rw [R9h_n hq j 6 (Nat.le_refl 6), al_up_p (by omega), al_up_p (by omega), al_up_p (by omega)]
theorem mk_9 {b : Nat} {R : RR} {I : II} {J : JJ} {Q : QT} (hb : tb b) (hz : FZ (b + 1) R I J) (kq : Q none (b + 15) (R9 b R) I J) : CT m_X9_init 14 [.ref b, .ref 1] (b + 1) R I J Q := by
  obtain ⟨s0, s1, s2⟩ := tb_sk hb
  have hb90 : b + 15 ≤ 90 := by unfold tb at hb; omega
  refine r_X9_init (by omega) (fun F wk b0 b28 b53 => ?_)
  obtain ⟨R1, hR1⟩ : ∃ X, X = al_up (al_up (al_up R b 0 (some 1)) b 1 (some (b + 1))) b 2 (some (b + 2)) := ⟨_, rfl⟩
  have hR2 : R1 b 2 = some (b + 2) := by rw [hR1, al_up_s]
  have hz1 : FZ (b + 3) R1 I J := by rw [hR1]; exact ((((hz.le (show b + 1 ≤ b + 3 by omega)).up (by omega)).up (by omega)).up (by omega))
  have loop : ∀ d i : Nat, i + d = 6 → F 28 [some (.ref b), some (.ref 1), some (.int (nI i))] [] (b + 3 + 2 * i) (R9h b R1 i) I J := by
    intro d
    induction d with
    | zero =>
      intro i hi
      obtain rfl : i = 6 := by omega
      refine b28 _ _ _ _ _ _ (br_t (nI_le (by omega) (by omega)) (b53 _ _ _ _ _ _ (And.intro (by omega) ?_)))
      unfold R9 at kq
      rw [← hR1] at kq
      exact kq
    | succ d ih =>
      intro i hi
      obtain ⟨s3, s4⟩ := tb_skh hb (show i < 6 by omega)
      have hzi := R9h_z hz1 i
      refine b28 _ _ _ _ _ _ (br_f (nI_ge (by omega) (by omega)) ?_)
      dsimp only [o_iload, o_lload, o_aload, o_istore, o_astore, o_lstore, o_iinc, o_ic, o_lc, o_sc, o_iadd, o_isub, o_imul, o_iand, o_ior, o_ixor, o_ishl, o_ishr, o_ladd, o_lsub, o_land, o_lor, o_lxor, o_lshl, o_lshr, o_i2l, o_l2i, o_lcmp, o_dup, o_dup2, o_pop, o_getI, o_getJ, o_getR, o_putI, o_putZ, o_putJ, o_iald, o_zald, o_lald, o_aald, o_iast, o_zast, o_last, o_alen, o_cpyI, o_cpyJ, o_iret, o_zret, o_lret, o_aret, o_vret, o_idiv, o_irem, o_ineg, o_ifeq, o_ifne, o_iflt, o_ifge, o_ifgt, o_ifle, o_iceq, o_icne, o_iclt, o_icge, o_icgt, o_icle, al_gL, al_sL, al_sJ, al_gd]
      refine al_isC_in (sk_C s0 (by omega)) (al_rk_in ((R9h_b i).trans hR2) (And.intro (by omega) (And.intro ⟨s3, hzi _ (Nat.le_refl _)⟩ (And.intro (by omega) ?_))))
      dsimp only [al_pop, al_hd]
      refine al_r8_in (by simp [al_cs]) (mk_2 (by omega) s3 (by omega) (by rw [show b + 3 + 2 * i + 1 = b + 4 + 2 * i by omega]; exact s4) (hzi.le (by omega)) ?_)
      have h9 := ih (i + 1) (by omega)
      rw [nI_s i, R9h, show b + 3 + 2 * (i + 1) = b + 3 + 2 * i + 1 + 1 by omega, show b + 4 + 2 * i = b + 3 + 2 * i + 1 by omega] at h9
      dsimp only [al_pu, o_aast, o_iload, o_lload, o_aload, o_istore, o_astore, o_lstore, o_iinc, o_ic, o_lc, o_sc, o_iadd, o_isub, o_imul, o_iand, o_ior, o_ixor, o_ishl, o_ishr, o_ladd, o_lsub, o_land, o_lor, o_lxor, o_lshl, o_lshr, o_i2l, o_l2i, o_lcmp, o_dup, o_dup2, o_pop, o_getI, o_getJ, o_getR, o_putI, o_putZ, o_putJ, o_iald, o_zald, o_lald, o_aald, o_iast, o_zast, o_last, o_alen, o_cpyI, o_cpyJ, o_iret, o_zret, o_lret, o_aret, o_vret, o_idiv, o_irem, o_ineg, o_ifeq, o_ifne, o_iflt, o_ifge, o_ifgt, o_ifle, o_iceq, o_icne, o_iclt, o_icge, o_icgt, o_icle, al_gL, al_sL, al_sJ, al_gd]
      refine al_isA_in (sk_A s2 (by omega)) (Exists.intro i (And.intro (by omega) (And.intro rfl (al_isC_in (sk_C s3 (by omega)) h9))))
  refine b0 _ _ _ _ _ _ ?_
  dsimp only [k_X9_init_0, o_oinit, o_putR, o_newa, o_iload, o_lload, o_aload, o_istore, o_astore, o_lstore, o_iinc, o_ic, o_lc, o_sc, o_iadd, o_isub, o_imul, o_iand, o_ior, o_ixor, o_ishl, o_ishr, o_ladd, o_lsub, o_land, o_lor, o_lxor, o_lshl, o_lshr, o_i2l, o_l2i, o_lcmp, o_dup, o_dup2, o_pop, o_getI, o_getJ, o_getR, o_putI, o_putZ, o_putJ, o_iald, o_zald, o_lald, o_aald, o_iast, o_zast, o_last, o_alen, o_cpyI, o_cpyJ, o_iret, o_zret, o_lret, o_aret, o_vret, o_idiv, o_irem, o_ineg, o_ifeq, o_ifne, o_iflt, o_ifge, o_ifgt, o_ifle, o_iceq, o_icne, o_iclt, o_icge, o_icgt, o_icle, al_gL, al_sL, al_sJ, al_gd]
  refine al_r8_in (by decide) (al_isC_in (sk_C s0 (by omega)) (And.intro rfl (And.intro (by omega) (And.intro s1 (And.intro ((hz.up (show b < b + 1 by omega)) _ (Nat.le_refl _)) ?_)))))
  refine al_isC_in (sk_C s0 (by omega)) (And.intro rfl (And.intro (by omega) (And.intro s2 (And.intro ((((hz.up (show b < b + 1 by omega)).up (show b < b + 1 by omega)).le (show b + 1 ≤ b + 1 + 1 by omega)) _ (Nat.le_refl _)) ?_))))
  refine al_isC_in (sk_C s0 (by omega)) ?_
  have h9 := loop 6 0 rfl
  rw [show R9h b R1 0 = R1 from rfl, hR1] at h9
  exact h9
