/-! MAKING: the class; the start -/
def RN : RR := fun _ _ => none
def ZI : II := fun _ _ => 0
def ZJ : JJ := fun _ _ => 0
def Rl : RR := al_up (al_up (al_up (al_up (al_up (al_up RN 1 0 (some 2)) 1 1 (some 3)) 1 2 (some 4)) 1 3 (some 5)) 1 4 (some 6)) 1 5 (some 7)
def Ra : RR := al_up (R9 8 Rl) 0 0 (some 8)
def Rb : RR := al_up (R9 23 Ra) 0 1 (some 23)
def Rc : RR := al_up (R8 Rb) 0 3 (some 38)
def Rd : RR := al_up (R10 (R9 46 Rc)) 0 4 (some 45)
def Re : RR := al_up Rd 0 5 (some 62)
def R7h (R : RR) : Nat → RR
  | 0 => R
  | i + 1 => al_up (al_up (R7h R i) (63 + 2 * i) 2 (some (64 + 2 * i))) 62 i (some (63 + 2 * i))
def Rf : RR := al_up (al_up (al_up (R7h Re 4) 0 6 (some 71)) 0 7 (some 72)) 0 8 (some 73)
theorem R7h_0 {R : RR} : ∀ i, R7h R i 0 5 = R 0 5
  | 0 => rfl
  | i + 1 => by rw [R7h, al_up_p (by omega), al_up_p (by omega)]; exact R7h_0 i
theorem R7h_z {R : RR} {I : II} {J : JJ} (hz : FZ 63 R I J) : ∀ i, FZ (63 + 2 * i) (R7h R i) I J
  | 0 => hz
  | i + 1 => (((R7h_z hz i).le (show 63 + 2 * i ≤ 63 + 2 * (i + 1) by omega)).up (by omega)).up (by omega)
theorem sk_sh : ∀ i, i < 4 → al_sk (63 + 2 * i) = .inl 7 ∧ al_sk (64 + 2 * i) = .inr (1, 40) := by
  intro i hi
  rcases (show i = 0 ∨ i = 1 ∨ i = 2 ∨ i = 3 by omega) with rfl | rfl | rfl | rfl <;> exact ⟨rfl, rfl⟩
theorem z_N : FZ 1 RN ZI ZJ := fun p _ => ⟨fun _ => rfl, fun _ => rfl, fun _ => rfl⟩
theorem z_l : FZ 8 Rl ZI ZJ := ((((((z_N.le (show 1 ≤ 8 by decide)).up (by decide)).up (by decide)).up (by decide)).up (by decide)).up (by decide)).up (by decide)
theorem z_a : FZ 23 Ra ZI ZJ := (R9_z (b := 8) (z_l.le (by decide))).up (by decide)
theorem z_b : FZ 38 Rb ZI ZJ := (R9_z (b := 23) (z_a.le (by decide))).up (by decide)
theorem z_8 : FZ 45 (R8 Rb) ZI ZJ := (((((((z_b.le (show 38 ≤ 45 by decide)).up (by decide)).up (by decide)).up (by decide)).up (by decide)).up (by decide)).up (by decide)).up (by decide)
theorem z_c : FZ 45 Rc ZI ZJ := z_8.up (by decide)
theorem z_t : FZ 61 (R9 46 Rc) ZI ZJ := R9_z (b := 46) (z_c.le (by decide))
theorem z_d : FZ 62 Rd ZI ZJ := ((((z_t.le (show 61 ≤ 62 by decide)).up (by decide)).up (by decide)).up (by decide)).up (by decide)
theorem z_e : FZ 63 Re ZI ZJ := (z_d.up (by decide)).le (by decide)
theorem z_f : FZ 74 Rf ZI ZJ := ((((R7h_z z_e 4).le (show 63 + 2 * 4 ≤ 74 by decide)).up (by decide)).up (by decide)).up (by decide)
set_option maxHeartbeats 4000000 in
theorem mk_11 {Q : QT} (kq : ∀ I' : II, (∀ q, q ≠ 38 → q ≠ 39 → I' q = ZI q) → (∀ j, j < 81 → I' 39 j = -1) → I' 38 7 = -1 → (∀ j, j ≠ 7 → I' 38 j = 0) → Q none 74 Rf I' ZJ) : CT m_X11_init 73 [.ref 0] 1 RN ZI ZJ Q := by
  refine r_X11_init (by decide) (fun F wk b0 b142 b166 => ?_)
  -- the sheets
  have sheets : ∀ I' : II, (∀ q, q ≠ 38 → q ≠ 39 → I' q = ZI q) → (∀ j, j < 81 → I' 39 j = -1) → I' 38 7 = -1 → (∀ j, j ≠ 7 → I' 38 j = 0) → ∀ d i : Nat, i + d = 4 → F 142 [some (.ref 0), some (.ref 1), some (.int (nI i))] [] (63 + 2 * i) (R7h Re i) I' ZJ := by
    intro I' g1 g2 g3 g4 d
    have hI : ∀ p, 45 ≤ p → ∀ q, p ≤ q → I' q = ZI q := fun p hp q hq => g1 q (by omega) (by omega)
    induction d with
    | zero =>
      intro i hi
      obtain rfl : i = 4 := by omega
      refine b142 _ _ _ _ _ _ (br_t (nI_le (by omega) (by omega)) (b166 _ _ _ _ _ _ ?_))
      have z0 : FZ 71 (R7h Re 4) I' ZJ := (R7h_z z_e 4).I (hI 71 (by decide))
      refine And.intro rfl (And.intro (by decide) (And.intro rfl (And.intro (z0 71 (Nat.le_refl _)) ?_)))
      have z1 : FZ 72 (al_up (R7h Re 4) 0 6 (some 71)) I' ZJ := (z0.up (by decide)).le (by decide)
      refine And.intro rfl (And.intro (by decide) (And.intro rfl (And.intro (z1 72 (Nat.le_refl _)) ?_)))
      have z2 : FZ 73 (al_up (al_up (R7h Re 4) 0 6 (some 71)) 0 7 (some 72)) I' ZJ := (z1.up (by decide)).le (by decide)
      refine And.intro rfl (And.intro (by decide) (And.intro rfl (And.intro (z2 73 (Nat.le_refl _)) ?_)))
      exact And.intro rfl (kq I' g1 g2 g3 g4)
    | succ d ih =>
      intro i hi
      obtain ⟨s3, s4⟩ := sk_sh i (by omega)
      have hzi : FZ (63 + 2 * i) (R7h Re i) I' ZJ := (R7h_z z_e i).I (hI _ (by omega))
      refine b142 _ _ _ _ _ _ (br_f (nI_ge (by omega) (by omega)) ?_)
      dsimp only [o_iload, o_lload, o_aload, o_istore, o_astore, o_lstore, o_iinc, o_ic, o_lc, o_sc, o_iadd, o_isub, o_imul, o_iand, o_ior, o_ixor, o_ishl, o_ishr, o_ladd, o_lsub, o_land, o_lor, o_lxor, o_lshl, o_lshr, o_i2l, o_l2i, o_lcmp, o_dup, o_dup2, o_pop, o_getI, o_getJ, o_getR, o_putI, o_putZ, o_putJ, o_iald, o_zald, o_lald, o_aald, o_iast, o_zast, o_last, o_alen, o_cpyI, o_cpyJ, o_iret, o_zret, o_lret, o_aret, o_vret, o_idiv, o_irem, o_ineg, o_ifeq, o_ifne, o_iflt, o_ifge, o_ifgt, o_ifle, o_iceq, o_icne, o_iclt, o_icge, o_icgt, o_icle, al_gL, al_sL, al_sJ, al_gd]
      refine al_isC_in (sk_C rfl (by omega)) (al_rk_in ((R7h_0 i).trans (show Re 0 5 = some 62 from al_up_s)) (And.intro (by omega) (And.intro ⟨s3, hzi _ (Nat.le_refl _)⟩ (And.intro (by omega) ?_))))
      dsimp only [al_pop, al_hd]
      refine al_r8_in (by simp [al_cs]) (mk_7 (by omega) s3 (by omega) (by rw [show 63 + 2 * i + 1 = 64 + 2 * i by omega]; exact s4) (hzi.le (by omega)) ?_)
      have h9 := ih (i + 1) (by omega)
      rw [nI_s i, R7h, show 63 + 2 * (i + 1) = 63 + 2 * i + 1 + 1 by omega, show 64 + 2 * i = 63 + 2 * i + 1 by omega] at h9
      dsimp only [al_pu, o_aast, o_iload, o_lload, o_aload, o_istore, o_astore, o_lstore, o_iinc, o_ic, o_lc, o_sc, o_iadd, o_isub, o_imul, o_iand, o_ior, o_ixor, o_ishl, o_ishr, o_ladd, o_lsub, o_land, o_lor, o_lxor, o_lshl, o_lshr, o_i2l, o_l2i, o_lcmp, o_dup, o_dup2, o_pop, o_getI, o_getJ, o_getR, o_putI, o_putZ, o_putJ, o_iald, o_zald, o_lald, o_aald, o_iast, o_zast, o_last, o_alen, o_cpyI, o_cpyJ, o_iret, o_zret, o_lret, o_aret, o_vret, o_idiv, o_irem, o_ineg, o_ifeq, o_ifne, o_iflt, o_ifge, o_ifgt, o_ifle, o_iceq, o_icne, o_iclt, o_icge, o_icgt, o_icle, al_gL, al_sL, al_sJ, al_gd]
      refine al_isA_in (sk_A rfl (by omega)) (Exists.intro i (And.intro (by omega) (And.intro rfl (al_isC_in (sk_C s3 (by omega)) h9))))
  -- the laws
  refine b0 _ _ _ _ _ _ (And.intro rfl (And.intro (by decide) (And.intro rfl (And.intro (z_N 1 (Nat.le_refl _)) ?_))))
  have y0 : FZ 2 RN ZI ZJ := z_N.le (by decide)
  refine And.intro (by decide) (And.intro ⟨rfl, y0 2 (Nat.le_refl _)⟩ (And.intro (by decide) (mk_3 (by decide) ?_)))
  refine Exists.intro 0 (And.intro (by decide) (And.intro rfl ?_))
  have y1 := (y0.le (show 2 ≤ 3 by decide)).up (p := 1) (j := 0) (v := some 2) (by decide)
  refine And.intro (by decide) (And.intro ⟨rfl, y1 3 (Nat.le_refl _)⟩ (And.intro (by decide) (mk_5 (by decide) ?_)))
  refine Exists.intro 1 (And.intro (by decide) (And.intro rfl ?_))
  have y2 := (y1.le (show 3 ≤ 4 by decide)).up (p := 1) (j := 1) (v := some 3) (by decide)
  refine And.intro (by decide) (And.intro ⟨rfl, y2 4 (Nat.le_refl _)⟩ (And.intro (by decide) (mk_6 (by decide) ?_)))
  refine Exists.intro 2 (And.intro (by decide) (And.intro rfl ?_))
  have y3 := (y2.le (show 4 ≤ 5 by decide)).up (p := 1) (j := 2) (v := some 4) (by decide)
  refine And.intro (by decide) (And.intro ⟨rfl, y3 5 (Nat.le_refl _)⟩ (And.intro (by decide) (mk_0 (by decide) ?_)))
  refine Exists.intro 3 (And.intro (by decide) (And.intro rfl ?_))
  have y4 := (y3.le (show 5 ≤ 6 by decide)).up (p := 1) (j := 3) (v := some 5) (by decide)
  refine And.intro (by decide) (And.intro ⟨rfl, y4 6 (Nat.le_refl _)⟩ (And.intro (by decide) (mk_4 (by decide) ?_)))
  refine Exists.intro 4 (And.intro (by decide) (And.intro rfl ?_))
  have y5 := (y4.le (show 6 ≤ 7 by decide)).up (p := 1) (j := 4) (v := some 6) (by decide)
  refine And.intro (by decide) (And.intro ⟨rfl, y5 7 (Nat.le_refl _)⟩ (And.intro (by decide) (mk_1 (by decide) ?_)))
  refine Exists.intro 5 (And.intro (by decide) (And.intro rfl ?_))
  -- the towns
  refine And.intro (by decide) (And.intro ⟨rfl, z_l 8 (Nat.le_refl _)⟩ (And.intro (by decide) (mk_9 (b := 8) tb8 (z_l.le (by decide)) ?_)))
  refine And.intro (by decide) (And.intro ⟨rfl, z_a 23 (Nat.le_refl _)⟩ (And.intro (by decide) (mk_9 (b := 23) (Or.inr (Or.inl rfl)) (z_a.le (by decide)) ?_)))
  -- the sights
  refine And.intro (by decide) (And.intro ⟨rfl, z_b 38 (Nat.le_refl _)⟩ ?_)
  refine (And.intro (by decide) (mk_8 (z_b.le (by decide)) (fun I' g1 g2 g3 g4 => ?_)))
  have hI : ∀ p, 45 ≤ p → ∀ q, p ≤ q → I' q = ZI q := fun p hp q hq => g1 q (by omega) (by omega)
  -- the text
  refine And.intro (by decide) (And.intro ⟨rfl, (z_c.I (hI 45 (by decide))) 45 (Nat.le_refl _)⟩ ?_)
  refine (And.intro (by decide) (And.intro ⟨rfl, ((z_c.le (show 45 ≤ 46 by decide)).I (hI 46 (by decide))) 46 (Nat.le_refl _)⟩ (And.intro (by decide) (mk_9 (b := 46) (Or.inr (Or.inr rfl)) ((z_c.le (by decide)).I (hI _ (by decide))) (And.intro (by decide) (mk_10 (z_t.I (hI 61 (by decide))) ?_))))))
  refine And.intro rfl (And.intro (by decide) (And.intro rfl (And.intro ((z_d.I (hI 62 (by decide))) 62 (Nat.le_refl _)) ?_)))
  exact sheets I' g1 g2 g3 (fun j hj => g4 j hj) 4 0 rfl
