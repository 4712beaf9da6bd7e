/-! THE REFERENCE: plots -/
theorem nI_and (a b : Nat) : nI a &&& nI b = nI (a &&& b) := by
  apply Int32.toBitVec_inj.mp
  show BitVec.ofNat 32 a &&& BitVec.ofNat 32 b = BitVec.ofNat 32 (a &&& b)
  rw [BitVec.ofNat_and]
theorem nI_or (a b : Nat) : nI a ||| nI b = nI (a ||| b) := by
  apply Int32.toBitVec_inj.mp
  show BitVec.ofNat 32 a ||| BitVec.ofNat 32 b = BitVec.ofNat 32 (a ||| b)
  rw [BitVec.ofNat_or]
theorem and_l : ∀ a, a < 64 → ∀ b, b < 64 → nI (64 * a + b) &&& (-274) = nI ((64 * a + b) &&& 3822) := by decide +kernel
theorem and_r : ∀ a, a < 64 → ∀ b, b < 64 → nI (64 * a + b) &&& (-2185) = nI ((64 * a + b) &&& 1911) := by decide +kernel
theorem low_b : ∀ a, a < 64 → ∀ b, b < 64 → (64 * a + b = 0 ∨ nI (64 * a + b) &&& (-nI (64 * a + b)) = nI (2 ^ (fnx (fun j => (64 * a + b).testBit j) 0 12))) := by decide +kernel
theorem cnt_gr {P P' : Nat → Bool} {b : Nat} (h : ∀ j, P j = true → P' j = true) (hb : P' b = true) (hb2 : P b = false) : ∀ {n : Nat}, cnt P n ≤ cnt P' n ∧ (b < n → cnt P n + 1 ≤ cnt P' n)
  | 0 => ⟨Nat.le_refl 0, fun q => absurd q (by omega)⟩
  | n + 1 => by
    obtain ⟨i1, i2⟩ := cnt_gr h hb hb2 (n := n)
    cases e : P n with
    | true =>
      rw [cnt_yes e, cnt_yes (h n e)]
      refine ⟨by omega, fun q => ?_⟩
      have : b ≠ n := fun w => by rw [w, e] at hb2; exact absurd hb2 (by decide)
      have := i2 (by omega)
      omega
    | false =>
      rw [cnt_no e]
      cases e2 : P' n with
      | true => rw [cnt_yes e2]; exact ⟨by omega, fun q => by omega⟩
      | false =>
        rw [cnt_no e2]
        refine ⟨i1, fun q => i2 ?_⟩
        have : b ≠ n := fun w => by rw [w, e2] at hb; exact absurd hb (by decide)
        omega
theorem pst_lt {s part : Nat} (hs : s < 4096) (hp : part < 4096) : pst s part < 4096 := by
  unfold pst
  exact Nat.or_lt_two_pow (n := 12) hp (Nat.and_lt_two_pow (n := 12) _ hs)
theorem fnx_l {s : Nat} (h0 : 0 < s) (hs : s < 4096) : fnx (fun j => s.testBit j) 0 12 < 12 := by
  rcases Nat.lt_or_ge (fnx (fun j => s.testBit j) 0 12) 12 with g | g
  · exact g
  · have e : s = 0 := by
      apply Nat.eq_of_testBit_eq
      intro i
      rw [Nat.zero_testBit]
      rcases Nat.lt_or_ge i 12 with q | q
      · exact fnx_out (P := fun j => s.testBit j) (s := 0) (d := 12) (Nat.zero_le _) (by omega)
      · exact Nat.testBit_lt_two_pow (Nat.lt_of_lt_of_le hs (Nat.pow_le_pow_right (n := 2) (by omega) q))
    omega
theorem pit_lt {s : Nat} (h0 : 0 < s) (hs : s < 4096) : ∀ k, pit s k < 4096
  | 0 => Nat.pow_lt_pow_right (a := 2) (by omega) (fnx_l h0 hs)
  | k + 1 => pst_lt hs (pit_lt h0 hs k)
theorem pst_mono (s part j : Nat) (h : part.testBit j = true) : (pst s part).testBit j = true := by
  unfold pst
  rw [Nat.testBit_or, h, Bool.true_or]
theorem pit_fix {s j : Nat} (h : pit s (j + 1) = pit s j) : ∀ d, pit s (j + d) = pit s j
  | 0 => rfl
  | d + 1 => by
    have ih := pit_fix h d
    show pst s (pit s (j + d)) = _
    rw [ih]
    exact h
theorem pit_gr {s j : Nat} (h0 : 0 < s) (hs : s < 4096) (hne : ¬ pit s (j + 1) = pit s j) : cnt (fun b => (pit s j).testBit b) 12 + 1 ≤ cnt (fun b => (pit s (j + 1)).testBit b) 12 := by
  have hl := pit_lt h0 hs j
  have hl2 := pit_lt h0 hs (j + 1)
  have ex : ∃ b, b < 12 ∧ ¬ (pit s (j + 1)).testBit b = (pit s j).testBit b := by
    refine Classical.byContradiction (fun hn => hne (Nat.eq_of_testBit_eq (fun i => ?_)))
    rcases Nat.lt_or_ge i 12 with q | q
    · exact Classical.byContradiction (fun w => hn ⟨i, q, w⟩)
    · rw [Nat.testBit_lt_two_pow (Nat.lt_of_lt_of_le hl (Nat.pow_le_pow_right (n := 2) (by omega) q)), Nat.testBit_lt_two_pow (Nat.lt_of_lt_of_le hl2 (Nat.pow_le_pow_right (n := 2) (by omega) q))]
  obtain ⟨b, hb, hx⟩ := ex
  have hm := pst_mono s (pit s j) b
  have e1 : (pit s j).testBit b = false := by
    cases e : (pit s j).testBit b with
    | false => rfl
    | true => exact absurd ((show (pit s (j + 1)).testBit b = true from hm e).trans e.symm) hx
  have e2 : (pit s (j + 1)).testBit b = true := by
    cases e : (pit s (j + 1)).testBit b with
    | true => rfl
    | false => exact absurd (e.trans e1.symm) hx
  exact (cnt_gr (P := fun b => (pit s j).testBit b) (P' := fun b => (pit s (j + 1)).testBit b) (fun j' h => pst_mono s (pit s j) j' h) e2 e1).2 hb
theorem pit_1 {s : Nat} (h0 : 0 < s) (hs : s < 4096) : 1 ≤ cnt (fun b => (pit s 0).testBit b) 12 := by
  have hl := fnx_l h0 hs
  have := (cnt_gr (P := fun _ => false) (P' := fun b => (pit s 0).testBit b) (b := fnx (fun j => s.testBit j) 0 12) (fun j h => absurd h (by decide)) (by show (2 ^ _).testBit _ = true; rw [Nat.testBit_two_pow_self]) rfl (n := 12)).2 hl
  omega
theorem sh_32 : ∀ n, n < 32 → ((nI n &&& 31).toBitVec.smod 32).toNat = n := by decide +kernel
theorem bx (a b : Bool) : nI a.toNat ^^^ nI b.toNat = nI (a ^^ b).toNat := by cases a <;> cases b <;> decide +kernel
theorem gb_lN {s j : Nat} (hj : j < 64) : gb (lN s) j = s.testBit j := by
  show (BitVec.ofNat 64 s).getLsbD j = _
  rw [BitVec.getLsbD_ofNat]
  simp [hj]
theorem bits_s {s : Nat} (h : s < 4096) : cnt (gb ((nI s).toInt64)) 64 = pbit s := by
  rw [nI_l (by omega), cnt_cong (P' := fun j => s.testBit j) (fun j hj => gb_lN hj)]
  unfold pbit
  rw [show (64 : Nat) = 12 + 52 from rfl, cnt_add, cnt_none (P := fun j => s.testBit (12 + j)) (n := 52) (fun j hj => Nat.testBit_lt_two_pow (Nat.lt_of_lt_of_le h (Nat.pow_le_pow_right (n := 2) (by omega) (show 12 ≤ 12 + j by omega)))), Nat.add_zero]
theorem has_bit {s k : Nat} (hs : s < 4096) (hk : k < 12) : (nI s >>> (nI k &&& 31)) &&& nI 1 = nI (s.testBit k).toNat := by
  rw [pk_shrN (by omega) _ k (sh_32 k (by omega)), nI_and, Nat.and_one_is_mod, Nat.testBit_eq_decide_div_mod_eq]
  have := Nat.mod_two_eq_zero_or_one (s / 2 ^ k)
  rcases this with e | e
  · rw [e]; rfl
  · rw [e]; rfl
theorem ma_has {s k : Nat} {R : RR} {I : II} {J : JJ} {Q : QT} (hs : s < 4096) (hk : k < 12) (kq : Q (some (.int (nI (s.testBit k).toNat))) 90 R I J) : CT m_X12_has 0 [.int (nI s), .int (nI k)] 90 R I J Q := by
  refine r_X12_has (by decide) (fun F wk b0 b13 b14 => b0 _ _ _ _ _ _ ?_)
  dsimp only [k_X12_has_0, o_iload, o_lload, o_aload, o_istore, o_astore, o_lstore, o_iinc, o_ic, o_lc, o_sc, o_iadd, o_isub, o_imul, o_iand, o_ior, o_ixor, o_ishl, o_ishr, o_ladd, o_lsub, o_land, o_lor, o_lxor, o_lshl, o_lshr, o_i2l, o_l2i, o_lcmp, o_dup, o_dup2, o_pop, o_getI, o_getJ, o_getR, o_putI, o_putZ, o_putJ, o_iald, o_zald, o_lald, o_aald, o_iast, o_zast, o_last, o_alen, o_cpyI, o_cpyJ, o_iret, o_zret, o_lret, o_aret, o_vret, o_idiv, o_irem, o_ineg, o_ifeq, o_ifne, o_iflt, o_ifge, o_ifgt, o_ifle, o_iceq, o_icne, o_iclt, o_icge, o_icgt, o_icle, al_gL, al_sL, al_sJ, al_gd]
  rw [has_bit hs hk]
  cases e : s.testBit k with
  | false =>
    rw [e] at kq
    exact br_u (by decide +kernel) (b13 _ _ _ _ _ _ (b14 _ _ _ _ _ _ (And.intro (Or.inl nI_0) kq)))
  | true =>
    rw [e] at kq
    exact br_v (by decide +kernel) (b14 _ _ _ _ _ _ (And.intro (Or.inr nI_1') kq))
theorem ma_isOnPlot {s r k : Nat} {row col : Int32} {R : RR} {I : II} {J : JJ} {Q : QT} (hs : s < 4096) (hr : row.toInt = (r : Int) - 1) (hk : col.toInt = (k : Int) - 1) (hr9 : r < 100) (hk9 : k < 100) (kq : Q (some (.int (nI (pon s r k).toNat))) 90 R I J) : CT m_X12_isOnPlot 0 [.int (nI s), .int row, .int col] 90 R I J Q := by
  refine r_X12_isOnPlot (by decide) (fun F wk b0 b34 b35 => ?_)
  have no : pon s r k = false → F 34 [some (.int (nI s)), some (.int row), some (.int col)] [] 90 R I J := fun hn => by
    rw [hn] at kq
    exact b34 _ _ _ _ _ _ (b35 _ _ _ _ _ _ (And.intro (Or.inl nI_0) kq))
  have out : ¬ (1 ≤ r ∧ r ≤ 3 ∧ 1 ≤ k ∧ k ≤ 4) → pon s r k = false := fun h => by
    unfold pon
    rw [decide_eq_false h, Bool.false_and]
  refine b0 _ _ _ _ _ _ ?_
  by_cases h1 : 1 ≤ r ∧ r ≤ 3
  · refine mw_t (by rw [nT (by omega)]; omega) (by rw [nT (by omega)]; omega) (br_f n10 ?_)
    by_cases h2 : 1 ≤ k ∧ k ≤ 4
    · refine mw_t (by rw [nT (by omega)]; omega) (by rw [nT (by omega)]; omega) (br_f n10 ?_)
      have er : row = nI (r - 1) := i_of (by omega) (by omega)
      have ek : col = nI (k - 1) := i_of (by omega) (by omega)
      have ep : pon s r k = s.testBit (4 * (r - 1) + (k - 1)) := by
        unfold pon
        rw [decide_eq_true ⟨h1.1, h1.2, h2⟩, Bool.true_and]
      dsimp only [o_iload, o_lload, o_aload, o_istore, o_astore, o_lstore, o_iinc, o_ic, o_lc, o_sc, o_iadd, o_isub, o_imul, o_iand, o_ior, o_ixor, o_ishl, o_ishr, o_ladd, o_lsub, o_land, o_lor, o_lxor, o_lshl, o_lshr, o_i2l, o_l2i, o_lcmp, o_dup, o_dup2, o_pop, o_getI, o_getJ, o_getR, o_putI, o_putZ, o_putJ, o_iald, o_zald, o_lald, o_aald, o_iast, o_zast, o_last, o_alen, o_cpyI, o_cpyJ, o_iret, o_zret, o_lret, o_aret, o_vret, o_idiv, o_irem, o_ineg, o_ifeq, o_ifne, o_iflt, o_ifge, o_ifgt, o_ifle, o_iceq, o_icne, o_iclt, o_icge, o_icgt, o_icle, al_gL, al_sL, al_sJ, al_gd]
      rw [er, ek, pk_mul, nI_add]
      rw [er, ek] at no
      refine ma_has hs (by omega) (And.intro (fun c => no (ep.trans (bz_f c))) (fun c => ?_))
      rw [ep, bz_t c] at kq
      exact b35 _ _ _ _ _ _ (And.intro (Or.inr nI_1') kq)
    · exact mw_f (by rw [nT (by omega), nT (by omega)]; omega) (br_t nI_0 (no (out (by omega))))
  · exact mw_f (by rw [nT (by omega), nT (by omega)]; omega) (br_t nI_0 (no (out (by omega))))
theorem bq (a b : Bool) : (nI a.toNat = nI b.toNat) ↔ a = b := by cases a <;> cases b <;> decide +kernel
set_option maxHeartbeats 1000000 in
theorem ma_plotCorners {s : Nat} {R : RR} {I : II} {J : JJ} {Q : QT} (hs : s < 4096) (kq : Q (some (.int (nI (pcor s)))) 90 R I J) : CT m_X12_plotCorners 0 [.int (nI s)] 90 R I J Q := by
  refine r_X12_plotCorners (by decide) (fun F wk b0 b4 b103 b107 b108 b116 => ?_)
  have loop : ∀ d p : Nat, p + d = 20 → F 4 [some (.int (nI s)), some (.int (nI (cnt (pcp s) p))), some (.int (nI p)), none, none, none, none, none, none, none] [] 90 R I J := by
    intro d
    induction d with
    | zero =>
      intro p hp
      obtain rfl : p = 20 := by omega
      exact b4 _ _ _ _ _ _ (br_t (nI_le (by omega) (by omega)) (b116 _ _ _ _ _ _ kq))
    | succ d ih =>
      intro p hp
      have h9 := ih (p + 1) (by omega)
      rw [nI_s p] at h9
      refine b4 _ _ _ _ _ _ (br_f (nI_ge (by omega) (by omega)) (And.intro (by decide +kernel) (And.intro (by decide +kernel) ?_)))
      dsimp only [o_iload, o_lload, o_aload, o_istore, o_astore, o_lstore, o_iinc, o_ic, o_lc, o_sc, o_iadd, o_isub, o_imul, o_iand, o_ior, o_ixor, o_ishl, o_ishr, o_ladd, o_lsub, o_land, o_lor, o_lxor, o_lshl, o_lshr, o_i2l, o_l2i, o_lcmp, o_dup, o_dup2, o_pop, o_getI, o_getJ, o_getR, o_putI, o_putZ, o_putJ, o_iald, o_zald, o_lald, o_aald, o_iast, o_zast, o_last, o_alen, o_cpyI, o_cpyJ, o_iret, o_zret, o_lret, o_aret, o_vret, o_idiv, o_irem, o_ineg, o_ifeq, o_ifne, o_iflt, o_ifge, o_ifgt, o_ifle, o_iceq, o_icne, o_iclt, o_icge, o_icgt, o_icle, al_gL, al_sL, al_sJ, al_gd]
      rw [pk_rem (a := p) (d := 5) (by omega) (by decide) (by decide), pk_div (a := p) (d := 5) (by omega) (by decide) (by decide)]
      refine ma_isOnPlot (r := p / 5) (k := p % 5) hs (by rw [i_sub (by omega) (by omega)]; omega) (by rw [i_sub (by omega) (by omega)]; omega) (by omega) (by omega) ?_
      refine ma_isOnPlot (r := p / 5) (k := p % 5 + 1) hs (by rw [i_sub (by omega) (by omega)]; omega) (by rw [nT (by omega)]; omega) (by omega) (by omega) ?_
      refine ma_isOnPlot (r := p / 5 + 1) (k := p % 5) hs (by rw [nT (by omega)]; omega) (by rw [i_sub (by omega) (by omega)]; omega) (by omega) (by omega) ?_
      refine ma_isOnPlot (r := p / 5 + 1) (k := p % 5 + 1) hs (by rw [nT (by omega)]; omega) (by rw [nT (by omega)]; omega) (by omega) (by omega) ?_
      have hpc : pcp s p = ((((pon s (p / 5) (p % 5) ^^ pon s (p / 5) (p % 5 + 1)) ^^ pon s (p / 5 + 1) (p % 5)) ^^ pon s (p / 5 + 1) (p % 5 + 1)) || ((pon s (p / 5) (p % 5) == pon s (p / 5 + 1) (p % 5 + 1)) && (pon s (p / 5) (p % 5 + 1) == pon s (p / 5 + 1) (p % 5)) && (pon s (p / 5) (p % 5) != pon s (p / 5) (p % 5 + 1)))) := rfl
      dsimp only [al_pu, o_iload, o_lload, o_aload, o_istore, o_astore, o_lstore, o_iinc, o_ic, o_lc, o_sc, o_iadd, o_isub, o_imul, o_iand, o_ior, o_ixor, o_ishl, o_ishr, o_ladd, o_lsub, o_land, o_lor, o_lxor, o_lshl, o_lshr, o_i2l, o_l2i, o_lcmp, o_dup, o_dup2, o_pop, o_getI, o_getJ, o_getR, o_putI, o_putZ, o_putJ, o_iald, o_zald, o_lald, o_aald, o_iast, o_zast, o_last, o_alen, o_cpyI, o_cpyJ, o_iret, o_zret, o_lret, o_aret, o_vret, o_idiv, o_irem, o_ineg, o_ifeq, o_ifne, o_iflt, o_ifge, o_ifgt, o_ifle, o_iceq, o_icne, o_iclt, o_icge, o_icgt, o_icle, al_gL, al_sL, al_sJ, al_gd]
      rw [bx, bx, bx]
      generalize pon s (p / 5) (p % 5) = A at *
      generalize pon s (p / 5) (p % 5 + 1) = B at *
      generalize pon s (p / 5 + 1) (p % 5) = D at *
      generalize pon s (p / 5 + 1) (p % 5 + 1) = E at *
      have yes : pcp s p = true → F 103 [some (.int (nI s)), some (.int (nI (cnt (pcp s) p))), some (.int (nI p)), some (.int (nI (p / 5))), some (.int (nI (p % 5))), some (.int (nI A.toNat)), some (.int (nI B.toNat)), some (.int (nI D.toNat)), some (.int (nI E.toNat)), some (.int (nI (((A ^^ B) ^^ D) ^^ E).toNat))] [.int (nI (cnt (pcp s) p))] 90 R I J := fun hy => by
        rw [cnt_yes hy, nI_s (cnt _ p)] at h9
        exact b103 _ _ _ _ _ _ (b108 _ _ _ _ _ _ (wk _ _ _ _ _ _ _ _ (by simp [al_le]) h9))
      have no : pcp s p = false → F 107 [some (.int (nI s)), some (.int (nI (cnt (pcp s) p))), some (.int (nI p)), some (.int (nI (p / 5))), some (.int (nI (p % 5))), some (.int (nI A.toNat)), some (.int (nI B.toNat)), some (.int (nI D.toNat)), some (.int (nI E.toNat)), some (.int (nI (((A ^^ B) ^^ D) ^^ E).toNat))] [.int (nI (cnt (pcp s) p))] 90 R I J := fun hn => by
        rw [cnt_no hn] at h9
        refine b107 _ _ _ _ _ _ (b108 _ _ _ _ _ _ ?_)
        dsimp only [k_X12_plotCorners_108, o_iload, o_lload, o_aload, o_istore, o_astore, o_lstore, o_iinc, o_ic, o_lc, o_sc, o_iadd, o_isub, o_imul, o_iand, o_ior, o_ixor, o_ishl, o_ishr, o_ladd, o_lsub, o_land, o_lor, o_lxor, o_lshl, o_lshr, o_i2l, o_l2i, o_lcmp, o_dup, o_dup2, o_pop, o_getI, o_getJ, o_getR, o_putI, o_putZ, o_putJ, o_iald, o_zald, o_lald, o_aald, o_iast, o_zast, o_last, o_alen, o_cpyI, o_cpyJ, o_iret, o_zret, o_lret, o_aret, o_vret, o_idiv, o_irem, o_ineg, o_ifeq, o_ifne, o_iflt, o_ifge, o_ifgt, o_ifle, o_iceq, o_icne, o_iclt, o_icge, o_icgt, o_icle, al_gL, al_sL, al_sJ, al_gd]
        rw [nI_add, Nat.add_zero]
        exact wk _ _ _ _ _ _ _ _ (by simp [al_le]) h9
      refine And.intro (fun c => yes ?_) (fun c => And.intro (fun c2 => no ?_) (fun c2 => And.intro (fun c3 => no ?_) (fun c3 => And.intro (fun c4 => no ?_) (fun c4 => yes ?_))))
      · rw [hpc, bz_t c, Bool.true_or]
      · rw [bq] at c2
        rw [hpc, bz_f c]
        simp [c2]
      · rw [bq] at c3
        rw [hpc, bz_f c]
        simp [c3]
      · rw [bq] at c4
        rw [hpc, bz_f c]
        simp [c4]
      · rw [bq] at c2 c3 c4
        rw [c2, c3] at c4
        rw [hpc, c2, c3]
        clear hpc yes no c c2 c3
        cases E <;> cases D <;> first | rfl | exact absurd rfl c4
  exact b0 _ _ _ _ _ _ (loop 20 0 rfl)
theorem pst_I {s part : Nat} (hs : s < 4096) (hp : part < 4096) : nI part ||| ((((nI part &&& (-274)) >>> (nI 1 &&& 31) ||| (nI part &&& (-2185)) <<< (nI 1 &&& 31)) ||| nI part >>> (nI 4 &&& 31)) ||| nI part <<< (nI 4 &&& 31)) &&& nI s = nI (pst s part) := by
  have h1 := and_l (part / 64) (by omega) (part % 64) (by omega)
  have h2 := and_r (part / 64) (by omega) (part % 64) (by omega)
  rw [show 64 * (part / 64) + part % 64 = part by omega] at h1 h2
  have l1 : part &&& 3822 < 4096 := Nat.and_lt_two_pow (n := 12) _ (by decide)
  have l2 : part &&& 1911 < 4096 := Nat.and_lt_two_pow (n := 12) _ (by decide)
  rw [h1, h2, pk_shrN (by omega) _ 1 (sh_32 1 (by decide)), pk_shlN _ 1 (sh_32 1 (by decide)) (by omega), pk_shrN (by omega) _ 4 (sh_32 4 (by decide)), pk_shlN _ 4 (sh_32 4 (by decide)) (by omega), nI_or, nI_or, nI_or, nI_and, nI_or]
  unfold pst
  rw [Nat.shiftRight_eq_div_pow, Nat.shiftLeft_eq, Nat.shiftRight_eq_div_pow, Nat.shiftLeft_eq]
theorem ma_hangs {s : Nat} {R : RR} {I : II} {J : JJ} {Q : QT} (h0 : 0 < s) (hs : s < 4096) (kq : Q (some (.int (nI (phg s).toNat))) 90 R I J) : CT m_X12_hangsTogether 0 [.int (nI s)] 90 R I J Q := by
  refine r_X12_hangsTogether (by decide) (fun F wk b0 b7 b51 b60 b61 => ?_)
  have ex : ∀ j, j ≤ 12 → pit s (j + 1) = pit s j → F 51 [some (.int (nI s)), some (.int (nI (pit s j))), none, none, none] [] 90 R I J := fun j hj hf => by
    have hl := pit_lt h0 hs j
    have e12 : pit s 12 = pit s j := by
      have := pit_fix hf (12 - j)
      rw [show j + (12 - j) = 12 by omega] at this
      exact this
    have ep : phg s = decide (pit s j = s) := by unfold phg; rw [e12]
    rw [ep] at kq
    refine b51 _ _ _ _ _ _ (And.intro (fun c => b60 _ _ _ _ _ _ (b61 _ _ _ _ _ _ (And.intro (Or.inl nI_0) ?_))) (fun c => b61 _ _ _ _ _ _ (And.intro (Or.inr nI_1') ?_)))
    · rw [nI_eq (by omega) (by omega)] at c
      rw [decide_eq_false c] at kq
      exact kq
    · rw [nI_eq (by omega) (by omega)] at c
      rw [decide_eq_true c] at kq
      exact kq
  have loop : ∀ d j was : Nat, j + d = 12 → was < 4096 → j + 1 ≤ cnt (fun b => (pit s j).testBit b) 12 → ¬ pit s j = was → F 7 [some (.int (nI s)), some (.int (nI (pit s j))), some (.int (nI was)), none, none] [] 90 R I J := by
    intro d
    induction d with
    | zero =>
      intro j was hj hw hc hne
      have := cnt_le (fun b => (pit s j).testBit b) 12
      omega
    | succ d ih =>
      intro j was hj hw hc hne
      have hl := pit_lt h0 hs j
      refine b7 _ _ _ _ _ _ (br_f (by rw [nI_eq (by omega) (by omega)]; exact hne) ?_)
      dsimp only [o_iload, o_lload, o_aload, o_istore, o_astore, o_lstore, o_iinc, o_ic, o_lc, o_sc, o_iadd, o_isub, o_imul, o_iand, o_ior, o_ixor, o_ishl, o_ishr, o_ladd, o_lsub, o_land, o_lor, o_lxor, o_lshl, o_lshr, o_i2l, o_l2i, o_lcmp, o_dup, o_dup2, o_pop, o_getI, o_getJ, o_getR, o_putI, o_putZ, o_putJ, o_iald, o_zald, o_lald, o_aald, o_iast, o_zast, o_last, o_alen, o_cpyI, o_cpyJ, o_iret, o_zret, o_lret, o_aret, o_vret, o_idiv, o_irem, o_ineg, o_ifeq, o_ifne, o_iflt, o_ifge, o_ifgt, o_ifle, o_iceq, o_icne, o_iclt, o_icge, o_icgt, o_icle, al_gL, al_sL, al_sJ, al_gd]
      rw [pst_I hs hl]
      by_cases e : pit s (j + 1) = pit s j
      · rw [show pst s (pit s j) = pit s j from e]
        exact b7 _ _ _ _ _ _ (br_t rfl (wk _ _ _ _ _ _ _ _ (by simp [al_le]) (ex j (by omega) e)))
      · exact wk _ _ _ _ _ _ _ _ (by simp [al_le]; rfl) (ih (j + 1) (pit s j) (by omega) hl (by have := pit_gr h0 hs e; omega) e)
  have hp0 := pit_lt h0 hs 0
  have h9 := loop 12 0 0 rfl (by omega) (pit_1 h0 hs) (fun e => by
    have : 0 < pit s 0 := Nat.pow_pos (n := fnx (fun j => s.testBit j) 0 12) (show 0 < 2 by decide)
    omega)
  have hlow := low_b (s / 64) (by omega) (s % 64) (by omega)
  rw [show 64 * (s / 64) + s % 64 = s by omega] at hlow
  rcases hlow with e | e
  · omega
  · refine b0 _ _ _ _ _ _ ?_
    dsimp only [k_X12_hangsTogether_0, o_iload, o_lload, o_aload, o_istore, o_astore, o_lstore, o_iinc, o_ic, o_lc, o_sc, o_iadd, o_isub, o_imul, o_iand, o_ior, o_ixor, o_ishl, o_ishr, o_ladd, o_lsub, o_land, o_lor, o_lxor, o_lshl, o_lshr, o_i2l, o_l2i, o_lcmp, o_dup, o_dup2, o_pop, o_getI, o_getJ, o_getR, o_putI, o_putZ, o_putJ, o_iald, o_zald, o_lald, o_aald, o_iast, o_zast, o_last, o_alen, o_cpyI, o_cpyJ, o_iret, o_zret, o_lret, o_aret, o_vret, o_idiv, o_irem, o_ineg, o_ifeq, o_ifne, o_iflt, o_ifge, o_ifgt, o_ifle, o_iceq, o_icne, o_iclt, o_icge, o_icgt, o_icle, al_gL, al_sL, al_sJ, al_gd]
    rw [e]
    exact h9
theorem plF_mono (n : Nat) {s : Nat} : ∀ d, (plF n (s + d)).1 ≤ (plF n s).1
  | 0 => Nat.le_refl _
  | d + 1 => by
    have ih := plF_mono n (s := s) d
    rw [show s + (d + 1) = (s + d) + 1 from rfl, plF]
    split
    · rename_i h
      show pcor (s + d) ≤ _
      omega
    · exact ih
theorem plF_has : ∀ m, m < 13 → 1 ≤ m → pbit (2 ^ m - 1) = m ∧ phg (2 ^ m - 1) = true := by decide +kernel
theorem plF_20 {m : Nat} (h1 : 1 ≤ m) (h2 : m ≤ 12) : (plF m 4096).1 ≤ 20 := by
  obtain ⟨e1, e2⟩ := plF_has m (by omega) h1
  have hm : 2 ^ m ≤ 2 ^ 12 := Nat.pow_le_pow_right (by decide) h2
  have h0 : 0 < 2 ^ m := Nat.pow_pos (by decide)
  have hc := pcor_le (2 ^ m - 1)
  have h3 : (plF m (2 ^ m - 1 + 1)).1 ≤ 20 := by
    rw [plF]
    split
    · exact hc
    · rename_i h
      rcases Nat.lt_or_ge (pcor (2 ^ m - 1)) (plF m (2 ^ m - 1)).1 with g | g
      · exact absurd ⟨e1, e2, g⟩ h
      · omega
  have h4 := plF_mono m (s := 2 ^ m - 1 + 1) (4096 - (2 ^ m - 1 + 1))
  rw [show 2 ^ m - 1 + 1 + (4096 - (2 ^ m - 1 + 1)) = 4096 by omega] at h4
  omega
def plv (m s : Nat) : Int32 := if (plF m s).1 = 81 then -1 else nI (plF m s).1
theorem M_plot1 {a b : Int32} {m w : Nat} {S : SG} {I : II} {J : JJ} {Q : QT} (hM : MI S I J) (m1 : 1 ≤ m) (m2 : m ≤ 12) (hw : w < 2) (ea : a = nI m) (eb : b = nI w) (kq : PM I J Q S (.int (if w = 0 then nI (plC m) else nI (plS m)))) : CT m_X12_plot 0 [.ref 74, .int a, .int b] 90 al_R0 I J Q := by
  subst ea eb
  refine r_X12_plot (by decide) (fun F wk b0 b19 b26 b36 b79 b88 b94 b102 b106 => b0 _ _ _ _ _ _ (mi_t (by decide) m1 m2 (br_f n10 (mi_t (by decide) (by omega) (by omega) (br_u n10 (b26 _ _ _ _ _ _ ?_))))))
  have mk : ∀ I' : II, (∀ p, p ≠ 74 → I' p = I p) → (∀ j, j ≠ 6 → I' 74 j = I 74 j) → MI S I' J ∧ k74 I J I' J := fun I' g1 g2 => by
    obtain ⟨h1, h2, h3, h4, h5, h6⟩ := hM
    exact ⟨⟨h1.keep (g1 75 (by decide)), h2.keep (g2 5 (by decide)) rfl, h3.keep (g2 2 (by decide)) (g1 76 (by decide)), h4.keep (g2 10 (by decide)) (g1 81 (by decide)), h5.keep (g1 86 (by decide)) (g1 87 (by decide)) rfl, h6.keep (g1 77 (by decide))⟩, fun p hp => ⟨g1 p (by omega), rfl⟩⟩
  have loop : ∀ (d i : Nat) (I' : II), i + d = 4096 → 1 ≤ i → (∀ p, p ≠ 74 → I' p = I p) → (∀ j, j ≠ 6 → I' 74 j = I 74 j) → I' 74 6 = nI (plF m i).2 → F 36 [some (.ref 74), some (.int (nI m)), some (.int (nI w)), some (.int (plv m i)), some (.int (nI i)), none] [] 90 al_R0 I' J := by
    intro d
    induction d with
    | zero =>
      intro i I' hi _ g1 g2 g3
      obtain rfl : i = 4096 := by omega
      obtain ⟨k1, k2⟩ := mk I' g1 g2
      have h9 := kq I' J k1 k2
      have h20 := plF_20 m1 m2
      refine b36 _ _ _ _ _ _ (br_t (nI_le (by omega) (by omega)) (b94 _ _ _ _ _ _ (And.intro (fun c => b102 _ _ _ _ _ _ ?_) (fun c => ?_))))
      · rw [← nI_0, nI_eq (by omega) (by omega)] at c
        rw [if_neg c] at h9
        unfold plS at h9
        rw [← g3] at h9
        exact b106 _ _ _ _ _ _ h9
      · rw [← nI_0, nI_eq (by omega) (by omega)] at c
        rw [if_pos c, show nI (plC m) = plv m 4096 from (if_neg (by omega)).symm] at h9
        exact b106 _ _ _ _ _ _ h9
    | succ d ih =>
      intro i I' hi h1i g1 g2 g3
      have hb := pbit_le i
      have hc := pcor_le i
      have hl := plF_le m i
      have no : ∀ I2 : II, I2 = I' → ¬ (pbit i = m ∧ phg i = true ∧ pcor i < (plF m i).1) → F 88 [some (.ref 74), some (.int (nI m)), some (.int (nI w)), some (.int (plv m i)), some (.int (nI i)), none] [] 90 al_R0 I2 J := fun I2 e2 hno => by
        subst e2
        have ep : plF m (i + 1) = plF m i := by rw [plF, if_neg hno]
        have h9 := ih (i + 1) I2 (by omega) (by omega) g1 g2 (by rw [ep]; exact g3)
        unfold plv at h9
        rw [ep, nI_s i] at h9
        exact b88 _ _ _ _ _ _ h9
      refine b36 _ _ _ _ _ _ (br_f (nI_ge (by omega) (by omega)) (ma_bits ?_))
      rw [bits_s (by omega)]
      refine And.intro (fun c => ?_) (fun c => ma_hangs (by omega) (by omega) (And.intro (fun c2 => ?_) (fun c2 => ma_plotCorners (by omega) ?_)))
      · rw [nI_eq (by omega) (by omega)] at c
        exact no _ rfl (fun q => c q.1)
      · exact no _ rfl (fun q => by rw [bz_f c2] at q; exact absurd q.2.1 (by decide))
      · rw [nI_eq (by omega) (by omega)] at c
        have c2 := bz_t c2
        have yes : pcor i < (plF m i).1 → F 79 [some (.ref 74), some (.int (nI m)), some (.int (nI w)), some (.int (plv m i)), some (.int (nI i)), some (.int (nI (pcor i)))] [] 90 al_R0 I' J := fun hy => by
          have ep : plF m (i + 1) = (pcor i, i) := by rw [plF, if_pos ⟨c, c2, hy⟩]
          have ev : plv m (i + 1) = nI (pcor i) := by
            unfold plv
            rw [ep]
            exact if_neg (show ¬ pcor i = 81 by omega)
          have h9 := ih (i + 1) (al_up I' 74 6 (nI i)) (by omega) (by omega) (fun p hp => by rw [al_up_row hp]; exact g1 p hp) (fun j hj => by rw [al_up_j hj]; exact g2 j hj) (by rw [al_up_s, ep])
          rw [ev, nI_s i] at h9
          exact b79 _ _ _ _ _ _ (b88 _ _ _ _ _ _ (wk _ _ _ _ _ _ _ _ (by simp [al_le]) h9))
        refine And.intro (fun c3 => yes ?_) (fun c3 => And.intro (fun c4 => ?_) (fun c4 => yes ?_))
        · unfold plv at c3
          by_cases e : (plF m i).1 = 81
          · omega
          · rw [if_neg e] at c3
            exact absurd c3 (nI_pos (by omega))
        · have e : ¬ (plF m i).1 = 81 := fun e => by
            unfold plv at c3
            rw [if_pos e] at c3
            exact c3 m1_lt
          unfold plv at c4
          rw [if_neg e, nI_leI (by omega) (by omega)] at c4
          exact wk _ _ _ _ _ _ _ _ (by simp [al_le]) (no _ rfl (fun q => by omega))
        · have e : ¬ (plF m i).1 = 81 := fun e => by
            unfold plv at c3
            rw [if_pos e] at c3
            exact c3 m1_lt
          unfold plv at c4
          rw [if_neg e, nI_leI (by omega) (by omega)] at c4
          omega
  have h9 := loop 4095 1 (al_up I 74 6 (nI 0)) rfl (Nat.le_refl 1) (fun p hp => al_up_row hp) (fun j hj => al_up_j hj) (by rw [al_up_s, plF_1 m1])
  rw [show plv m 1 = -1 by unfold plv; rw [plF_1 m1]; rfl] at h9
  exact h9
theorem M_plot2 {a b : Int32} {S : SG} {I : II} {J : JJ} {Q : QT} (hM : MI S I J) (hg : (∀ m, 1 ≤ m → m ≤ 12 → ¬ a = nI m) ∨ ing 2 b) (kq : PM I J Q (fnd 0 S) (.int (-1000000001))) : CT m_X12_plot 0 [.ref 74, .int a, .int b] 90 al_R0 I J Q := by
  refine r_X12_plot (by decide) (fun F wk b0 b19 b26 b36 b79 b88 b94 b102 b106 => b0 _ _ _ _ _ _ ?_)
  have h19 : F 19 [some (.ref 74), some (.int a), some (.int b), none, none, none] [] 90 al_R0 I J := b19 _ _ _ _ _ _ (ma_finding hM (k := 0) (by decide) (by decide +kernel) kq)
  by_cases e : ∃ m, 1 ≤ m ∧ m ≤ 12 ∧ a = nI m
  · obtain ⟨m, m1, m2, rfl⟩ := e
    rcases hg with g | g
    · exact absurd rfl (g m m1 m2)
    · exact mi_t (by decide) m1 m2 (br_f n10 (mi_f (by decide) (by decide) (fun r _ h => g r (by omega)) (br_v nI_0 h19)))
  · exact mi_f (by decide) (by decide) (fun m m1 m2 h => e ⟨m, m1, m2, h⟩) (br_t nI_0 h19)
