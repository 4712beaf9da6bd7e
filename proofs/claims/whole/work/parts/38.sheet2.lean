/-! SHEETS: write, copy, lays, read -/
def shw (B : SH) (s i : Nat) (v : Int64) : SH := (B.1, B.2.1, al_up B.2.2 s i v)
def szN (B : SH) (s : Nat) : Nat := (B.2.1 s).toNatClampNeg
theorem VB.sz {B : SH} (h : VB B) {s : Nat} (hs : s < 4) : szN B s ≤ 40 ∧ B.2.1 s = nI (szN B s) := by
  obtain ⟨⟨z, h1, h2⟩, -⟩ := h s hs
  unfold szN
  rw [h2, nI_clamp (by omega)]
  exact ⟨h1, rfl⟩
theorem X_write {a b : Int32} {v : Int64} {S : SG} {I : II} {J : JJ} {Q : QT} (hC : CI S I J) (hV : VS S) (k1 : ∀ s i, s < 4 → i < szN S.2.2.2.2.1 s → a = nI s → b = nI i → ¬ S.2.2.2.2.1.1 s = nI 0 → PX I J Q (sB S (shw S.2.2.2.2.1 s i (fit (S.2.2.2.2.1.1 s) v))) (.long (S.2.2.2.2.1.2.2 s i))) (k2 : (ing 4 a ∨ ∃ s, s < 4 ∧ a = nI s ∧ ¬ S.2.2.2.2.1.1 s = nI 0 ∧ ing (szN S.2.2.2.2.1 s) b) → PX I J Q (fnd 0 S) (.long (Int32.toInt64 (-1000000001)))) (k3 : ∀ s, s < 4 → a = nI s → S.2.2.2.2.1.1 s = nI 0 → PX I J Q (fnd 5 S) (.long (Int32.toInt64 (-1000000006)))) : CT m_X11_write 0 [.ref 0, .int a, .int b, .long v] 90 al_R0 I J Q := by
  have hB := hC.2.2.2.2.2.2.1
  have hVB := hV.2.2.2
  refine r_X11_write (by decide) (fun F wk b0 b15 b39 b52 b60 => ?_)
  refine b0 _ _ _ _ _ _ (cx_isSheet (fun s hs e => br_u (by decide +kernel) (b15 _ _ _ _ _ _ ?_)) (fun hn => br_v nI_0 (cx_finding hC (k := 0) (by decide) (by decide +kernel) (k2 (Or.inl hn)))))
  obtain ⟨z1, z2⟩ := hVB.sz hs
  refine Exists.intro s (And.intro hs (And.intro e (al_rk_in (sc_R s hs) ?_)))
  dsimp only [o_iload, o_lload, o_aload, o_istore, o_astore, o_lstore, o_iinc, o_ic, o_lc, o_sc, o_iadd, o_isub, o_imul, o_iand, o_ior, o_ixor, o_ishl, o_ishr, o_ladd, o_lsub, o_land, o_lor, o_lxor, o_lshl, o_lshr, o_i2l, o_l2i, o_lcmp, o_dup, o_dup2, o_pop, o_getI, o_getJ, o_getR, o_putI, o_putZ, o_putJ, o_iald, o_zald, o_lald, o_aald, o_iast, o_zast, o_last, o_alen, o_cpyI, o_cpyJ, o_iret, o_zret, o_lret, o_aret, o_vret, o_idiv, o_irem, o_ineg, o_ifeq, o_ifne, o_iflt, o_ifge, o_ifgt, o_ifle, o_iceq, o_icne, o_iclt, o_icge, o_icgt, o_icle, al_gL, al_sL, al_sJ, al_gd, o_cV, al_pop, al_hd]
  refine al_isC_in (sc_C s hs) (al_r8_in (by decide) (ca_isMissing hB hs (And.intro (fun c => ?_) (fun c => ?_))))
  · have hb0 : ¬ S.2.2.2.2.1.1 s = nI 0 := by simpa using bz_f c
    have h52 : ing (szN S.2.2.2.2.1 s) b → F 52 [some (.ref 0), some (.int a), some (.int b), some (.long v), none, some (.ref (63 + 2 * s)), none, none] [] 90 al_R0 I J := fun q => b52 _ _ _ _ _ _ (cx_finding hC (k := 0) (by decide) (by decide +kernel) (k2 (Or.inr ⟨s, hs, e, hb0, q⟩)))
    refine b39 _ _ _ _ _ _ (And.intro (fun c2 => ?_) (fun c2 => ?_))
    · refine h52 (fun q hq e2 => ?_)
      rw [e2] at c2
      exact nI_pos (by omega) c2
    · dsimp only [o_iload, o_lload, o_aload, o_istore, o_astore, o_lstore, o_iinc, o_ic, o_lc, o_sc, o_iadd, o_isub, o_imul, o_iand, o_ior, o_ixor, o_ishl, o_ishr, o_ladd, o_lsub, o_land, o_lor, o_lxor, o_lshl, o_lshr, o_i2l, o_l2i, o_lcmp, o_dup, o_dup2, o_pop, o_getI, o_getJ, o_getR, o_putI, o_putZ, o_putJ, o_iald, o_zald, o_lald, o_aald, o_iast, o_zast, o_last, o_alen, o_cpyI, o_cpyJ, o_iret, o_zret, o_lret, o_aret, o_vret, o_idiv, o_irem, o_ineg, o_ifeq, o_ifne, o_iflt, o_ifge, o_ifgt, o_ifle, o_iceq, o_icne, o_iclt, o_icge, o_icgt, o_icle, al_gL, al_sL, al_sJ, al_gd]
      refine al_isC_in (sc_C s hs) ?_
      rw [(hB s hs).2.1, z2]
      refine And.intro (fun c3 => ?_) (fun c3 => ?_)
      · rw [i0_lt] at c2
        rw [ix_lt (by omega)] at c3
        have e2 : b = nI b.toInt.toNat := i_of (by omega) (by omega)
        have hi : b.toInt.toNat < szN S.2.2.2.2.1 s := by omega
        generalize b.toInt.toNat = i at e2 hi
        have p1 := k1 s i hs hi e e2 hb0
        refine b60 _ _ _ _ _ _ ?_
        dsimp only [k_X11_write_60, o_iload, o_lload, o_aload, o_istore, o_astore, o_lstore, o_iinc, o_ic, o_lc, o_sc, o_iadd, o_isub, o_imul, o_iand, o_ior, o_ixor, o_ishl, o_ishr, o_ladd, o_lsub, o_land, o_lor, o_lxor, o_lshl, o_lshr, o_i2l, o_l2i, o_lcmp, o_dup, o_dup2, o_pop, o_getI, o_getJ, o_getR, o_putI, o_putZ, o_putJ, o_iald, o_zald, o_lald, o_aald, o_iast, o_zast, o_last, o_alen, o_cpyI, o_cpyJ, o_iret, o_zret, o_lret, o_aret, o_vret, o_idiv, o_irem, o_ineg, o_ifeq, o_ifne, o_iflt, o_ifge, o_ifgt, o_ifle, o_iceq, o_icne, o_iclt, o_icge, o_icgt, o_icle, al_gL, al_sL, al_sJ, al_gd, o_cV, al_pop, al_hd]
        refine al_isC_in (sc_C s hs) (al_rk_in (sc_N s hs) (al_isA_in (sc_A s hs) (Exists.intro i (And.intro (by omega) (And.intro e2 (al_isC_in (sc_C s hs) (al_rk_in (sc_N s hs) (al_isC_in (sc_C s hs) (al_r8_in (Nat.le_of_ble_eq_true rfl) (ca_fitted hB hs ?_))))))))))
        dsimp only [al_pu, o_iload, o_lload, o_aload, o_istore, o_astore, o_lstore, o_iinc, o_ic, o_lc, o_sc, o_iadd, o_isub, o_imul, o_iand, o_ior, o_ixor, o_ishl, o_ishr, o_ladd, o_lsub, o_land, o_lor, o_lxor, o_lshl, o_lshr, o_i2l, o_l2i, o_lcmp, o_dup, o_dup2, o_pop, o_getI, o_getJ, o_getR, o_putI, o_putZ, o_putJ, o_iald, o_zald, o_lald, o_aald, o_iast, o_zast, o_last, o_alen, o_cpyI, o_cpyJ, o_iret, o_zret, o_lret, o_aret, o_vret, o_idiv, o_irem, o_ineg, o_ifeq, o_ifne, o_iflt, o_ifge, o_ifgt, o_ifle, o_iceq, o_icne, o_iclt, o_icge, o_icgt, o_icle, al_gL, al_sL, al_sJ, al_gd]
        refine al_isA_in (sc_A s hs) (Exists.intro i (And.intro (by omega) (And.intro e2 ?_)))
        rw [(hB s hs).2.2 i (by omega)]
        refine p1 _ _ (CI.sheet hC (fun t ht => ?_) (fun p hp => ⟨rfl, al_up_row (by omega)⟩)) (fun p hp => ⟨rfl, al_up_row (by omega)⟩)
        obtain ⟨q1, q2, q3⟩ := hB t ht
        refine ⟨q1, q2, fun k hk => ?_⟩
        show _ = al_up S.2.2.2.2.1.2.2 s i (fit (S.2.2.2.2.1.1 s) v) t k
        by_cases e3 : t = s
        · subst e3
          by_cases e4 : k = i
          · subst e4; rw [al_up_s, al_up_s]
          · rw [al_up_j e4, al_up_j e4]; exact q3 k hk
        · rw [al_up_p (by omega), al_up_p e3]; exact q3 k hk
      · refine h52 (fun q hq e2 => ?_)
        rw [e2] at c3
        exact c3 (nI_lt hq (by omega))
  · exact cx_finding hC (k := 5) (by decide) (by decide +kernel) (k3 s hs e (by simpa using bz_t c))
theorem ca_hasRange {s z : Nat} {f n : Int32} {B : SH} {I : II} {J : JJ} {Q : QT} (hB : sht I J B) (hs : s < 4) (hz : z ≤ 40) (hz2 : B.2.1 s = nI z) (k1 : ∀ f' n' : Nat, f = nI f' → n = nI n' → f' + n' ≤ z → Q (some (.int (nI 1))) 90 al_R0 I J) (k2 : ¬ (0 ≤ f.toInt ∧ 0 ≤ n.toInt ∧ f.toInt + n.toInt ≤ z) → Q (some (.int (nI 0))) 90 al_R0 I J) : CT m_X7_hasRange 0 [.ref (63 + 2 * s), .int f, .int n] 90 al_R0 I J Q := by
  refine r_X7_hasRange (by decide) (fun F wk b0 b30 b31 => ?_)
  have h30 : ¬ (0 ≤ f.toInt ∧ 0 ≤ n.toInt ∧ f.toInt + n.toInt ≤ z) → F 30 [some (.ref (63 + 2 * s)), some (.int f), some (.int n)] [] 90 al_R0 I J := fun q => b30 _ _ _ _ _ _ (b31 _ _ _ _ _ _ (And.intro (Or.inl nI_0) (k2 q)))
  refine b0 _ _ _ _ _ _ (And.intro (fun c => h30 (by rw [i0_lt] at c; omega)) (fun c => And.intro (fun c2 => h30 (by rw [i0_lt] at c2; omega)) (fun c2 => ?_)))
  dsimp only [o_iload, o_lload, o_aload, o_istore, o_astore, o_lstore, o_iinc, o_ic, o_lc, o_sc, o_iadd, o_isub, o_imul, o_iand, o_ior, o_ixor, o_ishl, o_ishr, o_ladd, o_lsub, o_land, o_lor, o_lxor, o_lshl, o_lshr, o_i2l, o_l2i, o_lcmp, o_dup, o_dup2, o_pop, o_getI, o_getJ, o_getR, o_putI, o_putZ, o_putJ, o_iald, o_zald, o_lald, o_aald, o_iast, o_zast, o_last, o_alen, o_cpyI, o_cpyJ, o_iret, o_zret, o_lret, o_aret, o_vret, o_idiv, o_irem, o_ineg, o_ifeq, o_ifne, o_iflt, o_ifge, o_ifgt, o_ifle, o_iceq, o_icne, o_iclt, o_icge, o_icgt, o_icle, al_gL, al_sL, al_sJ, al_gd]
  refine al_isC_in (sc_C s hs) ?_
  rw [(hB s hs).2.1, hz2]
  rw [i0_lt] at c c2
  refine And.intro (fun c3 => h30 (by rw [in_lt (by omega)] at c3; omega)) (fun c3 => al_isC_in (sc_C s hs) ?_)
  rw [in_lt (by omega)] at c3
  have e2 : n = nI n.toInt.toNat := i_of (by omega) (by omega)
  have hi : n.toInt = (n.toInt.toNat : Int) := by omega
  generalize n.toInt.toNat = m at e2 hi
  have hs2 : (nI z - n).toInt = (z : Int) - m := by rw [e2]; exact i_sub (by omega) (by omega)
  refine And.intro (fun c4 => h30 (by rw [Int32.lt_iff_toInt_lt, hs2] at c4; omega)) (fun c4 => b31 _ _ _ _ _ _ (And.intro (Or.inr nI_1') ?_))
  rw [Int32.lt_iff_toInt_lt, hs2] at c4
  exact k1 f.toInt.toNat m (i_of (by omega) (by omega)) e2 (by omega)
theorem X_copy {a f b g n : Int32} {S : SG} {I : II} {J : JJ} {Q : QT} (hC : CI S I J) (hV : VS S) (k1 : ∀ s t f' g' n', s < 4 → t < 4 → a = nI s → b = nI t → ¬ S.2.2.2.2.1.1 s = nI 0 → ¬ S.2.2.2.2.1.1 t = nI 0 → S.2.2.2.2.1.1 s = S.2.2.2.2.1.1 t → f = nI f' → g = nI g' → n = nI n' → f' + n' ≤ szN S.2.2.2.2.1 s → g' + n' ≤ szN S.2.2.2.2.1 t → PX I J Q (sB S (S.2.2.2.2.1.1, S.2.2.2.2.1.2.1, al_cpy S.2.2.2.2.1.2.2 s t f' g' n')) (.int n)) (k2 : (ing 4 a ∨ ing 4 b) → PX I J Q (fnd 0 S) (.int (-1000000001))) (k3 : ∀ s t, s < 4 → t < 4 → a = nI s → b = nI t → (S.2.2.2.2.1.1 s = nI 0 ∨ S.2.2.2.2.1.1 t = nI 0) → PX I J Q (fnd 5 S) (.int (-1000000006))) (k4 : ∀ s t, s < 4 → t < 4 → a = nI s → b = nI t → ¬ S.2.2.2.2.1.1 s = nI 0 → ¬ S.2.2.2.2.1.1 t = nI 0 → ¬ S.2.2.2.2.1.1 s = S.2.2.2.2.1.1 t → PX I J Q (fnd 2 S) (.int (-1000000003))) (k5 : ∀ s t, s < 4 → t < 4 → a = nI s → b = nI t → ¬ S.2.2.2.2.1.1 s = nI 0 → ¬ S.2.2.2.2.1.1 t = nI 0 → S.2.2.2.2.1.1 s = S.2.2.2.2.1.1 t → ¬ (0 ≤ f.toInt ∧ 0 ≤ n.toInt ∧ 0 ≤ g.toInt ∧ f.toInt + n.toInt ≤ szN S.2.2.2.2.1 s ∧ g.toInt + n.toInt ≤ szN S.2.2.2.2.1 t) → PX I J Q (fnd 0 S) (.int (-1000000001))) : CT m_X11_copy 0 [.ref 0, .int a, .int f, .int b, .int g, .int n] 90 al_R0 I J Q := by
  have hB := hC.2.2.2.2.2.2.1
  have hVB := hV.2.2.2
  refine r_X11_copy (by decide) rfl (fun F wk b0 b14 b21 b53 b60 b80 b103 b110 => ?_)
  have h14 : (ing 4 a ∨ ing 4 b) → F 14 [some (.ref 0), some (.int a), some (.int f), some (.int b), some (.int g), some (.int n), none, none] [] 90 al_R0 I J := fun q => b14 _ _ _ _ _ _ (cx_finding hC (k := 0) (by decide) (by decide +kernel) (k2 q))
  refine b0 _ _ _ _ _ _ (cx_isSheet (fun s hs e => br_f (by decide +kernel) (cx_isSheet (fun t ht e2 => br_u (by decide +kernel) (b21 _ _ _ _ _ _ ?_)) (fun hn => br_v nI_0 (h14 (Or.inr hn))))) (fun hn => br_t nI_0 (h14 (Or.inl hn))))
  obtain ⟨y1, y2⟩ := hVB.sz hs
  obtain ⟨z1, z2⟩ := hVB.sz ht
  have p1 := fun f' g' n' => k1 s t f' g' n' hs ht e e2
  have p3 := k3 s t hs ht e e2
  have p4 := k4 s t hs ht e e2
  have p5 := k5 s t hs ht e e2
  have h53 : (S.2.2.2.2.1.1 s = nI 0 ∨ S.2.2.2.2.1.1 t = nI 0) → F 53 [some (.ref 0), some (.int a), some (.int f), some (.int b), some (.int g), some (.int n), some (.ref (63 + 2 * s)), some (.ref (63 + 2 * t))] [] 90 al_R0 I J := fun q => b53 _ _ _ _ _ _ (cx_finding hC (k := 5) (by decide) (by decide +kernel) (p3 q))
  refine Exists.intro s (And.intro hs (And.intro e (al_rk_in (sc_R s hs) ?_)))
  refine Exists.intro t (And.intro ht (And.intro e2 (al_rk_in (sc_R t ht) ?_)))
  dsimp only [o_iload, o_lload, o_aload, o_istore, o_astore, o_lstore, o_iinc, o_ic, o_lc, o_sc, o_iadd, o_isub, o_imul, o_iand, o_ior, o_ixor, o_ishl, o_ishr, o_ladd, o_lsub, o_land, o_lor, o_lxor, o_lshl, o_lshr, o_i2l, o_l2i, o_lcmp, o_dup, o_dup2, o_pop, o_getI, o_getJ, o_getR, o_putI, o_putZ, o_putJ, o_iald, o_zald, o_lald, o_aald, o_iast, o_zast, o_last, o_alen, o_cpyI, o_cpyJ, o_iret, o_zret, o_lret, o_aret, o_vret, o_idiv, o_irem, o_ineg, o_ifeq, o_ifne, o_iflt, o_ifge, o_ifgt, o_ifle, o_iceq, o_icne, o_iclt, o_icge, o_icgt, o_icle, al_gL, al_sL, al_sJ, al_gd, o_cV, al_pop, al_hd]
  refine al_isC_in (sc_C s hs) (al_r8_in (by decide) (ca_isMissing hB hs (And.intro (fun c => h53 (Or.inl (by simpa using bz_t c))) (fun c => ?_))))
  refine al_isC_in (sc_C t ht) (al_r8_in (by decide) (ca_isMissing hB ht (And.intro (fun c2 => ?_) (fun c2 => h53 (Or.inr (by simpa using bz_t c2))))))
  have hs0 : ¬ S.2.2.2.2.1.1 s = nI 0 := by simpa using bz_f c
  have ht0 : ¬ S.2.2.2.2.1.1 t = nI 0 := by simpa using bz_f c2
  refine b60 _ _ _ _ _ _ ?_
  dsimp only [k_X11_copy_60, o_iload, o_lload, o_aload, o_istore, o_astore, o_lstore, o_iinc, o_ic, o_lc, o_sc, o_iadd, o_isub, o_imul, o_iand, o_ior, o_ixor, o_ishl, o_ishr, o_ladd, o_lsub, o_land, o_lor, o_lxor, o_lshl, o_lshr, o_i2l, o_l2i, o_lcmp, o_dup, o_dup2, o_pop, o_getI, o_getJ, o_getR, o_putI, o_putZ, o_putJ, o_iald, o_zald, o_lald, o_aald, o_iast, o_zast, o_last, o_alen, o_cpyI, o_cpyJ, o_iret, o_zret, o_lret, o_aret, o_vret, o_idiv, o_irem, o_ineg, o_ifeq, o_ifne, o_iflt, o_ifge, o_ifgt, o_ifle, o_iceq, o_icne, o_iclt, o_icge, o_icgt, o_icle, al_gL, al_sL, al_sJ, al_gd]
  refine al_isC_in (sc_C s hs) (al_isC_in (sc_C t ht) ?_)
  rw [(hB s hs).1, (hB t ht).1]
  refine And.intro (fun c3 => b80 _ _ _ _ _ _ ?_) (fun c3 => cx_finding hC (k := 2) (by decide) (by decide +kernel) (p4 hs0 ht0 c3))
  have h103 : ¬ (0 ≤ f.toInt ∧ 0 ≤ n.toInt ∧ 0 ≤ g.toInt ∧ f.toInt + n.toInt ≤ szN S.2.2.2.2.1 s ∧ g.toInt + n.toInt ≤ szN S.2.2.2.2.1 t) → F 103 [some (.ref 0), some (.int a), some (.int f), some (.int b), some (.int g), some (.int n), some (.ref (63 + 2 * s)), some (.ref (63 + 2 * t))] [] 90 al_R0 I J := fun q => b103 _ _ _ _ _ _ (cx_finding hC (k := 0) (by decide) (by decide +kernel) (p5 hs0 ht0 c3 q))
  dsimp only [k_X11_copy_80, o_iload, o_lload, o_aload, o_istore, o_astore, o_lstore, o_iinc, o_ic, o_lc, o_sc, o_iadd, o_isub, o_imul, o_iand, o_ior, o_ixor, o_ishl, o_ishr, o_ladd, o_lsub, o_land, o_lor, o_lxor, o_lshl, o_lshr, o_i2l, o_l2i, o_lcmp, o_dup, o_dup2, o_pop, o_getI, o_getJ, o_getR, o_putI, o_putZ, o_putJ, o_iald, o_zald, o_lald, o_aald, o_iast, o_zast, o_last, o_alen, o_cpyI, o_cpyJ, o_iret, o_zret, o_lret, o_aret, o_vret, o_idiv, o_irem, o_ineg, o_ifeq, o_ifne, o_iflt, o_ifge, o_ifgt, o_ifle, o_iceq, o_icne, o_iclt, o_icge, o_icgt, o_icle, al_gL, al_sL, al_sJ, al_gd, o_cV, al_pop, al_hd]
  refine al_isC_in (sc_C s hs) (al_r8_in (by decide) (ca_hasRange hB hs y1 y2 (fun f' n' ef en h1 => br_f (by decide +kernel) ?_) (fun hn => br_t nI_0 (h103 (by omega)))))
  refine al_isC_in (sc_C t ht) (al_r8_in (by decide) (ca_hasRange hB ht z1 z2 (fun g' m' eg em h2 => br_u (by decide +kernel) (b110 _ _ _ _ _ _ ?_)) (fun hn => br_v nI_0 (h103 (by omega)))))
  obtain rfl : m' = n' := by
    rw [em, nI_eq (by omega) (by omega)] at en
    exact en
  dsimp only [k_X11_copy_110, o_iload, o_lload, o_aload, o_istore, o_astore, o_lstore, o_iinc, o_ic, o_lc, o_sc, o_iadd, o_isub, o_imul, o_iand, o_ior, o_ixor, o_ishl, o_ishr, o_ladd, o_lsub, o_land, o_lor, o_lxor, o_lshl, o_lshr, o_i2l, o_l2i, o_lcmp, o_dup, o_dup2, o_pop, o_getI, o_getJ, o_getR, o_putI, o_putZ, o_putJ, o_iald, o_zald, o_lald, o_aald, o_iast, o_zast, o_last, o_alen, o_cpyI, o_cpyJ, o_iret, o_zret, o_lret, o_aret, o_vret, o_idiv, o_irem, o_ineg, o_ifeq, o_ifne, o_iflt, o_ifge, o_ifgt, o_ifle, o_iceq, o_icne, o_iclt, o_icge, o_icgt, o_icle, al_gL, al_sL, al_sJ, al_gd]
  refine al_isC_in (sc_C s hs) (al_rk_in (sc_N s hs) (al_isC_in (sc_C t ht) (al_rk_in (sc_N t ht) (al_r8_in (by decide) (al_isA_in (sc_A s hs) (al_isA_in (sc_A t ht) (Exists.intro m' (Exists.intro g' (Exists.intro f' (And.intro en (And.intro eg (And.intro ef (And.intro (by omega) (And.intro (by omega) ?_))))))))))))))
  refine p1 f' g' m' hs0 ht0 c3 ef eg en h1 h2 _ _ (CI.sheet hC (fun u hu => ?_) (fun p hp => ⟨rfl, al_cpy_row (by omega)⟩)) (fun p hp => ⟨rfl, al_cpy_row (by omega)⟩)
  obtain ⟨q1, q2, q3⟩ := hB u hu
  refine ⟨q1, q2, fun k hk => ?_⟩
  show _ = al_cpy S.2.2.2.2.1.2.2 s t f' g' m' u k
  by_cases e3 : u = t
  · subst e3
    unfold al_cpy
    rw [if_pos rfl, if_pos rfl]
    by_cases e4 : g' ≤ k ∧ k < g' + m'
    · rw [if_pos e4, if_pos e4]
      exact (hB s hs).2.2 _ (by omega)
    · rw [if_neg e4, if_neg e4]
      exact q3 k hk
  · unfold al_cpy
    rw [if_neg (by omega), if_neg e3]
    exact q3 k hk
def vokb (nh x : Nat) : Bool := decide (x ≤ 3) || (decide (10 ≤ x) && decide (x < 10 + nh))
theorem vokb_iff {nh x : Nat} : vokb nh x = true ↔ vok nh x := by simp [vokb, vok]
def vlv (nh : Nat) (v : Int64) : Bool := decide (0 ≤ v.toInt) && vokb nh v.toInt.toNat
/-- laying a row of numbers -/
def lyo (T : TW) (v : Nat → Int64) (q : Nat) : Nat → TW × Nat
  | 0 => (T, 0)
  | i + 1 => if vlv T.2.1 (v i) = true then ((ups (lyo T v q i).1.1 (q + i) (v i).toInt.toNat, T.2), (lyo T v q i).2 + 1) else lyo T v q i
theorem lyo_2 (T : TW) (v : Nat → Int64) (q : Nat) : ∀ i, (lyo T v q i).1.2 = T.2 ∧ (lyo T v q i).2 ≤ i
  | 0 => ⟨rfl, Nat.le_refl 0⟩
  | i + 1 => by
    obtain ⟨h1, h2⟩ := lyo_2 T v q i
    unfold lyo
    split
    · exact ⟨rfl, by show (lyo T v q i).2 + 1 ≤ i + 1; omega⟩
    · exact ⟨h1, by omega⟩
theorem VT_lyo {T : TW} (hv : VT T) (v : Nat → Int64) (q : Nat) : ∀ i, VT (lyo T v q i).1
  | 0 => hv
  | i + 1 => by
    have h1 := VT_lyo hv v q i
    have h2 := (lyo_2 T v q i).1
    unfold lyo
    split
    · rename_i c
      rw [← h2]
      refine VT.lay h1 ?_
      rw [h2, ← vokb_iff]
      unfold vlv at c
      rw [Bool.and_eq_true] at c
      exact c.2
    · exact h1
theorem l_of {x : Int64} {n : Nat} (h : x.toInt = (n : Int)) (hn : n < 2 ^ 31) : x = lN n := by
  rw [← Int64.toInt_inj, lN_toInt hn]
  exact h
theorem X_lays {a b : Int32} {S : SG} {I : II} {J : JJ} {Q : QT} (hC : CI S I J) (hV : VS S) (k1 : ∀ s q, s < 4 → q < 64 → a = nI s → b = nI q → ¬ S.2.2.2.2.1.1 s = nI 0 → PX I J Q (sT S (lyo S.1 (S.2.2.2.2.1.2.2 s) q (min (szN S.2.2.2.2.1 s) (64 - q))).1) (.int (nI (lyo S.1 (S.2.2.2.2.1.2.2 s) q (min (szN S.2.2.2.2.1 s) (64 - q))).2))) (k2 : (ing 4 a ∨ ∃ s, s < 4 ∧ a = nI s ∧ ¬ S.2.2.2.2.1.1 s = nI 0 ∧ ing 64 b) → PX I J Q (fnd 0 S) (.int (-1000000001))) (k3 : ∀ s, s < 4 → a = nI s → S.2.2.2.2.1.1 s = nI 0 → PX I J Q (fnd 5 S) (.int (-1000000006))) : CT m_X11_lays 0 [.ref 0, .int a, .int b] 90 al_R0 I J Q := by
  have hB := hC.2.2.2.2.2.2.1
  have hVB := hV.2.2.2
  have h6 := hV.1.1
  refine r_X11_lays (by decide) (fun F wk b0 b14 b35 b49 b55 b128 b134 => ?_)
  refine b0 _ _ _ _ _ _ (cx_isSheet (fun s hs e => br_u (by decide +kernel) (b14 _ _ _ _ _ _ ?_)) (fun hn => br_v nI_0 (cx_finding hC (k := 0) (by decide) (by decide +kernel) (k2 (Or.inl hn)))))
  obtain ⟨z1, z2⟩ := hVB.sz hs
  refine Exists.intro s (And.intro hs (And.intro e (al_rk_in (sc_R s hs) ?_)))
  dsimp only [o_iload, o_lload, o_aload, o_istore, o_astore, o_lstore, o_iinc, o_ic, o_lc, o_sc, o_iadd, o_isub, o_imul, o_iand, o_ior, o_ixor, o_ishl, o_ishr, o_ladd, o_lsub, o_land, o_lor, o_lxor, o_lshl, o_lshr, o_i2l, o_l2i, o_lcmp, o_dup, o_dup2, o_pop, o_getI, o_getJ, o_getR, o_putI, o_putZ, o_putJ, o_iald, o_zald, o_lald, o_aald, o_iast, o_zast, o_last, o_alen, o_cpyI, o_cpyJ, o_iret, o_zret, o_lret, o_aret, o_vret, o_idiv, o_irem, o_ineg, o_ifeq, o_ifne, o_iflt, o_ifge, o_ifgt, o_ifle, o_iceq, o_icne, o_iclt, o_icge, o_icgt, o_icle, al_gL, al_sL, al_sJ, al_gd, o_cV, al_pop, al_hd]
  refine al_isC_in (sc_C s hs) (al_r8_in (by decide) (ca_isMissing hB hs (And.intro (fun c => b35 _ _ _ _ _ _ ?_) (fun c => cx_finding hC (k := 5) (by decide) (by decide +kernel) (k3 s hs e (by simpa using bz_t c))))))
  have hb0 : ¬ S.2.2.2.2.1.1 s = nI 0 := by simpa using bz_f c
  refine cx_isSquare (fun q hq e2 => br_u (by decide +kernel) (b49 _ _ _ _ _ _ ?_)) (fun hn => br_v nI_0 (cx_finding hC (k := 0) (by decide) (by decide +kernel) (k2 (Or.inr ⟨s, hs, e, hb0, hn⟩))))
  have p1 := k1 s q hs hq e e2 hb0
  clear k1 k2 k3
  subst e e2
  have hv := (hB s hs).2.2
  generalize hw : S.2.2.2.2.1.2.2 s = v at *
  generalize hz : szN S.2.2.2.2.1 s = z at *
  have loop : ∀ (d i : Nat) (I' : II) (J' : JJ), i + d = min z (64 - q) → CTn 8 (lyo S.1 v q i).1 I' J' → (∀ p, ¬ (8 ≤ p ∧ p < 23) → I' p = I p ∧ J' p = J p) → F 55 [some (.ref 0), some (.int (nI s)), some (.int (nI q)), some (.ref (63 + 2 * s)), some (.int (nI (lyo S.1 v q i).2)), some (.int (nI i)), none, none] [] 90 al_R0 I' J' := by
    intro d
    induction d with
    | zero =>
      intro i I' J' hi g1 g2
      have h134 : F 134 [some (.ref 0), some (.int (nI s)), some (.int (nI q)), some (.ref (63 + 2 * s)), some (.int (nI (lyo S.1 v q i).2)), some (.int (nI i)), none, none] [] 90 al_R0 I' J' := by
        refine b134 _ _ _ _ _ _ (ca_forget (fun I2 g3 g4 g5 => ?_))
        rw [show min z (64 - q) = i by omega] at p1
        exact p1 I2 J' (CI.town hC (g1.keep (fun p q1 q2 => ⟨g3 p (by omega) (by omega), rfl⟩)) g4 g5 (fun p q1 q2 q3 => ⟨by rw [g3 p q3 q2]; exact (g2 p q1).1, (g2 p q1).2⟩)) (fun p hp => ⟨by rw [g3 p (by omega) (by omega)]; exact (g2 p (by omega)).1, (g2 p (by omega)).2⟩)
      refine b55 _ _ _ _ _ _ ?_
      dsimp only [k_X11_lays_55, o_iload, o_lload, o_aload, o_istore, o_astore, o_lstore, o_iinc, o_ic, o_lc, o_sc, o_iadd, o_isub, o_imul, o_iand, o_ior, o_ixor, o_ishl, o_ishr, o_ladd, o_lsub, o_land, o_lor, o_lxor, o_lshl, o_lshr, o_i2l, o_l2i, o_lcmp, o_dup, o_dup2, o_pop, o_getI, o_getJ, o_getR, o_putI, o_putZ, o_putJ, o_iald, o_zald, o_lald, o_aald, o_iast, o_zast, o_last, o_alen, o_cpyI, o_cpyJ, o_iret, o_zret, o_lret, o_aret, o_vret, o_idiv, o_irem, o_ineg, o_ifeq, o_ifne, o_iflt, o_ifge, o_ifgt, o_ifle, o_iceq, o_icne, o_iclt, o_icge, o_icgt, o_icle, al_gL, al_sL, al_sJ, al_gd]
      refine al_isC_in (sc_C s hs) ?_
      rw [(g2 (63 + 2 * s) (by omega)).1, (hB s hs).2.1, z2]
      refine And.intro (fun _ => h134) (fun c3 => ?_)
      rw [nI_leI (by omega) (by omega)] at c3
      rw [nI_add]
      exact br_t (nI_le (by omega) (by omega)) h134
    | succ d ih =>
      intro i I' J' hi g1 g2
      obtain ⟨y1, y2⟩ := lyo_2 S.1 v q i
      have hVi := VT_lyo hV.1 v q i
      have e8 : I' 8 3 = nI S.1.2.1 := by rw [g1.1, y1]
      have no : vlv S.1.2.1 (v i) = false → F 128 [some (.ref 0), some (.int (nI s)), some (.int (nI q)), some (.ref (63 + 2 * s)), some (.int (nI (lyo S.1 v q i).2)), some (.int (nI i)), none, none] [] 90 al_R0 I' J' := fun hvl => by
        have he : lyo S.1 v q (i + 1) = lyo S.1 v q i := by rw [lyo, if_neg (by rw [hvl]; decide)]
        have h9 := ih (i + 1) I' J' (by omega) (by rw [he]; exact g1) g2
        rw [he, nI_s i] at h9
        exact b128 _ _ _ _ _ _ h9
      refine b55 _ _ _ _ _ _ ?_
      dsimp only [k_X11_lays_55, o_iload, o_lload, o_aload, o_istore, o_astore, o_lstore, o_iinc, o_ic, o_lc, o_sc, o_iadd, o_isub, o_imul, o_iand, o_ior, o_ixor, o_ishl, o_ishr, o_ladd, o_lsub, o_land, o_lor, o_lxor, o_lshl, o_lshr, o_i2l, o_l2i, o_lcmp, o_dup, o_dup2, o_pop, o_getI, o_getJ, o_getR, o_putI, o_putZ, o_putJ, o_iald, o_zald, o_lald, o_aald, o_iast, o_zast, o_last, o_alen, o_cpyI, o_cpyJ, o_iret, o_zret, o_lret, o_aret, o_vret, o_idiv, o_irem, o_ineg, o_ifeq, o_ifne, o_iflt, o_ifge, o_ifgt, o_ifle, o_iceq, o_icne, o_iclt, o_icge, o_icgt, o_icle, al_gL, al_sL, al_sJ, al_gd]
      refine al_isC_in (sc_C s hs) ?_
      rw [(g2 (63 + 2 * s) (by omega)).1, (hB s hs).2.1, z2]
      refine br_f (nI_ge (by omega) (by omega)) ?_
      rw [nI_add]
      refine br_f (nI_ge (by omega) (by omega)) (al_isC_in (sc_C s hs) (al_rk_in (sc_N s hs) (al_isA_in (sc_A s hs) (Exists.intro i (And.intro (by omega) (And.intro rfl ?_))))))
      rw [(g2 (64 + 2 * s) (by omega)).2, hv i (by omega)]
      refine And.intro (fun c3 => ?_) (fun c3 => And.intro (fun c4 => ?_) (fun c4 => ?_))
      · rw [lg_cmp_lt, Int64.lt_iff_toInt_lt, lN_0, Int64.toInt_zero] at c3
        exact wk _ _ _ _ _ _ _ _ (by simp [al_le]) (no (by simp [vlv]; omega))
      · rw [lg_cmp_ge, Int64.le_iff_toInt_le, show (16 : Int64).toInt = 16 by decide +kernel] at c4
        refine wk _ _ _ _ _ _ _ _ (by simp [al_le]) (no ?_)
        have : vokb S.1.2.1 (v i).toInt.toNat = false := by
          cases hq9 : vokb S.1.2.1 (v i).toInt.toNat with
          | false => rfl
          | true =>
            rw [vokb_iff] at hq9
            unfold vok at hq9
            omega
        unfold vlv
        rw [this, Bool.and_false]
      · rw [lg_cmp_lt, Int64.lt_iff_toInt_lt, lN_0, Int64.toInt_zero] at c3
        rw [lg_cmp_ge, Int64.le_iff_toInt_le, show (16 : Int64).toInt = 16 by decide +kernel] at c4
        have ev : v i = lN (v i).toInt.toNat := l_of (by omega) (by omega)
        have ei : (v i).toInt32 = nI (v i).toInt.toNat := by rw [ev, lN_i, ← ev]
        have hx16 : (v i).toInt.toNat < 16 := by omega
        have hnn : 0 ≤ (v i).toInt := by omega
        refine ca_mayBe h6 e8 (fun x hx ex => br_f (by decide +kernel) ?_) (fun hn => br_t nI_0 ?_)
        · rw [ei, nI_eq (by omega) (by unfold vok at hx; omega)] at ex
          have hvl : vlv S.1.2.1 (v i) = true := by
            unfold vlv
            rw [ex, vokb_iff.mpr hx]
            simp [hnn]
          have he : lyo S.1 v q (i + 1) = ((ups (lyo S.1 v q i).1.1 (q + i) (v i).toInt.toNat, S.1.2), (lyo S.1 v q i).2 + 1) := by rw [lyo, if_pos hvl]
          dsimp only [o_iload, o_lload, o_aload, o_istore, o_astore, o_lstore, o_iinc, o_ic, o_lc, o_sc, o_iadd, o_isub, o_imul, o_iand, o_ior, o_ixor, o_ishl, o_ishr, o_ladd, o_lsub, o_land, o_lor, o_lxor, o_lshl, o_lshr, o_i2l, o_l2i, o_lcmp, o_dup, o_dup2, o_pop, o_getI, o_getJ, o_getR, o_putI, o_putZ, o_putJ, o_iald, o_zald, o_lald, o_aald, o_iast, o_zast, o_last, o_alen, o_cpyI, o_cpyJ, o_iret, o_zret, o_lret, o_aret, o_vret, o_idiv, o_irem, o_ineg, o_ifeq, o_ifne, o_iflt, o_ifge, o_ifgt, o_ifle, o_iceq, o_icne, o_iclt, o_icge, o_icgt, o_icle, al_gL, al_sL, al_sJ, al_gd]
          rw [ei, nI_add]
          refine ca_lay (q := q + i) (x := (v i).toInt.toNat) (by omega) hx16 g1.2.2.1 (fun s' w' hm => ?_)
          have h9 := ih (i + 1) _ _ (by omega) (by rw [he, ← y1]; exact CTn.lay g1 hm) (fun p hp => ⟨by rw [al_up_row (by omega)]; exact (g2 p hp).1, by rw [al_up_row (by omega), al_up_row (by omega)]; exact (g2 p hp).2⟩)
          rw [he, nI_s i, nI_s (lyo S.1 v q i).2] at h9
          exact b128 _ _ _ _ _ _ (wk _ _ _ _ _ _ _ _ (by simp [al_le]) h9)
        · refine wk _ _ _ _ _ _ _ _ (by simp [al_le]) (no ?_)
          have : vokb S.1.2.1 (v i).toInt.toNat = false := by
            cases hq9 : vokb S.1.2.1 (v i).toInt.toNat with
            | false => rfl
            | true =>
              rw [vokb_iff] at hq9
              exact absurd ei (hn _ hq9)
          unfold vlv
          rw [this, Bool.and_false]
  refine wk _ _ _ _ _ _ _ _ (by simp [al_le]; rfl) (loop (min z (64 - q)) 0 I J (by omega) hC.1 (fun p hp => ⟨rfl, rfl⟩))
def rdP (c : Nat → Nat) (h : Nat) (v : Nat → Int64) (i : Nat) : Bool := !(decide (ithc c h i < 81) && decide (v i = lN (ithc c h i)))
def rdv (c : Nat → Nat) (h : Nat) (v : Nat → Int64) (z : Nat) : Int32 := if fnx (rdP c h v) 0 z < z then nI 1 + nI (fnx (rdP c h v) 0 z) else if ithc c h z < 81 then nI 1 + nI z else nI 0
theorem X_read {a b : Int32} {S : SG} {I : II} {J : JJ} {Q : QT} (hC : CI S I J) (hV : VS S) (k1 : ∀ s h, s < 4 → h < S.1.2.1 → a = nI s → b = nI h → ¬ S.2.2.2.2.1.1 s = nI 0 → PX I J Q S (.int (rdv S.1.1 h (S.2.2.2.2.1.2.2 s) (szN S.2.2.2.2.1 s)))) (k2 : (ing 4 a ∨ ∃ s, s < 4 ∧ a = nI s ∧ ¬ S.2.2.2.2.1.1 s = nI 0 ∧ ing S.1.2.1 b) → PX I J Q (fnd 0 S) (.int (-1000000001))) (k3 : ∀ s, s < 4 → a = nI s → S.2.2.2.2.1.1 s = nI 0 → PX I J Q (fnd 5 S) (.int (-1000000006))) : CT m_X11_read 0 [.ref 0, .int a, .int b] 90 al_R0 I J Q := by
  have hB := hC.2.2.2.2.2.2.1
  have hVB := hV.2.2.2
  have h6 := hV.1.1
  have rf := f74.rf I J
  refine r_X11_read (by decide) (fun F wk b0 b14 b35 b50 b64 b94 b99 b117 b133 b134 => ?_)
  refine b0 _ _ _ _ _ _ (cx_isSheet (fun s hs e => br_u (by decide +kernel) (b14 _ _ _ _ _ _ ?_)) (fun hn => br_v nI_0 (cx_finding hC (k := 0) (by decide) (by decide +kernel) (k2 (Or.inl hn)))))
  obtain ⟨z1, z2⟩ := hVB.sz hs
  refine Exists.intro s (And.intro hs (And.intro e (al_rk_in (sc_R s hs) ?_)))
  dsimp only [o_iload, o_lload, o_aload, o_istore, o_astore, o_lstore, o_iinc, o_ic, o_lc, o_sc, o_iadd, o_isub, o_imul, o_iand, o_ior, o_ixor, o_ishl, o_ishr, o_ladd, o_lsub, o_land, o_lor, o_lxor, o_lshl, o_lshr, o_i2l, o_l2i, o_lcmp, o_dup, o_dup2, o_pop, o_getI, o_getJ, o_getR, o_putI, o_putZ, o_putJ, o_iald, o_zald, o_lald, o_aald, o_iast, o_zast, o_last, o_alen, o_cpyI, o_cpyJ, o_iret, o_zret, o_lret, o_aret, o_vret, o_idiv, o_irem, o_ineg, o_ifeq, o_ifne, o_iflt, o_ifge, o_ifgt, o_ifle, o_iceq, o_icne, o_iclt, o_icge, o_icgt, o_icle, al_gL, al_sL, al_sJ, al_gd, o_cV, al_pop, al_hd]
  refine al_isC_in (sc_C s hs) (al_r8_in (by decide) (ca_isMissing hB hs (And.intro (fun c => b35 _ _ _ _ _ _ ?_) (fun c => cx_finding hC (k := 5) (by decide) (by decide +kernel) (k3 s hs e (by simpa using bz_t c))))))
  have hb0 : ¬ S.2.2.2.2.1.1 s = nI 0 := by simpa using bz_f c
  refine cx_isHouse h6 hC.1.1 (fun h hh e2 => br_u (by decide +kernel) (b50 _ _ _ _ _ _ ?_)) (fun hn => br_v nI_0 (cx_finding hC (k := 0) (by decide) (by decide +kernel) (k2 (Or.inr ⟨s, hs, e, hb0, hn⟩))))
  have p1 := k1 s h hs hh e e2 hb0 I J hC rf
  clear k1 k2 k3
  subst e e2
  have hv := (hB s hs).2.2
  generalize hw : S.2.2.2.2.1.2.2 s = v at *
  generalize hz : szN S.2.2.2.2.1 s = z at *
  unfold rdv at p1
  have loop : ∀ d i : Nat, i + d = z → fnx (rdP S.1.1 h v) 0 z = fnx (rdP S.1.1 h v) i d → F 64 [some (.ref 0), some (.int (nI s)), some (.int (nI h)), some (.ref (63 + 2 * s)), some (.int (nI (ithc S.1.1 h i))), some (.int (nI i))] [] 90 al_R0 I J := by
    intro d
    induction d with
    | zero =>
      intro i hi he
      obtain rfl : i = z := by omega
      rw [he, show fnx (rdP S.1.1 h v) i 0 = i from rfl, if_neg (by omega)] at p1
      refine b64 _ _ _ _ _ _ ?_
      dsimp only [k_X11_read_64, o_iload, o_lload, o_aload, o_istore, o_astore, o_lstore, o_iinc, o_ic, o_lc, o_sc, o_iadd, o_isub, o_imul, o_iand, o_ior, o_ixor, o_ishl, o_ishr, o_ladd, o_lsub, o_land, o_lor, o_lxor, o_lshl, o_lshr, o_i2l, o_l2i, o_lcmp, o_dup, o_dup2, o_pop, o_getI, o_getJ, o_getR, o_putI, o_putZ, o_putJ, o_iald, o_zald, o_lald, o_aald, o_iast, o_zast, o_last, o_alen, o_cpyI, o_cpyJ, o_iret, o_zret, o_lret, o_aret, o_vret, o_idiv, o_irem, o_ineg, o_ifeq, o_ifne, o_iflt, o_ifge, o_ifgt, o_ifle, o_iceq, o_icne, o_iclt, o_icge, o_icgt, o_icle, al_gL, al_sL, al_sJ, al_gd]
      refine al_isC_in (sc_C s hs) ?_
      rw [(hB s hs).2.1, z2]
      have hl := ithc_le S.1.1 h i
      refine br_t (nI_le (by omega) (by omega)) (b117 _ _ _ _ _ _ (And.intro (fun c3 => ?_) (fun c3 => ?_)))
      · rw [nI_leI (by omega) (by omega)] at c3
        rw [if_neg (by omega)] at p1
        exact b133 _ _ _ _ _ _ (b134 _ _ _ _ _ _ p1)
      · rw [nI_leI (by omega) (by omega)] at c3
        rw [if_pos (by omega)] at p1
        dsimp only [o_iload, o_lload, o_aload, o_istore, o_astore, o_lstore, o_iinc, o_ic, o_lc, o_sc, o_iadd, o_isub, o_imul, o_iand, o_ior, o_ixor, o_ishl, o_ishr, o_ladd, o_lsub, o_land, o_lor, o_lxor, o_lshl, o_lshr, o_i2l, o_l2i, o_lcmp, o_dup, o_dup2, o_pop, o_getI, o_getJ, o_getR, o_putI, o_putZ, o_putJ, o_iald, o_zald, o_lald, o_aald, o_iast, o_zast, o_last, o_alen, o_cpyI, o_cpyJ, o_iret, o_zret, o_lret, o_aret, o_vret, o_idiv, o_irem, o_ineg, o_ifeq, o_ifne, o_iflt, o_ifge, o_ifgt, o_ifle, o_iceq, o_icne, o_iclt, o_icge, o_icgt, o_icle, al_gL, al_sL, al_sJ, al_gd]
        refine al_isC_in (sc_C s hs) ?_
        rw [(hB s hs).2.1, z2]
        exact b134 _ _ _ _ _ _ p1
    | succ d ih =>
      intro i hi he
      have hl := ithc_le S.1.1 h i
      have h94 : rdP S.1.1 h v i = true → F 94 [some (.ref 0), some (.int (nI s)), some (.int (nI h)), some (.ref (63 + 2 * s)), some (.int (nI (ithc S.1.1 h i))), some (.int (nI i))] [] 90 al_R0 I J := fun q => by
        rw [he, fnx_yes q, if_pos (by omega)] at p1
        exact b94 _ _ _ _ _ _ p1
      refine b64 _ _ _ _ _ _ ?_
      dsimp only [k_X11_read_64, o_iload, o_lload, o_aload, o_istore, o_astore, o_lstore, o_iinc, o_ic, o_lc, o_sc, o_iadd, o_isub, o_imul, o_iand, o_ior, o_ixor, o_ishl, o_ishr, o_ladd, o_lsub, o_land, o_lor, o_lxor, o_lshl, o_lshr, o_i2l, o_l2i, o_lcmp, o_dup, o_dup2, o_pop, o_getI, o_getJ, o_getR, o_putI, o_putZ, o_putJ, o_iald, o_zald, o_lald, o_aald, o_iast, o_zast, o_last, o_alen, o_cpyI, o_cpyJ, o_iret, o_zret, o_lret, o_aret, o_vret, o_idiv, o_irem, o_ineg, o_ifeq, o_ifne, o_iflt, o_ifge, o_ifgt, o_ifle, o_iceq, o_icne, o_iclt, o_icge, o_icgt, o_icle, al_gL, al_sL, al_sJ, al_gd]
      refine al_isC_in (sc_C s hs) ?_
      rw [(hB s hs).2.1, z2]
      refine br_f (nI_ge (by omega) (by omega)) (And.intro (fun c3 => ?_) (fun c3 => al_isC_in (sc_C s hs) (al_rk_in (sc_N s hs) (al_isA_in (sc_A s hs) (Exists.intro i (And.intro (by omega) (And.intro rfl ?_)))))))
      · rw [nI_leI (by omega) (by omega)] at c3
        exact h94 (by simp [rdP]; omega)
      · rw [nI_leI (by omega) (by omega)] at c3
        rw [hv i (by omega), nI_l (by omega)]
        refine And.intro (fun c4 => b99 _ _ _ _ _ _ ?_) (fun c4 => ?_)
        · rw [lg_cmp_eq] at c4
          refine ca_cornerBehind (s := ithc S.1.1 h i + 1) hC.1.2.1 hV.1.cdo (by omega) (by omega) (nI_s _).symm ?_
          rw [ithc_s (by omega)]
          have h10 := ih (i + 1) (by omega) (by rw [he, fnx_no (by simp [rdP, c4]; omega)])
          rw [nI_s i] at h10
          exact h10
        · rw [lg_cmp_eq] at c4
          exact h94 (by simp [rdP, c4])
  refine ca_cornerBehind (s := 0) hC.1.2.1 hV.1.cdo (by omega) (by omega) m1_s ?_
  rw [ithc_0]
  exact loop z 0 (by omega) rfl
