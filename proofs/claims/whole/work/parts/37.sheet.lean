/-! SHEETS -/
theorem sc_C : ∀ s, s < 4 → al_cls 90 (63 + 2 * s) = some 7 := by decide +kernel
theorem sc_R : ∀ s, s < 4 → al_R0 62 s = some (63 + 2 * s) := by decide +kernel
theorem sc_N : ∀ s, s < 4 → al_R0 (63 + 2 * s) 2 = some (64 + 2 * s) := by decide +kernel
theorem sc_A : ∀ s, s < 4 → al_ark 90 (64 + 2 * s) = some (1, 40) := by decide +kernel
abbrev SH : Type := (Nat → Int32) × (Nat → Int32) × (Nat → Nat → Int64)
theorem CI.sheet {S : SG} {B : SH} {I I' : II} {J J' : JJ} (h : CI S I J) (hB : sht I' J' B) (hk : ∀ p, ¬ (63 ≤ p ∧ p < 71) → I' p = I p ∧ J' p = J p) : CI (sB S B) I' J' := by
  obtain ⟨h1, h2, h3, h4, h5, h6, h7, h8⟩ := h
  exact ⟨h1.keep (fun p q1 q2 => hk p (by omega)), h2.keep (hk 39 (by omega)).1, h3.keep (hk 38 (by omega)).1 (hk 44 (by omega)).1, h4.keep (hk 72 (by omega)).1 (hk 73 (by omega)).1, h5.keep (hk 0 (by omega)).1 (fun p q1 q2 => hk p (by omega)), h6.keep (hk 45 (by omega)).1 (hk 61 (by omega)).1, hB, h8.keep (hk 71 (by omega)).1⟩
theorem ca_isMissing {s : Nat} {B : SH} {I : II} {J : JJ} {Q : QT} (hB : sht I J B) (hs : s < 4) (kq : Q (some (.int (nI (decide (B.1 s = nI 0)).toNat))) 90 al_R0 I J) : CT m_X7_isMissing 0 [.ref (63 + 2 * s)] 90 al_R0 I J Q := by
  refine r_X7_isMissing (by decide) (fun F wk b0 b11 b12 => ?_)
  refine b0 _ _ _ _ _ _ ?_
  dsimp only [k_X7_isMissing_0, o_iload, o_lload, o_aload, o_istore, o_astore, o_lstore, o_iinc, o_ic, o_lc, o_sc, o_iadd, o_isub, o_imul, o_iand, o_ior, o_ixor, o_ishl, o_ishr, o_ladd, o_lsub, o_land, o_lor, o_lxor, o_lshl, o_lshr, o_i2l, o_l2i, o_lcmp, o_dup, o_dup2, o_pop, o_getI, o_getJ, o_getR, o_putI, o_putZ, o_putJ, o_iald, o_zald, o_lald, o_aald, o_iast, o_zast, o_last, o_alen, o_cpyI, o_cpyJ, o_iret, o_zret, o_lret, o_aret, o_vret, o_idiv, o_irem, o_ineg, o_ifeq, o_ifne, o_iflt, o_ifge, o_ifgt, o_ifle, o_iceq, o_icne, o_iclt, o_icge, o_icgt, o_icle, al_gL, al_sL, al_sJ, al_gd]
  refine al_isC_in (sc_C s hs) ?_
  rw [(hB s hs).1]
  refine And.intro (fun c => ?_) (fun c => ?_)
  · rw [decide_eq_false (by rw [nI_0]; exact c)] at kq
    exact b11 _ _ _ _ _ _ (b12 _ _ _ _ _ _ (And.intro (Or.inl nI_0) kq))
  · rw [decide_eq_true (by rw [nI_0]; exact c)] at kq
    exact b12 _ _ _ _ _ _ (And.intro (Or.inr nI_1') kq)
/-- a sheet anew -/
def shn (B : SH) (s : Nat) (w z : Int32) : SH := (ups B.1 s w, ups B.2.1 s z, fun t k => if t = s then lN 0 else B.2.2 t k)
theorem ca_sbecome {s : Nat} {w z : Int32} {B : SH} {I : II} {J : JJ} {Q : QT} (hB : sht I J B) (hs : s < 4) (kq : ∀ (I' : II) (J' : JJ), sht I' J' (shn B s w z) → (∀ p, ¬ (63 ≤ p ∧ p < 71) → I' p = I p ∧ J' p = J p) → Q none 90 al_R0 I' J') : CT m_X7_become 0 [.ref (63 + 2 * s), .int w, .int z] 90 al_R0 I J Q := by
  refine r_X7_become (by decide) (fun F wk b0 => ?_)
  refine b0 _ _ _ _ _ _ ?_
  dsimp only [k_X7_become_0, o_iload, o_lload, o_aload, o_istore, o_astore, o_lstore, o_iinc, o_ic, o_lc, o_sc, o_iadd, o_isub, o_imul, o_iand, o_ior, o_ixor, o_ishl, o_ishr, o_ladd, o_lsub, o_land, o_lor, o_lxor, o_lshl, o_lshr, o_i2l, o_l2i, o_lcmp, o_dup, o_dup2, o_pop, o_getI, o_getJ, o_getR, o_putI, o_putZ, o_putJ, o_iald, o_zald, o_lald, o_aald, o_iast, o_zast, o_last, o_alen, o_cpyI, o_cpyJ, o_iret, o_zret, o_lret, o_aret, o_vret, o_idiv, o_irem, o_ineg, o_ifeq, o_ifne, o_iflt, o_ifge, o_ifgt, o_ifle, o_iceq, o_icne, o_iclt, o_icge, o_icgt, o_icle, al_gL, al_sL, al_sJ, al_gd]
  refine al_isC_in (sc_C s hs) (al_isC_in (sc_C s hs) (al_isC_in (sc_C s hs) (al_rk_in (sc_N s hs) ?_)))
  dsimp only [o_cS, al_pop]
  refine al_r8_in (by decide) (cj_fillJ (by decide) (sc_A s hs) (by decide) (fun J' g1 g2 g3 => ?_))
  refine kq _ _ (fun t ht => ?_) (fun p hp => ⟨by rw [al_up_row (by omega), al_up_row (by omega)], g1 p (by omega)⟩)
  obtain ⟨q1, q2, q3⟩ := hB t ht
  show _ = ups B.1 s w t ∧ _ = ups B.2.1 s z t ∧ ∀ k, k < 40 → _ = if t = s then lN 0 else B.2.2 t k
  by_cases e : t = s
  · subst e
    rw [al_up_j (by decide), al_up_s, al_up_s, ups_s, ups_s]
    refine ⟨rfl, rfl, fun k hk => ?_⟩
    rw [if_pos rfl]
    exact g2 k hk
  · rw [al_up_p (by omega), al_up_p (by omega), al_up_p (by omega), al_up_p (by omega), ups_n e, ups_n e]
    refine ⟨q1, q2, fun k hk => ?_⟩
    rw [if_neg e, g1 _ (by omega)]
    exact q3 k hk
def bok (b : Int32) : Prop := b = nI 0 ∨ b = nI 8 ∨ b = nI 16 ∨ b = nI 64
theorem X_sheet {a b d : Int32} {S : SG} {I : II} {J : JJ} {Q : QT} (hC : CI S I J) (k1 : ∀ s n, s < 4 → n ≤ 40 → a = nI s → bok b → d = nI n → PX I J Q (sB S (shn S.2.2.2.2.1 s b (if b = nI 0 then nI 0 else nI n))) (.int (if b = nI 0 then nI 0 else nI n))) (k2 : (ing 4 a ∨ ¬ bok b) → PX I J Q (fnd 0 S) (.int (-1000000001))) (k3 : ∀ s, s < 4 → a = nI s → bok b → d < 0 → PX I J Q (fnd 6 S) (.int (-1000000007))) (k4 : ∀ s, s < 4 → a = nI s → bok b → nI 40 < d → PX I J Q (fnd 0 S) (.int (-1000000001))) : CT m_X11_sheet 0 [.ref 0, .int a, .int b, .int d] 90 al_R0 I J Q := by
  have hB := hC.2.2.2.2.2.2.1
  refine r_X11_sheet (by decide) (fun F wk b0 b29 b36 b47 b60 b75 b76 => ?_)
  have h29 : (ing 4 a ∨ ¬ bok b) → F 29 [some (.ref 0), some (.int a), some (.int b), some (.int d)] [] 90 al_R0 I J := fun q => b29 _ _ _ _ _ _ (cx_finding hC (k := 0) (by decide) (by decide +kernel) (k2 q))
  refine b0 _ _ _ _ _ _ (cx_isSheet (fun s hs e => br_f (by decide +kernel) ?_) (fun hn => br_t nI_0 (h29 (Or.inl hn))))
  have h36 : bok b → F 36 [some (.ref 0), some (.int a), some (.int b), some (.int d)] [] 90 al_R0 I J := fun hb => by
    refine b36 _ _ _ _ _ _ (And.intro (fun c => b47 _ _ _ _ _ _ (And.intro (fun c2 => ?_) (fun c2 => ?_))) (fun c => ?_))
    · have c' : ¬ d < 0 := by simpa using c
      rw [ix_le (by decide)] at c2
      rw [i0_lt] at c'
      have e2 : d = nI d.toInt.toNat := i_of (by omega) (by omega)
      have p1 := k1 s d.toInt.toNat hs (by omega) e hb e2
      rw [← e2] at p1
      have h76 : ∀ z, z = (if b = nI 0 then nI 0 else d) → F 76 [some (.ref 0), some (.int a), some (.int b), some (.int d)] [.int z, .int b, .ref (63 + 2 * s)] 90 al_R0 I J := fun z hz => by
        rw [← hz] at p1
        refine b76 _ _ _ _ _ _ ?_
        dsimp only [k_X11_sheet_76, o_iload, o_lload, o_aload, o_istore, o_astore, o_lstore, o_iinc, o_ic, o_lc, o_sc, o_iadd, o_isub, o_imul, o_iand, o_ior, o_ixor, o_ishl, o_ishr, o_ladd, o_lsub, o_land, o_lor, o_lxor, o_lshl, o_lshr, o_i2l, o_l2i, o_lcmp, o_dup, o_dup2, o_pop, o_getI, o_getJ, o_getR, o_putI, o_putZ, o_putJ, o_iald, o_zald, o_lald, o_aald, o_iast, o_zast, o_last, o_alen, o_cpyI, o_cpyJ, o_iret, o_zret, o_lret, o_aret, o_vret, o_idiv, o_irem, o_ineg, o_ifeq, o_ifne, o_iflt, o_ifge, o_ifgt, o_ifle, o_iceq, o_icne, o_iclt, o_icge, o_icgt, o_icle, al_gL, al_sL, al_sJ, al_gd, o_cV, al_pop, al_hd]
        refine al_isC_in (sc_C s hs) (al_r8_in (by decide) (ca_sbecome hB hs (fun I' J' g1 g2 => ?_)))
        refine Exists.intro s (And.intro hs (And.intro e (al_rk_in (sc_R s hs) ?_)))
        dsimp only [o_iload, o_lload, o_aload, o_istore, o_astore, o_lstore, o_iinc, o_ic, o_lc, o_sc, o_iadd, o_isub, o_imul, o_iand, o_ior, o_ixor, o_ishl, o_ishr, o_ladd, o_lsub, o_land, o_lor, o_lxor, o_lshl, o_lshr, o_i2l, o_l2i, o_lcmp, o_dup, o_dup2, o_pop, o_getI, o_getJ, o_getR, o_putI, o_putZ, o_putJ, o_iald, o_zald, o_lald, o_aald, o_iast, o_zast, o_last, o_alen, o_cpyI, o_cpyJ, o_iret, o_zret, o_lret, o_aret, o_vret, o_idiv, o_irem, o_ineg, o_ifeq, o_ifne, o_iflt, o_ifge, o_ifgt, o_ifle, o_iceq, o_icne, o_iclt, o_icge, o_icgt, o_icle, al_gL, al_sL, al_sJ, al_gd]
        refine al_isC_in (sc_C s hs) ?_
        rw [(g1 s hs).2.1, show (shn S.2.2.2.2.1 s b z).2.1 s = z from ups_s]
        exact p1 I' J' (CI.sheet hC g1 g2) (fun p hp => g2 p (by omega))
      refine b60 _ _ _ _ _ _ (Exists.intro s (And.intro hs (And.intro e (al_rk_in (sc_R s hs) ?_))))
      refine And.intro (fun c3 => b75 _ _ _ _ _ _ (h76 d ?_)) (fun c3 => h76 (nI 0) ?_)
      · rw [if_neg (by rw [nI_0]; exact c3)]
      · rw [if_pos (by rw [nI_0]; exact c3)]
    · exact cx_finding hC (k := 0) (by decide) (by decide +kernel) (k4 s hs e hb (Int32.not_le.mp c2))
    · exact cx_finding hC (k := 6) (by decide) (by decide +kernel) (k3 s hs e hb (by simpa using c))
  refine And.intro (fun c => h36 (Or.inl (by rw [nI_0]; exact c))) (fun c => And.intro (fun c2 => h36 (Or.inr (Or.inl c2))) (fun c2 => And.intro (fun c3 => h36 (Or.inr (Or.inr (Or.inl c3)))) (fun c3 => And.intro (fun c4 => h36 (Or.inr (Or.inr (Or.inr c4)))) (fun c4 => h29 (Or.inr ?_)))))
  rintro (q | q | q | q)
  · exact c (by rw [q, nI_0])
  · exact c2 q
  · exact c3 q
  · exact c4 q
/-- a number as a sheet takes it -/
def fit (w : Int32) (v : Int64) : Int64 := if w = nI 8 then v.toInt32.toInt8.toInt32.toInt64 else if w = nI 16 then v.toInt32.toInt16.toInt32.toInt64 else v
theorem ca_fitted {s : Nat} {v : Int64} {B : SH} {I : II} {J : JJ} {Q : QT} (hB : sht I J B) (hs : s < 4) (kq : Q (some (.long (fit (B.1 s) v))) 90 al_R0 I J) : CT m_X7_fitted 0 [.ref (63 + 2 * s), .long v] 90 al_R0 I J Q := by
  refine r_X7_fitted (by decide) (fun F wk b0 b14 b30 b31 => ?_)
  refine b0 _ _ _ _ _ _ ?_
  dsimp only [k_X7_fitted_0, o_iload, o_lload, o_aload, o_istore, o_astore, o_lstore, o_iinc, o_ic, o_lc, o_sc, o_iadd, o_isub, o_imul, o_iand, o_ior, o_ixor, o_ishl, o_ishr, o_ladd, o_lsub, o_land, o_lor, o_lxor, o_lshl, o_lshr, o_i2l, o_l2i, o_lcmp, o_dup, o_dup2, o_pop, o_getI, o_getJ, o_getR, o_putI, o_putZ, o_putJ, o_iald, o_zald, o_lald, o_aald, o_iast, o_zast, o_last, o_alen, o_cpyI, o_cpyJ, o_iret, o_zret, o_lret, o_aret, o_vret, o_idiv, o_irem, o_ineg, o_ifeq, o_ifne, o_iflt, o_ifge, o_ifgt, o_ifle, o_iceq, o_icne, o_iclt, o_icge, o_icgt, o_icle, al_gL, al_sL, al_sJ, al_gd]
  refine al_isC_in (sc_C s hs) ?_
  rw [(hB s hs).1]
  unfold fit at kq
  refine And.intro (fun c => b14 _ _ _ _ _ _ ?_) (fun c => ?_)
  · rw [if_neg c] at kq
    dsimp only [k_X7_fitted_14, o_iload, o_lload, o_aload, o_istore, o_astore, o_lstore, o_iinc, o_ic, o_lc, o_sc, o_iadd, o_isub, o_imul, o_iand, o_ior, o_ixor, o_ishl, o_ishr, o_ladd, o_lsub, o_land, o_lor, o_lxor, o_lshl, o_lshr, o_i2l, o_l2i, o_lcmp, o_dup, o_dup2, o_pop, o_getI, o_getJ, o_getR, o_putI, o_putZ, o_putJ, o_iald, o_zald, o_lald, o_aald, o_iast, o_zast, o_last, o_alen, o_cpyI, o_cpyJ, o_iret, o_zret, o_lret, o_aret, o_vret, o_idiv, o_irem, o_ineg, o_ifeq, o_ifne, o_iflt, o_ifge, o_ifgt, o_ifle, o_iceq, o_icne, o_iclt, o_icge, o_icgt, o_icle, al_gL, al_sL, al_sJ, al_gd]
    refine al_isC_in (sc_C s hs) ?_
    rw [(hB s hs).1]
    refine And.intro (fun c2 => b30 _ _ _ _ _ _ (b31 _ _ _ _ _ _ ?_)) (fun c2 => b31 _ _ _ _ _ _ ?_)
    · rw [if_neg c2] at kq
      exact kq
    · rw [if_pos c2] at kq
      exact kq
  · rw [if_pos c] at kq
    exact kq
