/-! PUBLIC CALLS OF THE CLASS: squares, houses, corners -/
theorem CI.town {S : SG} {T' : TW} {I I' : II} {J J' : JJ} (h : CI S I J) (hT : CTn 8 T' I' J') (h39 : ∀ p, p < 81 → I' 39 p = -1) (h38 : I' 38 7 = -1) (hk : ∀ p, ¬ (8 ≤ p ∧ p < 23) → p ≠ 38 → p ≠ 39 → I' p = I p ∧ J' p = J p) : CI (sT S T') I' J' := by
  obtain ⟨h1, h2, h3, h4, h5, h6, h7, h8⟩ := h
  exact ⟨hT, fun p hp => Or.inl (h39 p hp), Or.inl h38, h4.keep (hk 72 (by omega) (by omega) (by omega)).1 (hk 73 (by omega) (by omega) (by omega)).1, h5.keep (hk 0 (by omega) (by omega) (by omega)).1 (fun p q1 q2 => hk p (by omega) (by omega) (by omega)), h6.keep (hk 45 (by omega) (by omega) (by omega)).1 (hk 61 (by omega) (by omega) (by omega)).1, h7.keep (fun p q1 q2 => hk p (by omega) (by omega) (by omega)), h8.keep (hk 71 (by omega) (by omega) (by omega)).1⟩
theorem CI.same {S : SG} {T' : TW} {I I' : II} {J J' : JJ} (h : CI S I J) (hc : T'.1 = S.1.1) (hT : CTn 8 T' I' J') (hk : ∀ p, ¬ (8 ≤ p ∧ p < 23) → I' p = I p ∧ J' p = J p) : CI (sT S T') I' J' := by
  obtain ⟨h1, h2, h3, h4, h5, h6, h7, h8⟩ := h
  refine ⟨hT, ?_, ?_, h4.keep (hk 72 (by omega)).1 (hk 73 (by omega)).1, h5.keep (hk 0 (by omega)).1 (fun p q1 q2 => hk p (by omega)), h6.keep (hk 45 (by omega)).1 (hk 61 (by omega)).1, h7.keep (fun p q1 q2 => hk p (by omega)), h8.keep (hk 71 (by omega)).1⟩
  · show scc I' T'.1
    rw [hc]
    exact h2.keep (hk 39 (by omega)).1
  · show trc I' T'.1
    rw [hc]
    exact h3.keep (hk 38 (by omega)).1 (hk 44 (by omega)).1
theorem CTn.lay {T : TW} {I : II} {J : JJ} {q x : Nat} {s w : Int64} (h : CTn 8 T I J) (hm : mks s w (ups T.1 q x)) : CTn 8 (ups T.1 q x, T.2) (al_up I 9 q (nI x)) (al_up (al_up J 8 4 s) 8 5 w) := by
  obtain ⟨h1, h2, h3, h4, h5⟩ := h
  refine ⟨by rw [al_up_p (by decide)]; exact h1, fun j hj => ?_, ?_, fun h hh f hf => by rw [al_up_p (by omega)]; exact h4 h hh f hf, fun h hh k hk => by rw [al_up_p (by omega)]; exact h5 h hh k hk⟩
  · show al_up I 9 q (nI x) 9 j = nI (ups T.1 q x j)
    by_cases e : j = q
    · subst e; rw [al_up_s, ups_s]
    · rw [al_up_j e, ups_n e]; exact h2 j hj
  · rw [al_up_j (by decide), al_up_s, al_up_s]
    exact hm
theorem X_square {a b : Int32} {S : SG} {I : II} {J : JJ} {Q : QT} (hC : CI S I J) (hV : VS S) (k1 : ∀ q x, q < 64 → vok S.1.2.1 x → a = nI q → b = nI x → PX I J Q (sT S (ups S.1.1 q x, S.1.2)) (.int (nI (S.1.1 q)))) (k2 : (ing 64 a ∨ ∀ x, vok S.1.2.1 x → ¬ b = nI x) → PX I J Q (fnd 0 S) (.int (-1000000001))) : CT m_X11_square 0 [.ref 0, .int a, .int b] 90 al_R0 I J Q := by
  refine r_X11_square (by decide) (fun F wk b0 b18 b25 => ?_)
  have h18 : (ing 64 a ∨ ∀ x, vok S.1.2.1 x → ¬ b = nI x) → F 18 [some (.ref 0), some (.int a), some (.int b), none] [] 90 al_R0 I J := fun h => b18 _ _ _ _ _ _ (cx_finding hC (k := 0) (by decide) (by decide +kernel) (k2 h))
  refine b0 _ _ _ _ _ _ (cx_isSquare (fun q hq e => br_f (by decide +kernel) (ca_mayBe hV.1.1 hC.1.1 (fun x hx e2 => br_u (by decide +kernel) ?_) (fun hn => br_v nI_0 (h18 (Or.inr hn))))) (fun hn => br_t nI_0 (h18 (Or.inl hn))))
  have h9 := k1 q x hq hx e e2
  subst e e2
  have hx16 : x < 16 := by have := hV.1.1; unfold vok at hx; omega
  refine b25 _ _ _ _ _ _ (Exists.intro q (And.intro hq (And.intro rfl ?_)))
  rw [hC.1.2.1 q hq]
  refine ca_lay hq hx16 hC.1.2.2.1 (fun s w hm => ca_forget (fun I' g1 g2 g3 => ?_))
  have hT := CTn.lay hC.1 hm
  refine h9 I' _ (CI.town hC (hT.keep (fun p q1 q2 => ⟨g1 p (by omega) (by omega), rfl⟩)) g2 g3 (fun p q1 q2 q3 => ⟨by rw [g1 p q3 q2, al_up_row (by omega)], by rw [al_up_row (by omega), al_up_row (by omega)]⟩)) (fun p hp => ⟨by rw [g1 p (by omega) (by omega), al_up_row (by omega)], by rw [al_up_row (by omega), al_up_row (by omega)]⟩)
theorem X_at {a : Int32} {S : SG} {I : II} {J : JJ} {Q : QT} (hC : CI S I J) (k1 : ∀ q, q < 64 → a = nI q → PX I J Q S (.int (nI (S.1.1 q)))) (k2 : ing 64 a → PX I J Q (fnd 0 S) (.int (-1000000001))) : CT m_X11_at 0 [.ref 0, .int a] 90 al_R0 I J Q := by
  refine r_X11_at (by decide) (fun F wk b0 b14 => ?_)
  refine b0 _ _ _ _ _ _ (cx_isSquare (fun q hq e => br_u (by decide +kernel) (b14 _ _ _ _ _ _ (Exists.intro q (And.intro hq (And.intro e ?_))))) (fun hn => br_v nI_0 (cx_finding hC (k := 0) (by decide) (by decide +kernel) (k2 hn))))
  rw [show I 9 q = I (8 + 1) q from rfl, hC.1.2.1 q hq]
  exact k1 q hq e I J hC (f74.rf I J)
/-- a new house -/
def bld (T : TW) (kd rt : Int32) : TW := (T.1, T.2.1 + 1, fun h f => if h = T.2.1 then (if f = 0 then kd else if f = 1 then rt else nI 0) else T.2.2.1 h f, T.2.2.2)
theorem ca_build {kd rt : Int32} {T : TW} {I : II} {J : JJ} {Q : QT} (hT : CTn 8 T I J) (hn : T.2.1 < 6) (kq : ∀ I' : II, CTn 8 (bld T kd rt) I' J → (∀ p, ¬ (8 ≤ p ∧ p < 23) → I' p = I p) → Q (some (.int (nI T.2.1))) 90 al_R0 I' J) : CT m_X9_build 0 [.ref 8, .int kd, .int rt] 90 al_R0 I J Q := by
  refine r_X9_build (by decide) (fun F wk b0 b32 => ?_)
  refine b0 _ _ _ _ _ _ (br_f (by rw [hT.1]; exact nI_ge (by omega) (by omega)) (Exists.intro T.2.1 (And.intro hn (And.intro hT.1 ?_))))
  refine al_rk_in (tb_hO tb8 hn) ?_
  dsimp only [o_iload, o_lload, o_aload, o_istore, o_astore, o_lstore, o_iinc, o_ic, o_lc, o_sc, o_iadd, o_isub, o_imul, o_iand, o_ior, o_ixor, o_ishl, o_ishr, o_ladd, o_lsub, o_land, o_lor, o_lxor, o_lshl, o_lshr, o_i2l, o_l2i, o_lcmp, o_dup, o_dup2, o_pop, o_getI, o_getJ, o_getR, o_putI, o_putZ, o_putJ, o_iald, o_zald, o_lald, o_aald, o_iast, o_zast, o_last, o_alen, o_cpyI, o_cpyJ, o_iret, o_zret, o_lret, o_aret, o_vret, o_idiv, o_irem, o_ineg, o_ifeq, o_ifne, o_iflt, o_ifge, o_ifgt, o_ifle, o_iceq, o_icne, o_iclt, o_icge, o_icgt, o_icle, al_gL, al_sL, al_sJ, al_gd, o_cV, al_pop, al_hd]
  refine al_isC_in (tb_hC tb8 hn) (al_r8_in (by decide) (ca_begin tb8 hn ?_))
  rw [← hT.1] at kq
  refine b32 _ _ _ _ _ _ (kq _ ?_ ?_)
  · obtain ⟨h1, h2, h3, h4, h5⟩ := hT
    refine ⟨?_, fun j hj => ?_, h3, fun h hh f hf => ?_, fun h hh k hk => ?_⟩
    · rw [al_up_s]
      rw [al_up_p (by omega), al_up_p (by omega), al_up_p (by omega), al_up_p (by omega), al_up_p (by omega), h1]
      exact (nI_s _).symm
    · rw [al_up_p (by omega), al_up_p (by omega), al_up_p (by omega), al_up_p (by omega), al_up_p (by omega), al_up_p (by omega)]
      exact h2 j hj
    · rw [al_up_p (by omega)]
      show _ = if h = T.2.1 then (if f = 0 then kd else if f = 1 then rt else nI 0) else T.2.2.1 h f
      by_cases e : h = T.2.1
      · subst e
        rw [if_pos rfl]
        rcases (show f = 0 ∨ f = 1 ∨ f = 2 ∨ f = 3 ∨ f = 4 by omega) with rfl | rfl | rfl | rfl | rfl <;> simp [fi, al_up]
      · rw [if_neg e, al_up_p (by omega), al_up_p (by omega), al_up_p (by omega), al_up_p (by omega), al_up_p (by omega)]
        exact h4 h hh f hf
    · rw [al_up_p (by omega), al_up_p (by omega), al_up_p (by omega), al_up_p (by omega), al_up_p (by omega), al_up_p (by omega)]
      exact h5 h hh k hk
  · intro p hp
    rw [al_up_row (by omega), al_up_row (by omega), al_up_row (by omega), al_up_row (by omega), al_up_row (by omega), al_up_row (by omega)]
theorem X_house {a b : Int32} {S : SG} {I : II} {J : JJ} {Q : QT} (hC : CI S I J) (hV : VS S) (k1 : ∀ k r, k < 6 → 1 ≤ r → r ≤ 99 → a = nI k → b = nI r → S.1.2.1 < 6 → PX I J Q (sT S (bld S.1 a b)) (.int (nI S.1.2.1))) (k2 : (ing 6 a ∨ ∀ r, 1 ≤ r → r ≤ 99 → ¬ b = nI r) → PX I J Q (fnd 0 S) (.int (-1000000001))) (k3 : ∀ k r, k < 6 → 1 ≤ r → r ≤ 99 → a = nI k → b = nI r → S.1.2.1 = 6 → PX I J Q (fnd 1 S) (.int (-1000000002))) : CT m_X11_house 0 [.ref 0, .int a, .int b] 90 al_R0 I J Q := by
  have h6 := hV.1.1
  refine r_X11_house (by decide) (fun F wk b0 b14 b21 b40 => ?_)
  have h14 : (ing 6 a ∨ ∀ r, 1 ≤ r → r ≤ 99 → ¬ b = nI r) → F 14 [some (.ref 0), some (.int a), some (.int b)] [] 90 al_R0 I J := fun h => b14 _ _ _ _ _ _ (cx_finding hC (k := 0) (by decide) (by decide +kernel) (k2 h))
  refine b0 _ _ _ _ _ _ (cx_isKind (fun k hk e => br_f (by decide +kernel) (cx_isRate (fun r r1 r2 e2 => br_u (by decide +kernel) (b21 _ _ _ _ _ _ ?_)) (fun hn => br_v nI_0 (h14 (Or.inr hn))))) (fun hn => br_t nI_0 (h14 (Or.inl hn))))
  refine And.intro (fun c1 => ?_) (fun c1 => ?_)
  · rw [hC.1.1, nI_ltI (by omega) (by omega)] at c1
    refine b40 _ _ _ _ _ _ (ca_build hC.1 c1 (fun I' g1 g2 => ?_))
    exact k1 k r hk r1 r2 e e2 c1 I' J (CI.same hC rfl g1 (fun p hp => ⟨g2 p hp, rfl⟩)) (fun p hp => ⟨g2 p (by omega), rfl⟩)
  · rw [hC.1.1, nI_ltI (by omega) (by omega)] at c1
    exact cx_finding hC (k := 1) (by decide) (by decide +kernel) (k3 k r hk r1 r2 e e2 (by omega))
