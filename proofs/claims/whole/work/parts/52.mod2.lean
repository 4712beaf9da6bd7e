/-! THE REFERENCE: counts of squares, corners, rows of numbers -/
theorem ma_manyOf {x : Nat} {c : Nat → Nat} {I : II} {J : JJ} {Q : QT} (hsq : sqr I 75 c) (hcd : cdo c) (hx : x < 100) (kq : Q (some (.int (nI (cnt (fun j => decide (c j = x)) 64)))) 90 al_R0 I J) : CT m_X12_manyOf 0 [.ref 74, .int (nI x)] 90 al_R0 I J Q := by
  refine r_X12_manyOf (by decide) (fun F wk b0 b4 b25 b26 b34 => ?_)
  have loop : ∀ d i : Nat, i + d = 64 → F 4 [some (.ref 74), some (.int (nI x)), some (.int (nI (cnt (fun j => decide (c j = x)) i))), some (.int (nI i))] [] 90 al_R0 I J := by
    intro d
    induction d with
    | zero =>
      intro i hi
      obtain rfl : i = 64 := by omega
      exact b4 _ _ _ _ _ _ (br_t (nI_le (by omega) (by omega)) (b34 _ _ _ _ _ _ kq))
    | succ d ih =>
      intro i hi
      have h9 := ih (i + 1) (by omega)
      have hv := hsq i (by omega)
      have hc9 := hcd i (by omega)
      refine b4 _ _ _ _ _ _ (br_f (nI_ge (by omega) (by omega)) (Exists.intro i (And.intro (by omega) (And.intro rfl (And.intro (fun c2 => b25 _ _ _ _ _ _ (b26 _ _ _ _ _ _ ?_)) (fun c2 => b26 _ _ _ _ _ _ ?_))))))
      · rw [hv, nI_eq (by omega) (by omega)] at c2
        rw [cnt_no (by simp [c2]), nI_s i] at h9
        dsimp only [k_X12_manyOf_26, o_iload, o_lload, o_aload, o_istore, o_astore, o_lstore, o_iinc, o_ic, o_lc, o_sc, o_iadd, o_isub, o_imul, o_iand, o_ior, o_ixor, o_ishl, o_ishr, o_ladd, o_lsub, o_land, o_lor, o_lxor, o_lshl, o_lshr, o_i2l, o_l2i, o_lcmp, o_dup, o_dup2, o_pop, o_getI, o_getJ, o_getR, o_putI, o_putZ, o_putJ, o_iald, o_zald, o_lald, o_aald, o_iast, o_zast, o_last, o_alen, o_cpyI, o_cpyJ, o_iret, o_zret, o_lret, o_aret, o_vret, o_idiv, o_irem, o_ineg, o_ifeq, o_ifne, o_iflt, o_ifge, o_ifgt, o_ifle, o_iceq, o_icne, o_iclt, o_icge, o_icgt, o_icle, al_gL, al_sL, al_sJ, al_gd]
        rw [nI_add, Nat.add_zero]
        exact h9
      · rw [hv, nI_eq (by omega) (by omega)] at c2
        rw [cnt_yes (by simp [c2]), nI_s i, nI_s (cnt _ i)] at h9
        exact h9
  exact b0 _ _ _ _ _ _ (loop 64 0 rfl)
theorem cor_le {c : Nat → Nat} {h p : Nat} (e : nI (shp c h p) ≤ 0) : cor c h p = false := by
  have := shp_lt c h p
  rw [← nI_0, nI_leI (by omega) (by omega)] at e
  simp [cor]; omega
theorem cor_gt {c : Nat → Nat} {h p : Nat} (e : ¬ nI (shp c h p) ≤ 0) : cor c h p = true := by
  have := shp_lt c h p
  rw [← nI_0, nI_leI (by omega) (by omega)] at e
  simp [cor]; omega
theorem ma_cornersOf {h : Nat} {c : Nat → Nat} {I : II} {J : JJ} {Q : QT} (hsq : sqr I 75 c) (hcd : cdo c) (hh : h < 6) (kq : Q (some (.int (nI (cnt (cor c h) 81)))) 90 al_R0 I J) : CT m_X12_cornersOf 0 [.ref 74, .int (nI h)] 90 al_R0 I J Q := by
  refine r_X12_cornersOf (by decide) (fun F wk b0 b4 b24 b25 b33 => ?_)
  have loop : ∀ d i : Nat, i + d = 81 → F 4 [some (.ref 74), some (.int (nI h)), some (.int (nI (cnt (cor c h) i))), some (.int (nI i))] [] 90 al_R0 I J := by
    intro d
    induction d with
    | zero =>
      intro i hi
      obtain rfl : i = 81 := by omega
      exact b4 _ _ _ _ _ _ (br_t (nI_le (by omega) (by omega)) (b33 _ _ _ _ _ _ kq))
    | succ d ih =>
      intro i hi
      have h9 := ih (i + 1) (by omega)
      refine b4 _ _ _ _ _ _ (br_f (nI_ge (by omega) (by omega)) (ma_cornerOf hsq hcd hh (by omega) (And.intro (fun c2 => b24 _ _ _ _ _ _ (b25 _ _ _ _ _ _ ?_)) (fun c2 => b25 _ _ _ _ _ _ ?_))))
      · rw [cnt_no (cor_le c2), nI_s i] at h9
        dsimp only [k_X12_cornersOf_25, o_iload, o_lload, o_aload, o_istore, o_astore, o_lstore, o_iinc, o_ic, o_lc, o_sc, o_iadd, o_isub, o_imul, o_iand, o_ior, o_ixor, o_ishl, o_ishr, o_ladd, o_lsub, o_land, o_lor, o_lxor, o_lshl, o_lshr, o_i2l, o_l2i, o_lcmp, o_dup, o_dup2, o_pop, o_getI, o_getJ, o_getR, o_putI, o_putZ, o_putJ, o_iald, o_zald, o_lald, o_aald, o_iast, o_zast, o_last, o_alen, o_cpyI, o_cpyJ, o_iret, o_zret, o_lret, o_aret, o_vret, o_idiv, o_irem, o_ineg, o_ifeq, o_ifne, o_iflt, o_ifge, o_ifgt, o_ifle, o_iceq, o_icne, o_iclt, o_icge, o_icgt, o_icle, al_gL, al_sL, al_sJ, al_gd]
        rw [nI_add, Nat.add_zero]
        exact h9
      · rw [cnt_yes (cor_gt c2), nI_s i, nI_s (cnt _ i)] at h9
        exact h9
  exact b0 _ _ _ _ _ _ (loop 81 0 rfl)
theorem ma_ithOf {h m : Nat} {c : Nat → Nat} {I : II} {J : JJ} {Q : QT} (hsq : sqr I 75 c) (hcd : cdo c) (hh : h < 6) (hm : m < 2 ^ 31) (kq : Q (some (.int (if ithc c h m < 81 then nI (ithc c h m) else -1))) 90 al_R0 I J) : CT m_X12_ithOf 0 [.ref 74, .int (nI h), .int (nI m)] 90 al_R0 I J Q := by
  refine r_X12_ithOf (by decide) (fun F wk b0 b5 b30 b33 b39 => ?_)
  have loop : ∀ d i n : Nat, i + d = 81 → n ≤ m → ithc c h m = ithp (cor c h) (m - n) i d → F 5 [some (.ref 74), some (.int (nI h)), some (.int (nI m)), some (.int (nI n)), some (.int (nI i))] [] 90 al_R0 I J := by
    intro d
    induction d with
    | zero =>
      intro i n hi hn he
      obtain rfl : i = 81 := by omega
      have e1 : ithc c h m = 81 := he
      rw [e1, if_neg (by omega)] at kq
      exact b5 _ _ _ _ _ _ (br_t (nI_le (by omega) (by omega)) (b39 _ _ _ _ _ _ kq))
    | succ d ih =>
      intro i n hi hn he
      rw [ithp] at he
      refine b5 _ _ _ _ _ _ (br_f (nI_ge (by omega) (by omega)) (ma_cornerOf hsq hcd hh (by omega) (And.intro (fun c2 => ?_) (fun c2 => And.intro (fun c3 => ?_) (fun c3 => ?_)))))
      · rw [if_neg (by rw [cor_le c2]; decide)] at he
        have h9 := ih (i + 1) n (by omega) hn he
        rw [nI_s i] at h9
        exact b33 _ _ _ _ _ _ h9
      · rw [nI_eq (by omega) (by omega)] at c3
        rw [if_pos (cor_gt c2), if_neg (by omega)] at he
        have h9 := ih (i + 1) (n + 1) (by omega) (by omega) (by rw [he, show m - n - 1 = m - (n + 1) by omega])
        rw [nI_s i, nI_s n] at h9
        exact b30 _ _ _ _ _ _ (b33 _ _ _ _ _ _ h9)
      · rw [nI_eq (by omega) (by omega)] at c3
        rw [if_pos (cor_gt c2), if_pos (by omega)] at he
        rw [he, if_pos (by omega)] at kq
        exact kq
  exact b0 _ _ _ _ _ _ (loop 81 0 0 rfl (by omega) rfl)
theorem ma_houseIs {h f : Nat} {T : TW} {I : II} {J : JJ} {Q : QT} (hT : MTn 75 T I) (hh : h < 6) (hf : f < 5) (kq : Q (some (.int (T.2.2.1 h f))) 90 al_R0 I J) : CT m_X12_houseIs 0 [.ref 74, .int (nI h), .int (nI f)] 90 al_R0 I J Q := by
  refine r_X12_houseIs (by decide) (fun F wk b0 => ?_)
  refine b0 _ _ _ _ _ _ (Exists.intro (64 + 5 * h + f) (And.intro (by omega) (And.intro (by rw [pk_mul, nI_add, nI_add]) ?_)))
  rw [← hT.2.1 h hh f hf] at kq
  exact kq
theorem ma_become {i : Nat} {a v : Int32} {I : II} {J : JJ} {Q : QT} (ha : a = nI i) (hi : i < 143) (kq : Q (some (.int (I 75 i))) 90 al_R0 (al_up I 75 i v) J) : CT m_X12_become 0 [.ref 74, .int a, .int v] 90 al_R0 I J Q := by
  refine r_X12_become (by decide) (fun F wk b0 => ?_)
  exact b0 _ _ _ _ _ _ (Exists.intro i (And.intro hi (And.intro ha (Exists.intro i (And.intro hi (And.intro ha kq))))))
/-- the row of numbers, one of them changed -/
theorem MTn.lay {T : TW} {I : II} {q x : Nat} (hT : MTn 75 T I) (hq : q < 64) : MTn 75 (ups T.1 q x, T.2) (al_up I 75 q (nI x)) := by
  obtain ⟨h1, h2, h3, h4⟩ := hT
  refine ⟨fun j hj => ?_, fun h hh f hf => by rw [al_up_j (by omega)]; exact h2 h hh f hf, fun h hh k hk => by rw [al_up_j (by omega)]; exact h3 h hh k hk, by rw [al_up_j (by omega)]; exact h4⟩
  show _ = nI (ups T.1 q x j)
  by_cases e : j = q
  · subst e; rw [al_up_s, ups_s]
  · rw [al_up_j e, ups_n e]; exact h1 j hj
theorem MTn.setf {T : TW} {I : II} {h f : Nat} {v : Int32} (hT : MTn 75 T I) (hh : h < 6) (hf : f < 5) : MTn 75 (setf T h f v) (al_up I 75 (64 + 5 * h + f) v) := by
  obtain ⟨h1, h2, h3, h4⟩ := hT
  refine ⟨fun j hj => by rw [al_up_j (by omega)]; exact h1 j hj, fun g hg e he => ?_, fun g hg k hk => by rw [al_up_j (by omega)]; exact h3 g hg k hk, by rw [al_up_j (by omega)]; exact h4⟩
  show _ = al_up T.2.2.1 h f v g e
  by_cases q : g = h
  · subst q
    by_cases q2 : e = f
    · subst q2; rw [al_up_s, al_up_s]
    · rw [al_up_j (by omega), al_up_j q2]; exact h2 g hg e he
  · rw [al_up_j (by omega), al_up_p q]; exact h2 g hg e he
theorem MTn.rdd {T : TW} {I : II} {h p : Nat} (hT : MTn 75 T I) (hh : h < 6) (hr : rcN T h < 8) : MTn 75 (rdd T h p) (al_up (al_up I 75 (94 + 8 * h + rcN T h) (nI p)) 75 (64 + 5 * h + 4) (nI (rcN T h + 1))) := by
  obtain ⟨h1, h2, h3, h4⟩ := hT
  refine ⟨fun j hj => by rw [al_up_j (by omega), al_up_j (by omega)]; exact h1 j hj, fun g hg e he => ?_, fun g hg k hk => ?_, by rw [al_up_j (by omega), al_up_j (by omega)]; exact h4⟩
  · show _ = al_up T.2.2.1 h 4 (nI (rcN T h + 1)) g e
    by_cases q : g = h
    · subst q
      by_cases q2 : e = 4
      · subst q2; rw [al_up_s, al_up_s]
      · rw [al_up_j (by omega), al_up_j (by omega), al_up_j q2]; exact h2 g hg e he
    · rw [al_up_j (by omega), al_up_j (by omega), al_up_p q]; exact h2 g hg e he
  · show _ = al_up T.2.2.2 h (rcN T h) (nI p) g k
    rw [al_up_j (by omega)]
    by_cases q : g = h
    · subst q
      by_cases q2 : k = rcN T g
      · rw [q2, al_up_s, al_up_s]
      · rw [al_up_j (by omega), al_up_j q2]; exact h3 g hg k hk
    · rw [al_up_j (by omega), al_up_p q]; exact h3 g hg k hk
theorem ma_founded {kd rt : Int32} {T : TW} {I : II} {J : JJ} {Q : QT} (hT : MTn 75 T I) (hn : T.2.1 < 6) (kq : ∀ I' : II, MTn 75 (bld T kd rt) I' → (∀ p, p ≠ 75 → I' p = I p) → (∀ j, j < 64 → I' 75 j = I 75 j) → Q (some (.int (nI T.2.1))) 90 al_R0 I' J) : CT m_X12_founded 0 [.ref 74, .int kd, .int rt] 90 al_R0 I J Q := by
  refine r_X12_founded (by decide) (fun F wk b0 => ?_)
  have h142 := hT.2.2.2
  have e : ∀ f, (nI 64 + nI 5 * I 75 142) + nI f = nI (64 + 5 * T.2.1 + f) := fun f => by rw [h142, pk_mul, nI_add, nI_add]
  refine b0 _ _ _ _ _ _ (Exists.intro 142 (And.intro (by decide) (And.intro rfl ?_)))
  refine Exists.intro (64 + 5 * T.2.1 + 0) (And.intro (by omega) (And.intro (e 0) ?_))
  refine Exists.intro (64 + 5 * T.2.1 + 1) (And.intro (by omega) (And.intro (e 1) ?_))
  refine Exists.intro (64 + 5 * T.2.1 + 2) (And.intro (by omega) (And.intro (e 2) ?_))
  refine Exists.intro (64 + 5 * T.2.1 + 3) (And.intro (by omega) (And.intro (e 3) ?_))
  refine Exists.intro (64 + 5 * T.2.1 + 4) (And.intro (by omega) (And.intro (e 4) ?_))
  refine Exists.intro 142 (And.intro (by decide) (And.intro rfl (Exists.intro 142 (And.intro (by decide) (And.intro rfl ?_)))))
  rw [← h142] at kq
  obtain ⟨h1, h2, h3, h4⟩ := hT
  refine kq _ ⟨fun j hj => ?_, fun g hg f hf => ?_, fun g hg k hk => ?_, ?_⟩ (fun p hp => ?_) (fun j hj => ?_)
  · rw [al_up_j (by omega), al_up_j (by omega), al_up_j (by omega), al_up_j (by omega), al_up_j (by omega), al_up_j (by omega)]
    exact h1 j hj
  · rw [al_up_j (by omega)]
    show _ = if g = T.2.1 then (if f = 0 then kd else if f = 1 then rt else nI 0) else T.2.2.1 g f
    by_cases q : g = T.2.1
    · subst q
      rw [if_pos rfl]
      rcases (show f = 0 ∨ f = 1 ∨ f = 2 ∨ f = 3 ∨ f = 4 by omega) with rfl | rfl | rfl | rfl | rfl <;> simp [al_up]
    · rw [if_neg q, al_up_j (by omega), al_up_j (by omega), al_up_j (by omega), al_up_j (by omega), al_up_j (by omega)]
      exact h2 g hg f hf
  · rw [al_up_j (by omega), al_up_j (by omega), al_up_j (by omega), al_up_j (by omega), al_up_j (by omega), al_up_j (by omega)]
    exact h3 g hg k hk
  · rw [al_up_s, al_up_j (by omega), al_up_j (by omega), al_up_j (by omega), al_up_j (by omega), al_up_j (by omega), h4]
    exact (nI_s _).symm
  · rw [al_up_row hp, al_up_row hp, al_up_row hp, al_up_row hp, al_up_row hp, al_up_row hp]
  · rw [al_up_j (by omega), al_up_j (by omega), al_up_j (by omega), al_up_j (by omega), al_up_j (by omega), al_up_j (by omega)]
theorem ma_rounds {h : Nat} {p : Int32} {T : TW} {I : II} {J : JJ} {Q : QT} (hT : MTn 75 T I) (hh : h < 6) (hr : rcN T h < 8) (hr2 : T.2.2.1 h 4 = nI (rcN T h)) (kq : Q none 90 al_R0 (al_up (al_up I 75 (94 + 8 * h + rcN T h) p) 75 (64 + 5 * h + 4) (nI (rcN T h + 1))) J) : CT m_X12_rounds 0 [.ref 74, .int (nI h), .int p] 90 al_R0 I J Q := by
  have h4 : I 75 (64 + 5 * h + 4) = nI (rcN T h) := by rw [hT.2.1 h hh 4 (by omega), hr2]
  refine r_X12_rounds (by decide) (fun F wk b0 => ?_)
  have e : (nI 64 + nI 5 * nI h) + nI 4 = nI (64 + 5 * h + 4) := by rw [pk_mul, nI_add, nI_add]
  refine b0 _ _ _ _ _ _ (Exists.intro (64 + 5 * h + 4) (And.intro (by omega) (And.intro e ?_)))
  refine Exists.intro (94 + 8 * h + rcN T h) (And.intro (by omega) (And.intro (by rw [h4, pk_mul, nI_add, nI_add]) ?_))
  refine Exists.intro (64 + 5 * h + 4) (And.intro (by omega) (And.intro e (Exists.intro (64 + 5 * h + 4) (And.intro (by omega) (And.intro e ?_)))))
  rw [al_up_j (show 64 + 5 * h + 4 ≠ 94 + 8 * h + rcN T h by omega), h4, ← nI_s]
  exact kq
theorem ma_isRounded {h p : Nat} {T : TW} {I : II} {J : JJ} {Q : QT} (hT : MTn 75 T I) (hh : h < 6) (hr : rcN T h ≤ 8) (hr2 : T.2.2.1 h 4 = nI (rcN T h)) (kq : Q (some (.int (nI (rnd T h p).toNat))) 90 al_R0 I J) : CT m_X12_isRounded 0 [.ref 74, .int (nI h), .int (nI p)] 90 al_R0 I J Q := by
  refine r_X12_isRounded (by decide) (fun F wk b0 b5 b39 b43 b44 b51 => ?_)
  have loop : ∀ d i : Nat, i + d = rcN T h → F 5 [some (.ref 74), some (.int (nI h)), some (.int (nI p)), some (.int (nI (anyb (fun j => decide (T.2.2.2 h j = nI p)) i).toNat)), some (.int (nI i))] [] 90 al_R0 I J := by
    intro d
    induction d with
    | zero =>
      intro i hi
      refine b5 _ _ _ _ _ _ (ma_houseIs (f := 4) hT hh (by omega) ?_)
      rw [hr2]
      refine br_t (nI_le (by omega) (by omega)) (b51 _ _ _ _ _ _ (And.intro ?_ ?_))
      · rcases i_bit (anyb (fun j => decide (T.2.2.2 h j = nI p)) i) with q | q
        · exact Or.inl q
        · exact Or.inr q
      · unfold rnd at kq
        rw [show rcN T h = i by omega] at kq
        exact kq
    | succ d ih =>
      intro i hi
      have h9 := ih (i + 1) (by omega)
      rw [anyb, nI_s i] at h9
      refine b5 _ _ _ _ _ _ (ma_houseIs (f := 4) hT hh (by omega) ?_)
      rw [hr2]
      refine br_f (nI_ge (by omega) (by omega)) (And.intro (fun c => b39 _ _ _ _ _ _ (b44 _ _ _ _ _ _ ?_)) (fun c => ?_))
      · rw [bz_t c, Bool.true_or] at h9
        rw [bz_t c]
        exact h9
      · rw [bz_f c, Bool.false_or] at h9
        refine Exists.intro (94 + 8 * h + i) (And.intro (by omega) (And.intro (by rw [pk_mul, nI_add, nI_add]) ?_))
        have e1 : I 75 (94 + 8 * h + i) = T.2.2.2 h i := hT.2.2.1 h hh i (by omega)
        refine And.intro (fun c2 => b43 _ _ _ _ _ _ (b44 _ _ _ _ _ _ ?_)) (fun c2 => b39 _ _ _ _ _ _ (b44 _ _ _ _ _ _ ?_))
        · rw [e1] at c2
          rw [decide_eq_false c2] at h9
          exact h9
        · rw [e1] at c2
          rw [decide_eq_true c2] at h9
          exact h9
  exact b0 _ _ _ _ _ _ (loop (rcN T h) 0 (by omega))
theorem or_0 (x : Int32) : x ||| nI 0 = x := by rw [nI_0]; exact Int32.or_zero
theorem ma_whoseIs {p nh : Nat} {c : Nat → Nat} {I : II} {J : JJ} {Q : QT} (hsq : sqr I 75 c) (hcd : cdo c) (hp : p < 81) (hn : nh ≤ 6) (hI : I 75 142 = nI nh) (kq : Q (some (.int (orb (fun h => cor c h p) nh))) 90 al_R0 I J) : CT m_X12_whoseIs 0 [.ref 74, .int (nI p)] 90 al_R0 I J Q := by
  refine r_X12_whoseIs (by decide) (fun F wk b0 b4 b32 b33 b41 => ?_)
  have loop : ∀ d i : Nat, i + d = nh → F 4 [some (.ref 74), some (.int (nI p)), some (.int (orb (fun h => cor c h p) i)), some (.int (nI i))] [] 90 al_R0 I J := by
    intro d
    induction d with
    | zero =>
      intro i hi
      obtain rfl : i = nh := by omega
      exact b4 _ _ _ _ _ _ (Exists.intro 142 (And.intro (by decide) (And.intro rfl (br_t (by rw [hI]; exact nI_le (by omega) (by omega)) (b41 _ _ _ _ _ _ kq)))))
    | succ d ih =>
      intro i hi
      have h9 := ih (i + 1) (by omega)
      refine b4 _ _ _ _ _ _ (Exists.intro 142 (And.intro (by decide) (And.intro rfl (br_f (by rw [hI]; exact nI_ge (by omega) (by omega)) (ma_cornerOf hsq hcd (by omega) hp (And.intro (fun c2 => b32 _ _ _ _ _ _ (b33 _ _ _ _ _ _ ?_)) (fun c2 => b33 _ _ _ _ _ _ ?_)))))))
      · rw [orb_no (P := fun h => cor c h p) (n := i) (cor_le c2), nI_s i] at h9
        dsimp only [k_X12_whoseIs_33, o_iload, o_lload, o_aload, o_istore, o_astore, o_lstore, o_iinc, o_ic, o_lc, o_sc, o_iadd, o_isub, o_imul, o_iand, o_ior, o_ixor, o_ishl, o_ishr, o_ladd, o_lsub, o_land, o_lor, o_lxor, o_lshl, o_lshr, o_i2l, o_l2i, o_lcmp, o_dup, o_dup2, o_pop, o_getI, o_getJ, o_getR, o_putI, o_putZ, o_putJ, o_iald, o_zald, o_lald, o_aald, o_iast, o_zast, o_last, o_alen, o_cpyI, o_cpyJ, o_iret, o_zret, o_lret, o_aret, o_vret, o_idiv, o_irem, o_ineg, o_ifeq, o_ifne, o_iflt, o_ifge, o_ifgt, o_ifle, o_iceq, o_icne, o_iclt, o_icge, o_icgt, o_icle, al_gL, al_sL, al_sJ, al_gd]
        rw [or_0]
        exact h9
      · rw [orb_yes (P := fun h => cor c h p) (n := i) (cor_gt c2), nI_s i] at h9
        exact h9
  exact b0 _ _ _ _ _ _ (loop nh 0 (by omega))
