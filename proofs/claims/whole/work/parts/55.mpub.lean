/-! THE REFERENCE'S CALLS, as the class's (32-33) -/
theorem n10 : ¬ nI 1 = 0 := by decide +kernel
theorem ing_or (N : Nat) (hN : N < 2 ^ 31) (a : Int32) : ing N a ∨ ∃ q, q < N ∧ a = nI q := by
  by_cases h : ∃ q, q < N ∧ a = nI q
  · exact Or.inr h
  · exact Or.inl (fun q hq e => h ⟨q, hq, e⟩)
theorem out_of {a : Int32} {lo hi : Nat} (h : ∀ r, lo ≤ r → r ≤ hi → ¬ a = nI r) (hh : hi < 2 ^ 31) : a.toInt < lo ∨ (hi : Int) < a.toInt := by
  by_cases q : a.toInt < lo
  · exact Or.inl q
  · by_cases w : (hi : Int) < a.toInt
    · exact Or.inr w
    · exact absurd (i_of (n := a.toInt.toNat) (by omega) (by omega)) (h a.toInt.toNat (by omega) (by omega))
theorem mi_t {v lo hi : Nat} {R : RR} {I : II} {J : JJ} {Q : QT} (hh : hi < 2 ^ 31) (h1 : lo ≤ v) (h2 : v ≤ hi) (kq : Q (some (.int (nI 1))) 90 R I J) : CT m_X12_within 0 [.int (nI v), .int (nI lo), .int (nI hi)] 90 R I J Q := mw_t (by rw [nT (by omega), nT (by omega)]; omega) (by rw [nT (by omega), nT (by omega)]; omega) kq
theorem mi_f {a : Int32} {lo hi : Nat} {R : RR} {I : II} {J : JJ} {Q : QT} (hh : hi < 2 ^ 31) (hl : lo ≤ hi) (h : ∀ r, lo ≤ r → r ≤ hi → ¬ a = nI r) (kq : Q (some (.int (nI 0))) 90 R I J) : CT m_X12_within 0 [.int a, .int (nI lo), .int (nI hi)] 90 R I J Q := by
  have := out_of h hh
  exact mw_f (by rw [nT (by omega), nT (by omega)]; omega) kq
def kN (I : II) (J : JJ) (I' : II) (J' : JJ) : Prop := (∀ q, q ≠ 74 → q ≠ 75 → I' q = I q) ∧ (∀ j, j ≠ 5 → I' 74 j = I 74 j) ∧ ∀ q, q ≠ 78 → J' q = J q
theorem kS.n {I I' : II} {J J' : JJ} (h : kS I J I' J') : kN I J I' J' := ⟨fun q a _ => h.1 q a, h.2.1, h.2.2⟩
theorem kN.rf (I : II) (J : JJ) : kN I J I J := (kS.rf I J).n
theorem kN.tr {I I' I'' : II} {J J' J'' : JJ} (h1 : kN I J I' J') (h2 : kN I' J' I'' J'') : kN I J I'' J'' := ⟨fun q a b => (h2.1 q a b).trans (h1.1 q a b), fun j hj => (h2.2.1 j hj).trans (h1.2.1 j hj), fun q hq => (h2.2.2 q hq).trans (h1.2.2 q hq)⟩
theorem kN.k {I I' : II} {J J' : JJ} (h : kN I J I' J') : k74 I J I' J' := fun p hp => ⟨h.1 p (by omega) (by omega), h.2.2 p (by omega)⟩
theorem kN.M {S : SG} {T : TW} {I I' : II} {J J' : JJ} (h : kN I J I' J') (hM : MI S I J) (hT : MTn 75 T I') (hf : mfd T.1 I' J') : MI (sT S T) I' J' := by
  obtain ⟨h1, h2, h3, h4, h5, h6⟩ := hM
  exact ⟨hT, hf, h3.keep (h.2.1 2 (by decide)) (h.1 76 (by decide) (by decide)), h4.keep (h.2.1 10 (by decide)) (h.1 81 (by decide) (by decide)), h5.keep (h.1 86 (by decide) (by decide)) (h.1 87 (by decide) (by decide)) (h.2.2 88 (by decide)), h6.keep (h.1 77 (by decide) (by decide))⟩
theorem kN.P {S : SG} {T : TW} {v : Value} {I I' : II} {J J' : JJ} {Q : QT} (h : kN I J I' J') (hM : MI S I J) (hT : MTn 75 T I') (hf : mfd T.1 I' J') (kq : PM I J Q (sT S T) v) : Q (some v) 90 al_R0 I' J' := kq I' J' (h.M hM hT hf) h.k
theorem kN.up (I : II) (J : JJ) (j : Nat) (v : Int32) : kN I J (al_up I 75 j v) J := ⟨fun q _ b => al_up_row b, fun j hj => al_up_p (by decide), fun _ _ => rfl⟩
theorem mfd.up {c : Nat → Nat} {I : II} {J : JJ} {j : Nat} {v : Int32} (h : mfd c I J) : mfd c (al_up I 75 j v) J := h.keep (al_up_p (by decide)) rfl
theorem MI.go {S : SG} {v : Value} {I : II} {J : JJ} {Q : QT} (hM : MI S I J) (kq : PM I J Q S v) : Q (some v) 90 al_R0 I J := kq I J hM (k74.rf I J)
theorem ups_same {c : Nat → Nat} {q : Nat} : ups c q (c q) = c := by
  funext j
  by_cases e : j = q
  · subst e; rw [ups_s]
  · rw [ups_n e]
theorem ma_stands {q x : Nat} {T : TW} {I : II} {J : JJ} {Q : QT} (hT : MTn 75 T I) (hf : mfd T.1 I J) (hcd : cdo T.1) (hq : q < 64) (hx : x < 100) (kq : ∀ I' : II, kN I J I' J → MTn 75 (ups T.1 q x, T.2) I' → mfd (ups T.1 q x) I' J → Q (some (.int (nI (T.1 q)))) 90 al_R0 I' J) : CT m_X12_stands 0 [.ref 74, .int (nI q), .int (nI x)] 90 al_R0 I J Q := by
  refine r_X12_stands (by decide) (fun F wk b0 b22 b23 => ?_)
  have h23 : ∀ b : Nat, (b = 0 ∨ b = 1) → mfd (ups T.1 q x) (al_up (al_up I 74 5 (nI b)) 75 q (nI x)) J → F 23 [some (.ref 74), some (.int (nI q)), some (.int (nI x))] [.int (nI b), .ref 74] 90 al_R0 I J := fun b hb hm => by
    refine b23 _ _ _ _ _ _ (And.intro (hb.elim (fun e => by subst e; exact Or.inl nI_0) (fun e => by subst e; exact Or.inr nI_1')) (ma_become (i := q) rfl (by omega) ?_))
    dsimp only [al_pu, o_iload, o_lload, o_aload, o_istore, o_astore, o_lstore, o_iinc, o_ic, o_lc, o_sc, o_iadd, o_isub, o_imul, o_iand, o_ior, o_ixor, o_ishl, o_ishr, o_ladd, o_lsub, o_land, o_lor, o_lxor, o_lshl, o_lshr, o_i2l, o_l2i, o_lcmp, o_dup, o_dup2, o_pop, o_getI, o_getJ, o_getR, o_putI, o_putZ, o_putJ, o_iald, o_zald, o_lald, o_aald, o_iast, o_zast, o_last, o_alen, o_cpyI, o_cpyJ, o_iret, o_zret, o_lret, o_aret, o_vret, o_idiv, o_irem, o_ineg, o_ifeq, o_ifne, o_iflt, o_ifge, o_ifgt, o_ifle, o_iceq, o_icne, o_iclt, o_icge, o_icgt, o_icle, al_gL, al_sL, al_sJ, al_gd]
    rw [al_up_row (show (75 : Nat) ≠ 74 by decide), hT.1 q hq]
    exact kq _ ⟨fun p h1 h2 => by rw [al_up_row h2, al_up_row h1], fun j hj => by rw [al_up_p (by decide), al_up_j hj], fun _ _ => rfl⟩ ((hT.keep (al_up_row (by decide))).lay hq) hm
  have z : F 23 [some (.ref 74), some (.int (nI q)), some (.int (nI x))] [.int (nI 0), .ref 74] 90 al_R0 I J := h23 0 (Or.inl rfl) (Or.inl (by rw [al_up_p (by decide), al_up_s]))
  refine b0 _ _ _ _ _ _ (And.intro (fun c => b22 _ _ _ _ _ _ z) (fun c => Exists.intro q (And.intro (by omega) (And.intro rfl (And.intro (fun c2 => b22 _ _ _ _ _ _ z) (fun c2 => h23 1 (Or.inr rfl) (Or.inr ⟨by rw [al_up_p (by decide), al_up_s], ?_⟩)))))))
  have hcq := hcd q hq
  rw [hT.1 q hq, nI_eq (by omega) (by omega)] at c2
  rw [← c2, ups_same]
  rcases hf with h | ⟨_, hb⟩
  · exact absurd (h.trans nI_0) c
  · exact hb
theorem M_square1 {a b : Int32} {q x : Nat} {S : SG} {I : II} {J : JJ} {Q : QT} (hM : MI S I J) (hV : VS S) (hq : q < 64) (hx : vok S.1.2.1 x) (ea : a = nI q) (eb : b = nI x) (kq : PM I J Q (sT S (ups S.1.1 q x, S.1.2)) (.int (nI (S.1.1 q)))) : CT m_X12_square 0 [.ref 74, .int a, .int b] 90 al_R0 I J Q := by
  subst ea eb
  have h6 := hV.1.1
  have hx16 : x < 16 := by unfold vok at hx; omega
  exact r_X12_square (by decide) (fun F wk b0 b24 b30 => b0 _ _ _ _ _ _ (ms_t hq (br_f n10 (mv_t h6 hM.1.2.2.2 hx (br_f n10 (ma_stands hM.1 hM.2.1 hV.1.cdo hq (by omega) (fun I' g1 g2 g3 => b30 _ _ _ _ _ _ (g1.P hM g2 g3 kq))))))))
theorem M_square2 {a b : Int32} {S : SG} {I : II} {J : JJ} {Q : QT} (hM : MI S I J) (hV : VS S) (hg : ing 64 a ∨ ∀ x, vok S.1.2.1 x → ¬ b = nI x) (kq : PM I J Q (fnd 0 S) (.int (-1000000001))) : CT m_X12_square 0 [.ref 74, .int a, .int b] 90 al_R0 I J Q := by
  have h6 := hV.1.1
  refine r_X12_square (by decide) (fun F wk b0 b24 b30 => ?_)
  have h24 : F 24 [some (.ref 74), some (.int a), some (.int b)] [] 90 al_R0 I J := b24 _ _ _ _ _ _ (ma_finding hM (k := 0) (by decide) (by decide +kernel) (fun I' J' g1 g2 => b30 _ _ _ _ _ _ (kq I' J' g1 g2)))
  refine b0 _ _ _ _ _ _ ?_
  rcases ing_or 64 (by decide) a with g | ⟨q, hq, e⟩
  · exact ms_f g (br_t nI_0 h24)
  · subst e
    rcases hg with g | g
    · exact absurd rfl (g q hq)
    · exact ms_t hq (br_f n10 (mv_f h6 hM.1.2.2.2 g (br_t nI_0 h24)))
theorem M_at1 {a : Int32} {q : Nat} {S : SG} {I : II} {J : JJ} {Q : QT} (hM : MI S I J) (hq : q < 64) (ea : a = nI q) (kq : PM I J Q S (.int (nI (S.1.1 q)))) : CT m_X12_at 0 [.ref 74, .int a] 90 al_R0 I J Q := by
  subst ea
  refine r_X12_at (by decide) (fun F wk b0 b16 b22 => b0 _ _ _ _ _ _ (ms_t hq (br_f n10 (Exists.intro q (And.intro (by omega) (And.intro rfl (b22 _ _ _ _ _ _ ?_)))))))
  have h9 := hM.go kq
  rw [← hM.1.1 q hq] at h9
  exact h9
theorem M_at2 {a : Int32} {S : SG} {I : II} {J : JJ} {Q : QT} (hM : MI S I J) (hg : ing 64 a) (kq : PM I J Q (fnd 0 S) (.int (-1000000001))) : CT m_X12_at 0 [.ref 74, .int a] 90 al_R0 I J Q :=
  r_X12_at (by decide) (fun F wk b0 b16 b22 => b0 _ _ _ _ _ _ (ms_f hg (br_t nI_0 (b16 _ _ _ _ _ _ (ma_finding hM (k := 0) (by decide) (by decide +kernel) (fun I' J' g1 g2 => b22 _ _ _ _ _ _ (kq I' J' g1 g2)))))))
theorem M_house1 {a b : Int32} {k r : Nat} {S : SG} {I : II} {J : JJ} {Q : QT} (hM : MI S I J) (hk : k < 6) (r1 : 1 ≤ r) (r2 : r ≤ 99) (ea : a = nI k) (eb : b = nI r) (hn : S.1.2.1 < 6) (kq : PM I J Q (sT S (bld S.1 a b)) (.int (nI S.1.2.1))) : CT m_X12_house 0 [.ref 74, .int a, .int b] 90 al_R0 I J Q := by
  subst ea eb
  refine r_X12_house (by decide) (fun F wk b0 b19 b26 b48 b54 => b0 _ _ _ _ _ _ (mi_t (by decide) (by omega) (by omega) (br_f n10 (mi_t (by decide) r1 r2 (br_u n10 (b26 _ _ _ _ _ _ (Exists.intro 142 (And.intro (by decide) (And.intro rfl (br_u ?_ (b48 _ _ _ _ _ _ (ma_founded hM.1 hn (fun I' g1 g2 g3 => b54 _ _ _ _ _ _ ?_)))))))))))))
  · rw [hM.1.2.2.2, nI_eq (by omega) (by omega)]; omega
  · exact kN.P (T := bld S.1 (nI k) (nI r)) ⟨fun q _ h => g2 q h, fun j _ => by rw [g2 74 (by decide)], fun _ _ => rfl⟩ hM g1 (hM.2.1.keep (by rw [g2 74 (by decide)]) rfl) kq
theorem M_house2 {a b : Int32} {S : SG} {I : II} {J : JJ} {Q : QT} (hM : MI S I J) (hg : ing 6 a ∨ ∀ r, 1 ≤ r → r ≤ 99 → ¬ b = nI r) (kq : PM I J Q (fnd 0 S) (.int (-1000000001))) : CT m_X12_house 0 [.ref 74, .int a, .int b] 90 al_R0 I J Q := by
  refine r_X12_house (by decide) (fun F wk b0 b19 b26 b48 b54 => ?_)
  have h19 : F 19 [some (.ref 74), some (.int a), some (.int b)] [] 90 al_R0 I J := b19 _ _ _ _ _ _ (ma_finding hM (k := 0) (by decide) (by decide +kernel) kq)
  refine b0 _ _ _ _ _ _ ?_
  rcases ing_or 6 (by decide) a with g | ⟨q, hq, e⟩
  · exact mi_f (by decide) (by decide) (fun r _ h => g r (by omega)) (br_t nI_0 h19)
  · subst e
    rcases hg with g | g
    · exact absurd rfl (g q hq)
    · exact mi_t (by decide) (by omega) (by omega) (br_f n10 (mi_f (by decide) (by decide) g (br_v nI_0 h19)))
theorem M_house3 {a b : Int32} {k r : Nat} {S : SG} {I : II} {J : JJ} {Q : QT} (hM : MI S I J) (hk : k < 6) (r1 : 1 ≤ r) (r2 : r ≤ 99) (ea : a = nI k) (eb : b = nI r) (hn : S.1.2.1 = 6) (kq : PM I J Q (fnd 1 S) (.int (-1000000002))) : CT m_X12_house 0 [.ref 74, .int a, .int b] 90 al_R0 I J Q := by
  subst ea eb
  refine r_X12_house (by decide) (fun F wk b0 b19 b26 b48 b54 => b0 _ _ _ _ _ _ (mi_t (by decide) (by omega) (by omega) (br_f n10 (mi_t (by decide) r1 r2 (br_u n10 (b26 _ _ _ _ _ _ (Exists.intro 142 (And.intro (by decide) (And.intro rfl (br_v ?_ (ma_finding hM (k := 1) (by decide) (by decide +kernel) (fun I' J' g1 g2 => b54 _ _ _ _ _ _ (kq I' J' g1 g2)))))))))))))
  rw [hM.1.2.2.2, hn]
theorem M_of1 {a b : Int32} {h w : Nat} {S : SG} {I : II} {J : JJ} {Q : QT} (hM : MI S I J) (hV : VS S) (hh : h < S.1.2.1) (hw : w < 8) (ea : a = nI h) (eb : b = nI w) (kq : PM I J Q S (.int (ofv S.1 h w))) : CT m_X12_of 0 [.ref 74, .int a, .int b] 90 al_R0 I J Q := by
  subst ea eb
  have h6 := hV.1.1
  refine r_X12_of (by decide) (fun F wk b0 b15 b64 b71 b80 b86 b93 b99 b106 => b0 _ _ _ _ _ _ (mh_t h6 hM.1.2.2.2 hh (br_u n10 (b15 _ _ _ _ _ _ ?_))))
  have h9 := hM.go kq
  rcases (show w = 0 ∨ w = 1 ∨ w = 2 ∨ w = 3 ∨ w = 4 ∨ w = 5 ∨ w = 6 ∨ w = 7 by omega) with rfl | rfl | rfl | rfl | rfl | rfl | rfl | rfl
  · exact br_t (by decide +kernel) (b64 _ _ _ _ _ _ (ma_houseIs (f := 0) hM.1 (by omega) (by omega) h9))
  · exact br_f (by decide +kernel) (br_t (by decide +kernel) (b64 _ _ _ _ _ _ (ma_houseIs (f := 1) hM.1 (by omega) (by omega) h9)))
  · exact br_f (by decide +kernel) (br_f (by decide +kernel) (br_t (by decide +kernel) (b64 _ _ _ _ _ _ (ma_houseIs (f := 2) hM.1 (by omega) (by omega) h9))))
  · refine br_f (by decide +kernel) (br_f (by decide +kernel) (br_f (by decide +kernel) (br_t (by decide +kernel) (b71 _ _ _ _ _ _ ?_))))
    dsimp only [k_X12_of_71, o_iload, o_lload, o_aload, o_istore, o_astore, o_lstore, o_iinc, o_ic, o_lc, o_sc, o_iadd, o_isub, o_imul, o_iand, o_ior, o_ixor, o_ishl, o_ishr, o_ladd, o_lsub, o_land, o_lor, o_lxor, o_lshl, o_lshr, o_i2l, o_l2i, o_lcmp, o_dup, o_dup2, o_pop, o_getI, o_getJ, o_getR, o_putI, o_putZ, o_putJ, o_iald, o_zald, o_lald, o_aald, o_iast, o_zast, o_last, o_alen, o_cpyI, o_cpyJ, o_iret, o_zret, o_lret, o_aret, o_vret, o_idiv, o_irem, o_ineg, o_ifeq, o_ifne, o_iflt, o_ifge, o_ifgt, o_ifle, o_iceq, o_icne, o_iclt, o_icge, o_icgt, o_icle, al_gL, al_sL, al_sJ, al_gd]
    rw [nI_add]
    exact ma_manyOf hM.1.1 hV.1.cdo (by omega) h9
  · exact br_f (by decide +kernel) (br_f (by decide +kernel) (br_f (by decide +kernel) (br_f (by decide +kernel) (br_t (by decide +kernel) (b80 _ _ _ _ _ _ (ma_cornersOf hM.1.1 hV.1.cdo (by omega) h9))))))
  · exact br_f (by decide +kernel) (br_f (by decide +kernel) (br_f (by decide +kernel) (br_f (by decide +kernel) (br_f (by decide +kernel) (br_t (by decide +kernel) (b86 _ _ _ _ _ _ (ma_houseIs (f := 4) hM.1 (by omega) (by omega) h9)))))))
  · exact br_f (by decide +kernel) (br_f (by decide +kernel) (br_f (by decide +kernel) (br_f (by decide +kernel) (br_f (by decide +kernel) (br_f (by decide +kernel) (br_t (by decide +kernel) (b93 _ _ _ _ _ _ (ma_taxOf hM.1 hV.1 hM.2.1 hh (fun I' J' g1 g2 => g1.P hM g2 kq)))))))))
  · exact br_f (by decide +kernel) (br_f (by decide +kernel) (br_f (by decide +kernel) (br_f (by decide +kernel) (br_f (by decide +kernel) (br_f (by decide +kernel) (br_f (by decide +kernel) (br_t (by decide +kernel) (b99 _ _ _ _ _ _ (ma_houseIs (f := 3) hM.1 (by omega) (by omega) h9)))))))))
theorem M_of2 {a b : Int32} {S : SG} {I : II} {J : JJ} {Q : QT} (hM : MI S I J) (hV : VS S) (hg : ing S.1.2.1 a ∨ ∃ h, h < S.1.2.1 ∧ a = nI h ∧ ing 8 b) (kq : PM I J Q (fnd 0 S) (.int (-1000000001))) : CT m_X12_of 0 [.ref 74, .int a, .int b] 90 al_R0 I J Q := by
  have h6 := hV.1.1
  refine r_X12_of (by decide) (fun F wk b0 b15 b64 b71 b80 b86 b93 b99 b106 => b0 _ _ _ _ _ _ ?_)
  rcases hg with g | ⟨h, hh, rfl, g⟩
  · exact mh_f h6 hM.1.2.2.2 g (br_v nI_0 (ma_finding hM (k := 0) (by decide) (by decide +kernel) kq))
  · exact mh_t h6 hM.1.2.2.2 hh (br_u n10 (b15 _ _ _ _ _ _ (br_f (g 0 (by decide)) (br_f (g 1 (by decide)) (br_f (g 2 (by decide)) (br_f (g 3 (by decide)) (br_f (g 4 (by decide)) (br_f (g 5 (by decide)) (br_f (g 6 (by decide)) (br_f (g 7 (by decide)) (b106 _ _ _ _ _ _ (ma_finding hM (k := 0) (by decide) (by decide +kernel) kq))))))))))))
theorem M_set1 {a b d : Int32} {h w : Nat} {S : SG} {I : II} {J : JJ} {Q : QT} (hM : MI S I J) (hV : VS S) (hh : h < S.1.2.1) (ea : a = nI h) (eb : b = nI w) (hw : w = 1 ∧ (∃ r, 1 ≤ r ∧ r ≤ 99 ∧ d = nI r) ∨ w = 2 ∧ (∃ r, r < 10000 ∧ d = nI r)) (kq : PM I J Q (sT S (setf S.1 h w d)) (.int (S.1.2.2.1 h w))) : CT m_X12_set 0 [.ref 74, .int a, .int b, .int d] 90 al_R0 I J Q := by
  subst ea eb
  have h6 := hV.1.1
  have hw5 : w < 5 := by omega
  refine r_X12_set (by decide) (fun F wk b0 b23 b39 b43 b44 b67 b73 => b0 _ _ _ _ _ _ (mh_t h6 hM.1.2.2.2 hh (br_f n10 ?_)))
  have h39 : F 39 [some (.ref 74), some (.int (nI h)), some (.int (nI w)), some (.int d), none] [] 90 al_R0 I J := by
    refine b39 _ _ _ _ _ _ (b44 _ _ _ _ _ _ (br_f n10 (ma_become (i := 64 + 5 * h + w) (by rw [pk_mul, nI_add, nI_add]) (by omega) (b73 _ _ _ _ _ _ ?_))))
    have h9 := (kN.up I J (64 + 5 * h + w) d).P hM (hM.1.setf (by omega) hw5 : MTn 75 (setf S.1 h w d) _) hM.2.1.up kq
    rw [← hM.1.2.1 h (by omega) w hw5] at h9
    exact h9
  rcases hw with ⟨rfl, r, r1, r2, rfl⟩ | ⟨rfl, r, r1, rfl⟩
  · exact br_v rfl (mi_t (by decide) r1 r2 (br_u n10 h39))
  · exact br_u (by decide +kernel) (b23 _ _ _ _ _ _ (br_v rfl (mi_t (by decide) (by omega) (by omega) (br_f n10 h39))))
theorem M_set2 {a b d : Int32} {S : SG} {I : II} {J : JJ} {Q : QT} (hM : MI S I J) (hV : VS S) (hg : ing S.1.2.1 a ∨ ∃ h, h < S.1.2.1 ∧ a = nI h ∧ (b = nI 1 → ∀ r, 1 ≤ r → r ≤ 99 → ¬ d = nI r) ∧ (b = nI 2 → ing 10000 d)) (kq : PM I J Q (fnd 0 S) (.int (-1000000001))) : CT m_X12_set 0 [.ref 74, .int a, .int b, .int d] 90 al_R0 I J Q := by
  have h6 := hV.1.1
  refine r_X12_set (by decide) (fun F wk b0 b23 b39 b43 b44 b67 b73 => b0 _ _ _ _ _ _ ?_)
  have h43 : F 43 [some (.ref 74), some (.int a), some (.int b), some (.int d), none] [] 90 al_R0 I J := b43 _ _ _ _ _ _ (b44 _ _ _ _ _ _ (br_t nI_0 (b67 _ _ _ _ _ _ (ma_finding hM (k := 0) (by decide) (by decide +kernel) (fun I' J' g1 g2 => b73 _ _ _ _ _ _ (kq I' J' g1 g2))))))
  rcases hg with g | ⟨h, hh, rfl, g1, g2⟩
  · exact mh_f h6 hM.1.2.2.2 g (br_t nI_0 h43)
  · refine mh_t h6 hM.1.2.2.2 hh (br_f n10 ?_)
    have h23 : F 23 [some (.ref 74), some (.int (nI h)), some (.int b), some (.int d), none] [] 90 al_R0 I J := b23 _ _ _ _ _ _ (And.intro (fun _ => h43) (fun c => mi_f (by decide) (by decide) (fun r _ r2 => g2 c r (by omega)) (br_t nI_0 h43)))
    exact And.intro (fun _ => h23) (fun c => mi_f (by decide) (by decide) (g1 c) (br_v nI_0 h23))
theorem M_turn1 {a b : Int32} {h k : Nat} {S : SG} {I : II} {J : JJ} {Q : QT} (hM : MI S I J) (hV : VS S) (hh : h < S.1.2.1) (hk : k < 6) (ea : a = nI h) (eb : b = nI k) (kq : PM I J Q (sT S (setf S.1 h 0 (nI k))) (.int (S.1.2.2.1 h 0))) : CT m_X12_turn 0 [.ref 74, .int a, .int b] 90 al_R0 I J Q := by
  subst ea eb
  have h6 := hV.1.1
  refine r_X12_turn (by decide) (fun F wk b0 b33 b39 => b0 _ _ _ _ _ _ (mh_t h6 hM.1.2.2.2 hh (br_f n10 (mi_t (by decide) (by omega) (by omega) (br_f n10 (ma_become (i := 64 + 5 * h + 0) (by rw [pk_mul, nI_add, nI_add]) (by omega) (b39 _ _ _ _ _ _ ?_)))))))
  have h9 := (kN.up I J (64 + 5 * h + 0) (nI k)).P hM (hM.1.setf (by omega) (by omega) : MTn 75 (setf S.1 h 0 (nI k)) _) hM.2.1.up kq
  rw [← hM.1.2.1 h (by omega) 0 (by omega)] at h9
  exact h9
theorem M_turn2 {a b : Int32} {S : SG} {I : II} {J : JJ} {Q : QT} (hM : MI S I J) (hV : VS S) (hg : ing S.1.2.1 a ∨ ing 6 b) (kq : PM I J Q (fnd 0 S) (.int (-1000000001))) : CT m_X12_turn 0 [.ref 74, .int a, .int b] 90 al_R0 I J Q := by
  have h6 := hV.1.1
  refine r_X12_turn (by decide) (fun F wk b0 b33 b39 => b0 _ _ _ _ _ _ ?_)
  have h33 : F 33 [some (.ref 74), some (.int a), some (.int b)] [] 90 al_R0 I J := b33 _ _ _ _ _ _ (ma_finding hM (k := 0) (by decide) (by decide +kernel) (fun I' J' g1 g2 => b39 _ _ _ _ _ _ (kq I' J' g1 g2)))
  rcases ing_or S.1.2.1 (by omega) a with g | ⟨q, hq, e⟩
  · exact mh_f h6 hM.1.2.2.2 g (br_t nI_0 h33)
  · subst e
    rcases hg with g | g
    · exact absurd rfl (g q hq)
    · exact mh_t h6 hM.1.2.2.2 hq (br_f n10 (mi_f (by decide) (by decide) (fun r _ h => g r (by omega)) (br_t nI_0 h33)))
def abN (k : Nat) : Nat := if k = 3 then 1 else if k = 4 then 2 else if k = 5 then 3 else 0
theorem ma_above0 {R : RR} {I : II} {J : JJ} {Q : QT} (kq : Q (some (.int (-1))) 90 R I J) : CT m_X12_above 0 [.int (nI 0)] 90 R I J Q :=
  r_X12_above (by decide) (fun F wk b0 b8 b17 b26 b35 b36 => b0 _ _ _ _ _ _ (br_v nI_0 (b36 _ _ _ _ _ _ kq)))
theorem ma_above {k : Nat} {R : RR} {I : II} {J : JJ} {Q : QT} (h0 : 0 < k) (hk : k < 6) (kq : Q (some (.int (nI (abN k)))) 90 R I J) : CT m_X12_above 0 [.int (nI k)] 90 R I J Q := by
  refine r_X12_above (by decide) (fun F wk b0 b8 b17 b26 b35 b36 => ?_)
  rcases (show k = 1 ∨ k = 2 ∨ k = 3 ∨ k = 4 ∨ k = 5 by omega) with rfl | rfl | rfl | rfl | rfl
  · exact b0 _ _ _ _ _ _ (br_u (by decide +kernel) (b8 _ _ _ _ _ _ (br_u (by decide +kernel) (b17 _ _ _ _ _ _ (br_u (by decide +kernel) (b26 _ _ _ _ _ _ (br_u (by decide +kernel) (b35 _ _ _ _ _ _ (b36 _ _ _ _ _ _ kq)))))))))
  · exact b0 _ _ _ _ _ _ (br_u (by decide +kernel) (b8 _ _ _ _ _ _ (br_u (by decide +kernel) (b17 _ _ _ _ _ _ (br_u (by decide +kernel) (b26 _ _ _ _ _ _ (br_u (by decide +kernel) (b35 _ _ _ _ _ _ (b36 _ _ _ _ _ _ kq)))))))))
  · exact b0 _ _ _ _ _ _ (br_u (by decide +kernel) (b8 _ _ _ _ _ _ (br_v rfl (b36 _ _ _ _ _ _ kq))))
  · exact b0 _ _ _ _ _ _ (br_u (by decide +kernel) (b8 _ _ _ _ _ _ (br_u (by decide +kernel) (b17 _ _ _ _ _ _ (br_v rfl (b36 _ _ _ _ _ _ kq))))))
  · exact b0 _ _ _ _ _ _ (br_u (by decide +kernel) (b8 _ _ _ _ _ _ (br_u (by decide +kernel) (b17 _ _ _ _ _ _ (br_u (by decide +kernel) (b26 _ _ _ _ _ _ (br_v rfl (b36 _ _ _ _ _ _ kq))))))))
theorem isk_s : ∀ k, k < 6 → isk k k = true := by decide
theorem isk_a : ∀ d, d < 6 → 0 < d → ∀ k, k < 6 → ¬ d = k → isk d k = isk (abN d) k := by decide
theorem isk_0 : ∀ k, k < 6 → ¬ 0 = k → isk 0 k = false := by decide
theorem abN_lt : ∀ d, d < 6 → 0 < d → abN d < d := by decide
theorem m1_lt : (-1 : Int32) < 0 := by decide +kernel
theorem M_as {h k : Nat} {S : SG} {I : II} {J : JJ} {Q : QT} (hM : MI S I J) (hV : VS S) (hh : h < S.1.2.1) (hk : k < 6) (k1 : isk (kdN S.1 h) k = true → PM I J Q S (.int (S.1.2.2.1 h 1))) (k3 : isk (kdN S.1 h) k = false → PM I J Q (fnd 2 S) (.int (-1000000003))) : CT m_X12_as 0 [.ref 74, .int (nI h), .int (nI k)] 90 al_R0 I J Q := by
  have h6 := hV.1.1
  refine r_X12_as (by decide) (fun F wk b0 b17 b24 b31 b48 b61 b67 => b0 _ _ _ _ _ _ (mh_t h6 hM.1.2.2.2 hh (br_f n10 (mi_t (by decide) (by omega) (by omega) (br_u n10 (b24 _ _ _ _ _ _ (ma_houseIs (f := 0) hM.1 (by omega) (by omega) ?_)))))))
  have hkd := hV.1.kd hh
  rw [hkd.2]
  have yes : isk (kdN S.1 h) k = true → ∀ x, x < 6 → F 48 [some (.ref 74), some (.int (nI h)), some (.int (nI k)), some (.int (nI x))] [] 90 al_R0 I J := fun hy x hx => b48 _ _ _ _ _ _ (br_t (nI_pos' (by omega)) (b61 _ _ _ _ _ _ (ma_houseIs (f := 1) hM.1 (by omega) (by omega) (b67 _ _ _ _ _ _ (hM.go (k1 hy))))))
  have no : isk (kdN S.1 h) k = false → F 48 [some (.ref 74), some (.int (nI h)), some (.int (nI k)), some (.int (-1))] [] 90 al_R0 I J := fun hn => b48 _ _ _ _ _ _ (br_f (by decide +kernel) (ma_finding hM (k := 2) (by decide) (by decide +kernel) (fun I' J' g1 g2 => b67 _ _ _ _ _ _ (k3 hn I' J' g1 g2))))
  have st : ∀ d, d < 6 → isk (kdN S.1 h) k = isk d k → F 31 [some (.ref 74), some (.int (nI h)), some (.int (nI k)), some (.int (nI d))] [] 90 al_R0 I J := by
    intro d
    induction d using Nat.strongRecOn with
    | ind d ih =>
      intro hd he
      refine b31 _ _ _ _ _ _ (br_f (nI_pos (by omega)) (And.intro (fun c => ?_) (fun c => ?_)))
      · rw [nI_eq (by omega) (by omega)] at c
        subst c
        exact yes (he.trans (isk_s d hd)) d hd
      · rw [nI_eq (by omega) (by omega)] at c
        rcases Nat.eq_zero_or_pos d with z | z
        · subst z
          exact ma_above0 (b31 _ _ _ _ _ _ (br_t m1_lt (no (he.trans (isk_0 k hk c)))))
        · have := abN_lt d hd z
          exact ma_above z hd (ih (abN d) this (by omega) (he.trans (isk_a d hd z k hk c)))
  exact st _ hkd.1 rfl
theorem M_as2 {a b : Int32} {S : SG} {I : II} {J : JJ} {Q : QT} (hM : MI S I J) (hV : VS S) (hg : ing S.1.2.1 a ∨ ing 6 b) (kq : PM I J Q (fnd 0 S) (.int (-1000000001))) : CT m_X12_as 0 [.ref 74, .int a, .int b] 90 al_R0 I J Q := by
  have h6 := hV.1.1
  refine r_X12_as (by decide) (fun F wk b0 b17 b24 b31 b48 b61 b67 => b0 _ _ _ _ _ _ ?_)
  have h17 : F 17 [some (.ref 74), some (.int a), some (.int b), none] [] 90 al_R0 I J := b17 _ _ _ _ _ _ (ma_finding hM (k := 0) (by decide) (by decide +kernel) kq)
  rcases ing_or S.1.2.1 (by omega) a with g | ⟨q, hq, e⟩
  · exact mh_f h6 hM.1.2.2.2 g (br_t nI_0 h17)
  · subst e
    rcases hg with g | g
    · exact absurd rfl (g q hq)
    · exact mh_t h6 hM.1.2.2.2 hq (br_f n10 (mi_f (by decide) (by decide) (fun r _ h => g r (by omega)) (br_v nI_0 h17)))
theorem M_corner1 {a b : Int32} {h p : Nat} {S : SG} {I : II} {J : JJ} {Q : QT} (hM : MI S I J) (hV : VS S) (hh : h < S.1.2.1) (hp : p < 81) (ea : a = nI h) (eb : b = nI p) (kq : PM I J Q S (.int (nI (shp S.1.1 h p)))) : CT m_X12_corner 0 [.ref 74, .int a, .int b] 90 al_R0 I J Q := by
  subst ea eb
  have h6 := hV.1.1
  exact r_X12_corner (by decide) (fun F wk b0 b24 b30 => b0 _ _ _ _ _ _ (mh_t h6 hM.1.2.2.2 hh (br_f n10 (mp_t hp (br_f n10 (ma_cornerOf hM.1.1 hV.1.cdo (by omega) hp (b30 _ _ _ _ _ _ (hM.go kq))))))))
theorem M_corner2 {a b : Int32} {S : SG} {I : II} {J : JJ} {Q : QT} (hM : MI S I J) (hV : VS S) (hg : ing S.1.2.1 a ∨ ing 81 b) (kq : PM I J Q (fnd 0 S) (.int (-1000000001))) : CT m_X12_corner 0 [.ref 74, .int a, .int b] 90 al_R0 I J Q := by
  have h6 := hV.1.1
  refine r_X12_corner (by decide) (fun F wk b0 b24 b30 => b0 _ _ _ _ _ _ ?_)
  have h24 : F 24 [some (.ref 74), some (.int a), some (.int b)] [] 90 al_R0 I J := b24 _ _ _ _ _ _ (ma_finding hM (k := 0) (by decide) (by decide +kernel) (fun I' J' g1 g2 => b30 _ _ _ _ _ _ (kq I' J' g1 g2)))
  rcases ing_or S.1.2.1 (by omega) a with g | ⟨q, hq, e⟩
  · exact mh_f h6 hM.1.2.2.2 g (br_t nI_0 h24)
  · subst e
    rcases hg with g | g
    · exact absurd rfl (g q hq)
    · exact mh_t h6 hM.1.2.2.2 hq (br_f n10 (mp_f g (br_t nI_0 h24)))
theorem M_counts1 {a b : Int32} {h p : Nat} {S : SG} {I : II} {J : JJ} {Q : QT} (hM : MI S I J) (hV : VS S) (hh : h < S.1.2.1) (hp : p < 81) (ea : a = nI h) (eb : b = nI p) (kq : PM I J Q S (.int (nI (cp S.1 h p)))) : CT m_X12_counts 0 [.ref 74, .int a, .int b] 90 al_R0 I J Q := by
  subst ea eb
  have h6 := hV.1.1
  exact r_X12_counts (by decide) (fun F wk b0 b24 b30 => b0 _ _ _ _ _ _ (mh_t h6 hM.1.2.2.2 hh (br_f n10 (mp_t hp (br_f n10 (ma_countOf hM.1 hV.1 hM.2.1 hh hp (fun I' J' g1 g2 => b30 _ _ _ _ _ _ (g1.P hM g2 kq))))))))
theorem M_counts2 {a b : Int32} {S : SG} {I : II} {J : JJ} {Q : QT} (hM : MI S I J) (hV : VS S) (hg : ing S.1.2.1 a ∨ ing 81 b) (kq : PM I J Q (fnd 0 S) (.int (-1000000001))) : CT m_X12_counts 0 [.ref 74, .int a, .int b] 90 al_R0 I J Q := by
  have h6 := hV.1.1
  refine r_X12_counts (by decide) (fun F wk b0 b24 b30 => b0 _ _ _ _ _ _ ?_)
  have h24 : F 24 [some (.ref 74), some (.int a), some (.int b)] [] 90 al_R0 I J := b24 _ _ _ _ _ _ (ma_finding hM (k := 0) (by decide) (by decide +kernel) (fun I' J' g1 g2 => b30 _ _ _ _ _ _ (kq I' J' g1 g2)))
  rcases ing_or S.1.2.1 (by omega) a with g | ⟨q, hq, e⟩
  · exact mh_f h6 hM.1.2.2.2 g (br_t nI_0 h24)
  · subst e
    rcases hg with g | g
    · exact absurd rfl (g q hq)
    · exact mh_t h6 hM.1.2.2.2 hq (br_f n10 (mp_f g (br_t nI_0 h24)))
theorem M_seen1 {a : Int32} {p : Nat} {S : SG} {I : II} {J : JJ} {Q : QT} (hM : MI S I J) (hV : VS S) (hp : p < 81) (ea : a = nI p) (kq : PM I J Q S (.int (nI (nsn S.1.1 p)))) : CT m_X12_seen 0 [.ref 74, .int a] 90 al_R0 I J Q := by
  subst ea
  refine r_X12_seen (by decide) (fun F wk b0 b18 b24 => b0 _ _ _ _ _ _ (mp_t hp (br_f n10 (ma_seenAt hM.1.1 hV.1.cdo hM.2.1 hp (fun I' J' g1 g2 g3 => ma_bits ?_)))))
  rw [nsn_of g3]
  exact b24 _ _ _ _ _ _ (g1.P hM g2 kq)
theorem M_seen2 {a : Int32} {S : SG} {I : II} {J : JJ} {Q : QT} (hM : MI S I J) (hg : ing 81 a) (kq : PM I J Q (fnd 0 S) (.int (-1000000001))) : CT m_X12_seen 0 [.ref 74, .int a] 90 al_R0 I J Q :=
  r_X12_seen (by decide) (fun F wk b0 b18 b24 => b0 _ _ _ _ _ _ (mp_f hg (br_t nI_0 (b18 _ _ _ _ _ _ (ma_finding hM (k := 0) (by decide) (by decide +kernel) (fun I' J' g1 g2 => b24 _ _ _ _ _ _ (kq I' J' g1 g2)))))))
theorem M_whose1 {a : Int32} {p : Nat} {S : SG} {I : II} {J : JJ} {Q : QT} (hM : MI S I J) (hV : VS S) (hp : p < 81) (ea : a = nI p) (kq : PM I J Q S (.int (orb (fun h => cor S.1.1 h p) S.1.2.1))) : CT m_X12_whose 0 [.ref 74, .int a] 90 al_R0 I J Q := by
  subst ea
  exact r_X12_whose (by decide) (fun F wk b0 b15 b21 => b0 _ _ _ _ _ _ (mp_t hp (br_f n10 (ma_whoseIs hM.1.1 hV.1.cdo hp hV.1.1 hM.1.2.2.2 (b21 _ _ _ _ _ _ (hM.go kq))))))
theorem M_whose2 {a : Int32} {S : SG} {I : II} {J : JJ} {Q : QT} (hM : MI S I J) (hg : ing 81 a) (kq : PM I J Q (fnd 0 S) (.int (-1000000001))) : CT m_X12_whose 0 [.ref 74, .int a] 90 al_R0 I J Q :=
  r_X12_whose (by decide) (fun F wk b0 b15 b21 => b0 _ _ _ _ _ _ (mp_f hg (br_t nI_0 (b15 _ _ _ _ _ _ (ma_finding hM (k := 0) (by decide) (by decide +kernel) (fun I' J' g1 g2 => b21 _ _ _ _ _ _ (kq I' J' g1 g2)))))))
theorem lN_bI (b : Bool) : (lN b.toNat).toInt32 = nI b.toNat := by cases b <;> decide +kernel
theorem M_sees1 {a b : Int32} {q p : Nat} {S : SG} {I : II} {J : JJ} {Q : QT} (hM : MI S I J) (hV : VS S) (hq : q < 64) (hp : p < 81) (ea : a = nI q) (eb : b = nI p) (hs : S.1.1 q = 1) (kq : PM I J Q S (.int (nI (sen S.1.1 p q).toNat))) : CT m_X12_sees 0 [.ref 74, .int a, .int b] 90 al_R0 I J Q := by
  subst ea eb
  refine r_X12_sees (by decide) (fun F wk b0 b14 b21 b40 b50 => b0 _ _ _ _ _ _ (ms_t hq (br_f n10 (mp_t hp (br_u n10 (b21 _ _ _ _ _ _ (Exists.intro q (And.intro (by omega) (And.intro rfl (br_t (by rw [hM.1.1 q hq, hs]) (b40 _ _ _ _ _ _ (ma_seenAt hM.1.1 hV.1.cdo hM.2.1 hp (fun I' J' g1 g2 g3 => ?_)))))))))))))
  dsimp only [al_pu, o_iload, o_lload, o_aload, o_istore, o_astore, o_lstore, o_iinc, o_ic, o_lc, o_sc, o_iadd, o_isub, o_imul, o_iand, o_ior, o_ixor, o_ishl, o_ishr, o_ladd, o_lsub, o_land, o_lor, o_lxor, o_lshl, o_lshr, o_i2l, o_l2i, o_lcmp, o_dup, o_dup2, o_pop, o_getI, o_getJ, o_getR, o_putI, o_putZ, o_putJ, o_iald, o_zald, o_lald, o_aald, o_iast, o_zast, o_last, o_alen, o_cpyI, o_cpyJ, o_iret, o_zret, o_lret, o_aret, o_vret, o_idiv, o_irem, o_ineg, o_ifeq, o_ifne, o_iflt, o_ifge, o_ifgt, o_ifle, o_iceq, o_icne, o_iclt, o_icge, o_icgt, o_icle, al_gL, al_sL, al_sJ, al_gd]
  rw [bit_at hq, g3 q hq, lN_bI]
  exact b50 _ _ _ _ _ _ (g1.P hM g2 kq)
theorem M_sees2 {a b : Int32} {S : SG} {I : II} {J : JJ} {Q : QT} (hM : MI S I J) (hg : ing 64 a ∨ ing 81 b) (kq : PM I J Q (fnd 0 S) (.int (-1000000001))) : CT m_X12_sees 0 [.ref 74, .int a, .int b] 90 al_R0 I J Q := by
  refine r_X12_sees (by decide) (fun F wk b0 b14 b21 b40 b50 => b0 _ _ _ _ _ _ ?_)
  have h14 : F 14 [some (.ref 74), some (.int a), some (.int b)] [] 90 al_R0 I J := b14 _ _ _ _ _ _ (ma_finding hM (k := 0) (by decide) (by decide +kernel) kq)
  rcases ing_or 64 (by decide) a with g | ⟨q, hq, e⟩
  · exact ms_f g (br_t nI_0 h14)
  · subst e
    rcases hg with g | g
    · exact absurd rfl (g q hq)
    · exact ms_t hq (br_f n10 (mp_f g (br_v nI_0 h14)))
theorem M_sees3 {a b : Int32} {q p : Nat} {S : SG} {I : II} {J : JJ} {Q : QT} (hM : MI S I J) (hV : VS S) (hq : q < 64) (hp : p < 81) (ea : a = nI q) (eb : b = nI p) (hs : ¬ S.1.1 q = 1) (kq : PM I J Q (fnd 4 S) (.int (-1000000005))) : CT m_X12_sees 0 [.ref 74, .int a, .int b] 90 al_R0 I J Q := by
  subst ea eb
  have hcq := hV.1.cdo q hq
  exact r_X12_sees (by decide) (fun F wk b0 b14 b21 b40 b50 => b0 _ _ _ _ _ _ (ms_t hq (br_f n10 (mp_t hp (br_u n10 (b21 _ _ _ _ _ _ (Exists.intro q (And.intro (by omega) (And.intro rfl (br_f (by rw [hM.1.1 q hq, nI_eq (by omega) (by omega)]; exact hs) (ma_finding hM (k := 4) (by decide) (by decide +kernel) (fun I' J' g1 g2 => b50 _ _ _ _ _ _ (kq I' J' g1 g2)))))))))))))
theorem M_pays {h p : Nat} {S : SG} {I : II} {J : JJ} {Q : QT} (hM : MI S I J) (hV : VS S) (hh : h < S.1.2.1) (hp : p < 81) (k1 : 0 < rtN S.1 h * cp S.1 h p → PM I J Q S (.int ((nI 40 + nI (rtN S.1 h * cp S.1 h p) - nI 1) / nI (rtN S.1 h * cp S.1 h p)))) (k3 : rtN S.1 h * cp S.1 h p = 0 → PM I J Q (fnd 3 S) (.int (-1000000004))) : CT m_X12_pays 0 [.ref 74, .int (nI h), .int (nI p)] 90 al_R0 I J Q := by
  have h6 := hV.1.1
  refine r_X12_pays (by decide) (fun F wk b0 b15 b22 b49 b57 => b0 _ _ _ _ _ _ (mh_t h6 hM.1.2.2.2 hh (br_f n10 (mp_t hp (br_u n10 (b22 _ _ _ _ _ _ (ma_houseIs (f := 1) hM.1 (by omega) (by omega) (ma_countOf hM.1 hV.1 hM.2.1 hh hp (fun I' J' g1 g2 => ?_)))))))))
  have hrt := hV.1.rt hh
  have hc3 := cp_le S.1 h p
  have hb : rtN S.1 h * cp S.1 h p ≤ 99 * 3 := Nat.mul_le_mul hrt.2.1 hc3
  dsimp only [al_pu, o_iload, o_lload, o_aload, o_istore, o_astore, o_lstore, o_iinc, o_ic, o_lc, o_sc, o_iadd, o_isub, o_imul, o_iand, o_ior, o_ixor, o_ishl, o_ishr, o_ladd, o_lsub, o_land, o_lor, o_lxor, o_lshl, o_lshr, o_i2l, o_l2i, o_lcmp, o_dup, o_dup2, o_pop, o_getI, o_getJ, o_getR, o_putI, o_putZ, o_putJ, o_iald, o_zald, o_lald, o_aald, o_iast, o_zast, o_last, o_alen, o_cpyI, o_cpyJ, o_iret, o_zret, o_lret, o_aret, o_vret, o_idiv, o_irem, o_ineg, o_ifeq, o_ifne, o_iflt, o_ifge, o_ifgt, o_ifle, o_iceq, o_icne, o_iclt, o_icge, o_icgt, o_icle, al_gL, al_sL, al_sJ, al_gd]
  rw [hrt.2.2, pk_mul]
  generalize rtN S.1 h * cp S.1 h p = m at *
  refine And.intro (fun c => b49 _ _ _ _ _ _ ?_) (fun c => ?_)
  · rw [← nI_0, nI_eq (by omega) (by omega)] at c
    exact And.intro (by rw [← nI_0, nI_eq (by omega) (by omega)]; exact c) (b57 _ _ _ _ _ _ (g1.P hM g2 (k1 (by omega))))
  · rw [← nI_0, nI_eq (by omega) (by omega)] at c
    exact ma_finding (g1.M hM g2) (k := 3) (by decide) (by decide +kernel) (fun I'' J'' w1 w2 => b57 _ _ _ _ _ _ (k3 c I'' J'' w1 (g1.k.tr w2)))
theorem M_pays2 {a b : Int32} {S : SG} {I : II} {J : JJ} {Q : QT} (hM : MI S I J) (hV : VS S) (hg : ing S.1.2.1 a ∨ ing 81 b) (kq : PM I J Q (fnd 0 S) (.int (-1000000001))) : CT m_X12_pays 0 [.ref 74, .int a, .int b] 90 al_R0 I J Q := by
  have h6 := hV.1.1
  refine r_X12_pays (by decide) (fun F wk b0 b15 b22 b49 b57 => b0 _ _ _ _ _ _ ?_)
  have h15 : F 15 [some (.ref 74), some (.int a), some (.int b), none] [] 90 al_R0 I J := b15 _ _ _ _ _ _ (ma_finding hM (k := 0) (by decide) (by decide +kernel) kq)
  rcases ing_or S.1.2.1 (by omega) a with g | ⟨q, hq, e⟩
  · exact mh_f h6 hM.1.2.2.2 g (br_t nI_0 h15)
  · subst e
    rcases hg with g | g
    · exact absurd rfl (g q hq)
    · exact mh_t h6 hM.1.2.2.2 hq (br_f n10 (mp_f g (br_v nI_0 h15)))
theorem M_round {h p : Nat} {S : SG} {I : II} {J : JJ} {Q : QT} (hM : MI S I J) (hV : VS S) (hh : h < S.1.2.1) (hp : p < 81) (k1 : cor S.1.1 h p = true → rnd S.1 h p = false → rcN S.1 h < 8 → PM I J Q (sT S (rdd S.1 h p)) (.int (nI (rtN (rdd S.1 h p) h * cts (rdd S.1 h p) h)))) (k3 : cor S.1.1 h p = false → PM I J Q (fnd 3 S) (.int (-1000000004))) (k4 : cor S.1.1 h p = true → rnd S.1 h p = true → PM I J Q (fnd 4 S) (.int (-1000000005))) (k5 : cor S.1.1 h p = true → rnd S.1 h p = false → rcN S.1 h = 8 → PM I J Q (fnd 1 S) (.int (-1000000002))) : CT m_X12_round 0 [.ref 74, .int (nI h), .int (nI p)] 90 al_R0 I J Q := by
  have h6 := hV.1.1
  have hrc := hV.1.rc hh
  refine r_X12_round (by decide) (fun F wk b0 b15 b22 b38 b54 b72 => b0 _ _ _ _ _ _ (mh_t h6 hM.1.2.2.2 hh (br_f n10 (mp_t hp (br_u n10 (b22 _ _ _ _ _ _ (ma_cornerOf hM.1.1 hV.1.cdo (by omega) hp (And.intro (fun c1 => b38 _ _ _ _ _ _ ?_) (fun c1 => ?_)))))))))
  · have c1 := cor_yes c1
    refine ma_isRounded hM.1 (by omega) hrc.1 hrc.2 (And.intro (fun c2 => b54 _ _ _ _ _ _ (ma_houseIs (f := 4) hM.1 (by omega) (by omega) ?_)) (fun c2 => ma_finding hM (k := 4) (by decide) (by decide +kernel) (k4 c1 (bz_t c2))))
    have c2 := bz_f c2
    rw [hrc.2]
    refine And.intro (fun c3 => b72 _ _ _ _ _ _ ?_) (fun c3 => ma_finding hM (k := 1) (by decide) (by decide +kernel) (k5 c1 c2 ?_))
    · rw [nI_eq (by omega) (by omega)] at c3
      have hr8 : rcN S.1 h < 8 := by omega
      refine ma_rounds hM.1 (by omega) hr8 hrc.2 ?_
      have g0 := (kN.up I J (94 + 8 * h + rcN S.1 h) (nI p)).tr (kN.up _ J (64 + 5 * h + 4) (nI (rcN S.1 h + 1)))
      have hT := hM.1.rdd (p := p) (show h < 6 by omega) hr8
      have hf : mfd (rdd S.1 h p).1 _ J := (hM.2.1.up (j := 94 + 8 * h + rcN S.1 h) (v := nI p)).up (j := 64 + 5 * h + 4) (v := nI (rcN S.1 h + 1))
      refine ma_taxOf hT (hV.1.rdd hr8) hf hh (fun I' J' g1 g2 => ?_)
      exact (g0.tr g1.n).P hM (g1.T (by decide) hT) g2 (k1 c1 c2 hr8)
    · rw [nI_eq (by omega) (by omega)] at c3
      exact c3
  · exact ma_finding hM (k := 3) (by decide) (by decide +kernel) (k3 (cor_no c1))
theorem M_round2 {a b : Int32} {S : SG} {I : II} {J : JJ} {Q : QT} (hM : MI S I J) (hV : VS S) (hg : ing S.1.2.1 a ∨ ing 81 b) (kq : PM I J Q (fnd 0 S) (.int (-1000000001))) : CT m_X12_round 0 [.ref 74, .int a, .int b] 90 al_R0 I J Q := by
  have h6 := hV.1.1
  refine r_X12_round (by decide) (fun F wk b0 b15 b22 b38 b54 b72 => b0 _ _ _ _ _ _ ?_)
  have h15 : F 15 [some (.ref 74), some (.int a), some (.int b)] [] 90 al_R0 I J := b15 _ _ _ _ _ _ (ma_finding hM (k := 0) (by decide) (by decide +kernel) kq)
  rcases ing_or S.1.2.1 (by omega) a with g | ⟨q, hq, e⟩
  · exact mh_f h6 hM.1.2.2.2 g (br_t nI_0 h15)
  · subst e
    rcases hg with g | g
    · exact absurd rfl (g q hq)
    · exact mh_t h6 hM.1.2.2.2 hq (br_f n10 (mp_f g (br_v nI_0 h15)))
theorem M_ith {h m : Nat} {S : SG} {I : II} {J : JJ} {Q : QT} (hM : MI S I J) (hV : VS S) (hh : h < S.1.2.1) (hm : m < 2 ^ 31) (k1 : ithc S.1.1 h m < 81 → PM I J Q S (.int (nI (ithc S.1.1 h m)))) (k3 : ¬ ithc S.1.1 h m < 81 → PM I J Q (fnd 3 S) (.int (-1000000004))) : CT m_X12_ith 0 [.ref 74, .int (nI h), .int (nI m)] 90 al_R0 I J Q := by
  have h6 := hV.1.1
  refine r_X12_ith (by decide) (fun F wk b0 b12 b19 b39 b40 => b0 _ _ _ _ _ _ (mh_t h6 hM.1.2.2.2 hh (br_f n10 (br_t (nI_pos' hm) (b19 _ _ _ _ _ _ (ma_ithOf hM.1.1 hV.1.cdo (by omega) hm ?_))))))
  by_cases e : ithc S.1.1 h m < 81
  · rw [if_pos e]
    exact br_t (nI_pos' (by omega)) (b39 _ _ _ _ _ _ (b40 _ _ _ _ _ _ (hM.go (k1 e))))
  · rw [if_neg e]
    exact br_f (by decide +kernel) (ma_finding hM (k := 3) (by decide) (by decide +kernel) (fun I' J' g1 g2 => b40 _ _ _ _ _ _ (k3 e I' J' g1 g2)))
theorem M_ith2 {a b : Int32} {S : SG} {I : II} {J : JJ} {Q : QT} (hM : MI S I J) (hV : VS S) (hg : ing S.1.2.1 a ∨ b < 0) (kq : PM I J Q (fnd 0 S) (.int (-1000000001))) : CT m_X12_ith 0 [.ref 74, .int a, .int b] 90 al_R0 I J Q := by
  have h6 := hV.1.1
  refine r_X12_ith (by decide) (fun F wk b0 b12 b19 b39 b40 => b0 _ _ _ _ _ _ ?_)
  have h12 : F 12 [some (.ref 74), some (.int a), some (.int b), none] [] 90 al_R0 I J := b12 _ _ _ _ _ _ (ma_finding hM (k := 0) (by decide) (by decide +kernel) kq)
  rcases ing_or S.1.2.1 (by omega) a with g | ⟨q, hq, e⟩
  · exact mh_f h6 hM.1.2.2.2 g (br_t nI_0 h12)
  · subst e
    rcases hg with g | g
    · exact absurd rfl (g q hq)
    · exact mh_t h6 hM.1.2.2.2 hq (br_f n10 (br_f (Int32.not_le.mpr g) h12))
