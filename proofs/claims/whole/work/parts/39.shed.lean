/-! SHEDS -/
def lst (c : Nat → Nat) (p q : Nat) : Nat := cnt (fun s => sen c p s && lin s p q) 64
theorem cnt_mono {P P' : Nat → Bool} : ∀ {n : Nat}, (∀ j, j < n → P j = true → P' j = true) → cnt P n ≤ cnt P' n
  | 0, _ => Nat.le_refl 0
  | n + 1, h => by
    have h1 := cnt_mono (P := P) (P' := P') (n := n) (fun j hj => h j (by omega))
    have h2 := h n (by omega)
    unfold cnt
    cases e : P n with
    | false => simp; omega
    | true => rw [h2 e]; omega
theorem lst_le (c : Nat → Nat) (p q : Nat) : lst c p q ≤ nsn c p := cnt_mono (fun j _ h => by
  rw [Bool.and_eq_true] at h
  exact h.1)
theorem wgh_mono (kd : Nat) (o l : Bool) {a b : Nat} (h : a ≤ b) : wgh kd o l a ≤ wgh kd o l b := by
  unfold wgh
  split
  · omega
  · omega
  · omega
  · split <;> split <;> split <;> omega
  · omega
  · split <;> split <;> split <;> omega
theorem cof_mono (T : TW) (h p : Nat) {a b : Nat} (hab : a ≤ b) : cof T a h p ≤ cof T b h p := by
  unfold cof
  by_cases e : a = 0 ∨ rnd T h p = true ∨ shp T.1 h p = 0
  · rw [if_pos e]; exact Nat.zero_le _
  · rw [if_neg e, if_neg (by
      rintro (q | q)
      · exact e (Or.inl (by omega))
      · exact e (Or.inr q))]
    exact wgh_mono _ _ _ hab
/-- what a shed saves at a point; at all of them; on each ground -/
def svp (T : TW) (h q p : Nat) : Nat := cp T h p - cof T (nsn T.1 p - lst T.1 p q) h p
def sav (T : TW) (h q : Nat) : Nat := sm (svp T h q) 81
def svg (T : TW) (h q : Nat) : Nat := if T.1 q = 0 then sav T h q else 0
theorem svp_le (T : TW) (h q p : Nat) : svp T h q p ≤ 3 := by
  have := cp_le T h p
  unfold svp
  omega
theorem svp_0 {T : TW} {h q p : Nat} (e : cp T h p = 0 ∨ lst T.1 p q = 0) : svp T h q p = 0 := by
  unfold svp
  rcases e with e | e
  · omega
  · rw [e, Nat.sub_zero]
    unfold cp
    omega
theorem cof_le_cp (T : TW) (h q p : Nat) : cof T (nsn T.1 p - lst T.1 p q) h p ≤ cp T h p := cof_mono T h p (Nat.sub_le _ _)
/-- only what sights keep changed -/
def k41 (I I' : II) : Prop := ∀ q, q ≠ 39 → q ≠ 40 → q ≠ 41 → I' q = I q
theorem k41.rf (I : II) : k41 I I := fun _ _ _ _ => rfl
theorem k41.tr {I I' I'' : II} (h1 : k41 I I') (h2 : k41 I' I'') : k41 I I'' := fun q a b c => (h2 q a b c).trans (h1 q a b c)
theorem k39.k {I I' : II} (h : k39 I I') : k41 I I' := fun q a _ _ => h q a
theorem k41.T {T : TW} {I I' : II} {J : JJ} (h : k41 I I') {b : Nat} (hb : tb b) (hT : CTn b T I J) : CTn b T I' J := hT.keep (fun p h1 h2 => ⟨h p (by unfold tb at hb; omega) (by unfold tb at hb; omega) (by unfold tb at hb; omega), rfl⟩)
theorem CI.k41 {S : SG} {I I' : II} {J : JJ} (h : CI S I J) (hk : k41 I I') (hs : scc I' S.1.1) : CI S I' J := by
  obtain ⟨h1, h2, h3, h4, h5, h6, h7, h8⟩ := h
  exact ⟨k41.T hk tb8 h1, hs, h3.keep (hk 38 (by decide) (by decide) (by decide)) (hk 44 (by decide) (by decide) (by decide)), h4.keep (hk 72 (by decide) (by decide) (by decide)) (hk 73 (by decide) (by decide) (by decide)), h5.keep (hk 0 (by decide) (by decide) (by decide)) (fun p q1 q2 => ⟨hk p (by omega) (by omega) (by omega), rfl⟩), h6.keep (hk 45 (by decide) (by decide) (by decide)) (hk 61 (by decide) (by decide) (by decide)), h7.keep (fun p q1 q2 => ⟨hk p (by omega) (by omega) (by omega), rfl⟩), h8.keep (hk 71 (by decide) (by decide) (by decide))⟩
theorem ca_countSquaresOf {L : Int64} {f : Nat → Nat} {I : II} {J : JJ} {Q : QT} (h0 : ∀ q, q < 64 → I 40 q = nI (f q)) (kq : ∀ I' : II, (∀ p, p ≠ 40 → I' p = I p) → (∀ q, q < 64 → I' 40 q = nI (f q + (gb L q).toNat)) → Q none 90 al_R0 I' J) : CT m_X8_countSquaresOf 0 [.ref 38, .long L] 90 al_R0 I J Q := by
  refine r_X8_countSquaresOf (by decide) (fun F wk b0 b2 b29 => ?_)
  have loop : ∀ (d i : Nat) (I' : II), i + d = 64 → (∀ p, p ≠ 40 → I' p = I p) → (∀ q, q < i → I' 40 q = nI (f q + (gb L q).toNat)) → (∀ q, i ≤ q → q < 64 → I' 40 q = nI (f q)) → F 2 [some (.ref 38), some (.long L), none, some (.int (nI i))] [] 90 al_R0 I' J := by
    intro d
    induction d with
    | zero =>
      intro i I' hi g1 g2 g3
      obtain rfl : i = 64 := by omega
      exact b2 _ _ _ _ _ _ (br_t (nI_le (by omega) (by omega)) (b29 _ _ _ _ _ _ (kq I' g1 g2)))
    | succ d ih =>
      intro i I' hi g1 g2 g3
      refine b2 _ _ _ _ _ _ (br_f (nI_ge (by omega) (by omega)) (Exists.intro i (And.intro (by omega) (And.intro rfl (Exists.intro i (And.intro (by omega) (And.intro rfl ?_)))))))
      have h9 := ih (i + 1) (al_up I' 40 i (nI (f i + (gb L i).toNat))) (by omega) (fun p hp => by rw [al_up_row hp]; exact g1 p hp) (fun q hq => by
        by_cases e : q = i
        · subst e; exact al_up_s
        · rw [al_up_j e]; exact g2 q (by omega)) (fun q h1 h2 => by rw [al_up_j (by omega)]; exact g3 q (by omega) h2)
      rw [nI_s i] at h9
      rw [g3 i (by omega) (by omega), bit_at (by omega), lN_i, nI_add]
      exact h9
  exact b0 _ _ _ _ _ _ (wk _ _ _ _ _ _ _ _ (by simp [al_le, nI_0]) (loop 64 0 I rfl (fun _ _ => rfl) (fun q hq => absurd hq (by omega)) (fun q _ hq => h0 q hq)))
theorem ca_countLines {p : Nat} {c : Nat → Nat} {I : II} {J : JJ} {Q : QT} (hm : mks (J 8 4) (J 8 5) c) (hp : p < 81) (kq : ∀ I' : II, (∀ q, q ≠ 40 → I' q = I q) → (∀ q, q < 64 → I' 40 q = nI (lst c p q)) → Q none 90 al_R0 I' J) : CT m_X8_countLinesThroughSquares 0 [.ref 38, .int (nI p)] 90 al_R0 I J Q := by
  refine r_X8_countLinesThroughSquares (by decide) (fun F wk b0 b10 b49 b55 => ?_)
  have loop : ∀ (d i : Nat) (I' : II), i + d = 64 → (∀ q, q ≠ 40 → I' q = I q) → (∀ q, q < 64 → I' 40 q = nI (cnt (fun s => sen c p s && lin s p q) i)) → F 10 [some (.ref 38), some (.int (nI p)), some (.int (nI i)), none, none] [] 90 al_R0 I' J := by
    intro d
    induction d with
    | zero =>
      intro i I' hi g1 g2
      obtain rfl : i = 64 := by omega
      exact b10 _ _ _ _ _ _ (br_t (nI_le (by omega) (by omega)) (b55 _ _ _ _ _ _ (kq I' g1 g2)))
    | succ d ih =>
      intro i I' hi g1 g2
      have no : sen c p i = false → F 49 [some (.ref 38), some (.int (nI p)), some (.int (nI i)), none, none] [] 90 al_R0 I' J := fun hn => by
        have h9 := ih (i + 1) I' (by omega) g1 (fun q hq => by rw [cnt_no (by simp [hn])]; exact g2 q hq)
        rw [nI_s i] at h9
        exact b49 _ _ _ _ _ _ h9
      refine b10 _ _ _ _ _ _ (br_f (nI_ge (by omega) (by omega)) (ca_isStreet hm (by omega) (And.intro (fun c1 => no (by simp [sen, bz_f c1])) (fun c1 => ca_lineOf (by omega) hp (fun L hL => And.intro (fun c2 => ?_) (fun c2 => ?_))))))
      · rw [lg_cmp_eq, clr_of hL hm.2] at c2
        exact wk _ _ _ _ _ _ _ _ (by simp [al_le]) (no (by simp [sen, c2]))
      · rw [lg_cmp_eq, clr_of hL hm.2] at c2
        have hsn : sen c p i = true := by simp only [sen, bz_t c1, c2]; rfl
        refine ca_countSquaresOf g2 (fun I2 g3 g4 => ?_)
        have h9 := ih (i + 1) I2 (by omega) (fun q hq => (g3 q hq).trans (g1 q hq)) (fun q hq => by
          rw [g4 q hq, hL q hq, cnt]
          simp [hsn])
        rw [nI_s i] at h9
        exact b49 _ _ _ _ _ _ (wk _ _ _ _ _ _ _ _ (by simp [al_le]) h9)
  refine b0 _ _ _ _ _ _ (cj_fillI (p := 40) (len := 64) (by decide) rfl (by decide) (fun I' h1 h2 h3 => ?_))
  exact loop 64 0 I' rfl h1 h2
theorem ca_addSaved {h p : Nat} {T : TW} {f : Nat → Nat} {I : II} {J : JJ} {Q : QT} (hT : CTn 8 T I J) (hv : VT T) (hs : scc I T.1) (hh : h < T.2.1) (hp : p < 81) (hf : ∀ q, q < 64 → I 41 q = nI (f q)) (kq : ∀ I' : II, k41 I I' → scc I' T.1 → (∀ q, q < 64 → I' 41 q = nI (f q + svp T h q p)) → Q none 90 al_R0 I' J) : CT m_X8_addSaved 0 [.ref 38, .int (nI h), .int (nI p), .int (nI (cp T h p))] 90 al_R0 I J Q := by
  refine r_X8_addSaved (by decide) (fun F wk b0 b15 b63 b69 => ?_)
  have loop : ∀ (d i : Nat) (I' : II), i + d = 64 → k41 I I' → scc I' T.1 → (∀ q, q < 64 → I' 40 q = nI (lst T.1 p q)) → (∀ q, q < i → I' 41 q = nI (f q + svp T h q p)) → (∀ q, i ≤ q → q < 64 → I' 41 q = nI (f q)) → F 15 [some (.ref 38), some (.int (nI h)), some (.int (nI p)), some (.int (nI (cp T h p))), some (.int (nI (nsn T.1 p))), some (.int (nI i))] [] 90 al_R0 I' J := by
    intro d
    induction d with
    | zero =>
      intro i I' hi g1 g2 g3 g4 g5
      obtain rfl : i = 64 := by omega
      exact b15 _ _ _ _ _ _ (br_t (nI_le (by omega) (by omega)) (b69 _ _ _ _ _ _ (kq I' g1 g2 g4)))
    | succ d ih =>
      intro i I' hi g1 g2 g3 g4 g5
      have hle := lst_le T.1 p i
      have hn64 := nsn_le T.1 p
      have hcp := cp_le T h p
      have hcc := cof_le_cp T h i p
      refine b15 _ _ _ _ _ _ (br_f (nI_ge (by omega) (by omega)) (Exists.intro i (And.intro (by omega) (And.intro rfl (And.intro (fun c => ?_) (fun c => ?_))))))
      · rw [g3 i (by omega), ← nI_0, nI_leI (by omega) (by omega)] at c
        have h9 := ih (i + 1) I' (by omega) g1 g2 g3 (fun q hq => by
          by_cases e : q = i
          · subst e
            rw [svp_0 (Or.inr (by omega)), Nat.add_zero]
            exact g5 q (by omega) (by omega)
          · exact g4 q (by omega)) (fun q h1 h2 => g5 q (by omega) h2)
        rw [nI_s i] at h9
        exact b63 _ _ _ _ _ _ h9
      · refine Exists.intro i (And.intro (by omega) (And.intro rfl (Exists.intro i (And.intro (by omega) (And.intro rfl ?_)))))
        rw [g3 i (by omega), g5 i (by omega) (by omega)]
        dsimp only [o_iload, o_lload, o_aload, o_istore, o_astore, o_lstore, o_iinc, o_ic, o_lc, o_sc, o_iadd, o_isub, o_imul, o_iand, o_ior, o_ixor, o_ishl, o_ishr, o_ladd, o_lsub, o_land, o_lor, o_lxor, o_lshl, o_lshr, o_i2l, o_l2i, o_lcmp, o_dup, o_dup2, o_pop, o_getI, o_getJ, o_getR, o_putI, o_putZ, o_putJ, o_iald, o_zald, o_lald, o_aald, o_iast, o_zast, o_last, o_alen, o_cpyI, o_cpyJ, o_iret, o_zret, o_lret, o_aret, o_vret, o_idiv, o_irem, o_ineg, o_ifeq, o_ifne, o_iflt, o_ifge, o_ifgt, o_ifle, o_iceq, o_icne, o_iclt, o_icge, o_icgt, o_icle, al_gL, al_sL, al_sJ, al_gd, o_cV, al_pop, al_hd]
        rw [pk_sub (by omega)]
        refine al_isC_in rfl (al_r8_in (Nat.le_of_ble_eq_true rfl) (ca_countIfSeen (k41.T g1 tb8 hT) hv hh hp (by omega) ?_))
        dsimp only [al_pu, o_iload, o_lload, o_aload, o_istore, o_astore, o_lstore, o_iinc, o_ic, o_lc, o_sc, o_iadd, o_isub, o_imul, o_iand, o_ior, o_ixor, o_ishl, o_ishr, o_ladd, o_lsub, o_land, o_lor, o_lxor, o_lshl, o_lshr, o_i2l, o_l2i, o_lcmp, o_dup, o_dup2, o_pop, o_getI, o_getJ, o_getR, o_putI, o_putZ, o_putJ, o_iald, o_zald, o_lald, o_aald, o_iast, o_zast, o_last, o_alen, o_cpyI, o_cpyJ, o_iret, o_zret, o_lret, o_aret, o_vret, o_idiv, o_irem, o_ineg, o_ifeq, o_ifne, o_iflt, o_ifge, o_ifgt, o_ifle, o_iceq, o_icne, o_iclt, o_icge, o_icgt, o_icle, al_gL, al_sL, al_sJ, al_gd]
        rw [pk_sub hcc, nI_add]
        refine al_isA_in (len := 64) rfl (Exists.intro i (And.intro (by omega) (And.intro rfl ?_)))
        have h9 := ih (i + 1) (al_up I' 41 i (nI (f i + svp T h i p))) (by omega) (g1.tr (fun q a b e => al_up_row e)) (g2.keep (al_up_row (by decide))) (fun q hq => by rw [al_up_p (by decide)]; exact g3 q hq) (fun q hq => by
          by_cases e : q = i
          · subst e; exact al_up_s
          · rw [al_up_j e]; exact g4 q (by omega)) (fun q h1 h2 => by rw [al_up_j (by omega)]; exact g5 q (by omega) h2)
        rw [nI_s i] at h9
        exact b63 _ _ _ _ _ _ h9
  refine b0 _ _ _ _ _ _ (ca_countLines hT.2.2.1 hp (fun I1 g1 g2 => ?_))
  have hk1 : k41 I I1 := fun q _ b _ => g1 q b
  refine ca_seenFrom (k41.T hk1 tb8 hT).2.2.1 (hs.keep (g1 39 (by decide))) hp (fun I2 g3 g4 => ?_)
  refine loop 64 0 I2 rfl (hk1.tr (k39.k g3)) g4 (fun q hq => by rw [g3 40 (by decide)]; exact g2 q hq) (fun q hq => absurd hq (by omega)) (fun q _ hq => by rw [g3 41 (by decide), g1 41 (by decide)]; exact hf q hq)
theorem ca_bestShed {h : Nat} {T : TW} {I : II} {J : JJ} {Q : QT} (hT : CTn 8 T I J) (hv : VT T) (hs : scc I T.1) (hh : h < T.2.1) (kq : ∀ I' : II, k41 I I' → scc I' T.1 → Q (some (.int (ar (svg T h) 64))) 90 al_R0 I' J) : CT m_X8_bestShed 0 [.ref 38, .int (nI h)] 90 al_R0 I J Q := by
  refine r_X8_bestShed (by decide) (fun F wk b0 b10 b34 b40 b47 b89 b95 => ?_)
  have hsv : ∀ q, svg T h q ≤ 243 := fun q => by
    unfold svg
    split
    · exact sm_le (svp_le T h q) 81
    · omega
  have loop2 : ∀ (I' : II), k41 I I' → scc I' T.1 → (∀ q, q < 64 → I' 41 q = nI (sav T h q)) → ∀ (d i : Nat), i + d = 64 → F 47 [some (.ref 38), some (.int (nI h)), some (.int (ar (svg T h) i)), some (.int (nI (mx (svg T h) i))), some (.int (nI i))] [] 90 al_R0 I' J := by
    intro I' g1 g2 g3 d
    induction d with
    | zero =>
      intro i hi
      obtain rfl : i = 64 := by omega
      exact b47 _ _ _ _ _ _ (br_t (nI_le (by omega) (by omega)) (b95 _ _ _ _ _ _ (kq I' g1 g2)))
    | succ d ih =>
      intro i hi
      have h9 := ih (i + 1) (by omega)
      have hT' := k41.T g1 tb8 hT
      have hm := mx_le hsv i
      have hc9 := hv.cdo i (by omega)
      have hsa := sm_le (svp_le T h i) 81
      refine b47 _ _ _ _ _ _ (br_f (nI_ge (by omega) (by omega)) (Exists.intro i (And.intro (by omega) (And.intro rfl ?_))))
      have e9 : I' 9 i = nI (T.1 i) := hT'.2.1 i (by omega)
      refine And.intro (fun c => ?_) (fun c => ?_)
      · rw [e9, ← nI_0, nI_eq (by omega) (by omega)] at c
        have e0 : svg T h i = 0 := if_neg c
        rw [mx, ar, e0, if_neg (by omega), if_neg (by omega), nI_s i] at h9
        exact b89 _ _ _ _ _ _ h9
      · rw [e9, ← nI_0, nI_eq (by omega) (by omega)] at c
        have e0 : svg T h i = sav T h i := if_pos c
        refine Exists.intro i (And.intro (by omega) (And.intro rfl ?_))
        have e41 : I' 41 i = nI (sav T h i) := g3 i (by omega)
        refine And.intro (fun c2 => ?_) (fun c2 => ?_)
        · rw [e41, nI_leI (by unfold sav; omega) (by omega)] at c2
          rw [mx, ar, e0, if_neg (by omega), if_neg (by omega), nI_s i] at h9
          exact b89 _ _ _ _ _ _ h9
        · rw [e41, nI_leI (by unfold sav; omega) (by omega)] at c2
          rw [mx, ar, e0, if_pos (by omega), if_pos (by omega), nI_s i, ← e41] at h9
          exact Exists.intro i (And.intro (by omega) (And.intro rfl (b89 _ _ _ _ _ _ h9)))
  have loop : ∀ (d i : Nat) (I' : II), i + d = 81 → k41 I I' → scc I' T.1 → (∀ q, q < 64 → I' 41 q = nI (sm (svp T h q) i)) → F 10 [some (.ref 38), some (.int (nI h)), some (.int (nI i)), none, none] [] 90 al_R0 I' J := by
    intro d
    induction d with
    | zero =>
      intro i I' hi g1 g2 g3
      obtain rfl : i = 81 := by omega
      exact b10 _ _ _ _ _ _ (br_t (nI_le (by omega) (by omega)) (b40 _ _ _ _ _ _ (loop2 I' g1 g2 g3 64 0 rfl)))
    | succ d ih =>
      intro i I' hi g1 g2 g3
      have hT' := k41.T g1 tb8 hT
      have hcp := cp_le T h i
      refine b10 _ _ _ _ _ _ (br_f (nI_ge (by omega) (by omega)) (ca_countOf hT' hv g2 hh (by omega) (fun I1 g4 g5 => And.intro (fun c => ?_) (fun c => ?_))))
      · rw [← nI_0, nI_leI (by omega) (by omega)] at c
        have h9 := ih (i + 1) I1 (by omega) (g1.tr (k39.k g4)) g5 (fun q hq => by
          rw [sm, svp_0 (Or.inl (by omega)), Nat.add_zero, g4 41 (by decide)]
          exact g3 q hq)
        rw [nI_s i] at h9
        exact b34 _ _ _ _ _ _ (wk _ _ _ _ _ _ _ _ (by simp [al_le]) h9)
      · refine ca_addSaved (T := T) (k41.T (k39.k g4) tb8 hT') hv g5 hh (by omega) (f := fun q => sm (svp T h q) i) (fun q hq => by rw [g4 41 (by decide)]; exact g3 q hq) (fun I2 g6 g7 g8 => ?_)
        have h9 := ih (i + 1) I2 (by omega) ((g1.tr (k39.k g4)).tr g6) g7 (fun q hq => g8 q hq)
        rw [nI_s i] at h9
        exact b34 _ _ _ _ _ _ (wk _ _ _ _ _ _ _ _ (by simp [al_le]) h9)
  refine b0 _ _ _ _ _ _ (cj_fillI (p := 41) (len := 64) (by decide) rfl (by decide) (fun I' h1 h2 h3 => ?_))
  exact loop 81 0 I' rfl (fun q _ _ e => h1 q e) (hs.keep (h1 39 (by decide))) h2
theorem X_shed {a : Int32} {S : SG} {I : II} {J : JJ} {Q : QT} (hC : CI S I J) (hV : VS S) (k1 : ∀ h q, h < S.1.2.1 → a = nI h → ar (svg S.1 h) 64 = nI q → q < 64 → PX I J Q S (.int (nI q))) (k2 : ing S.1.2.1 a → PX I J Q (fnd 0 S) (.int (-1000000001))) (k3 : ∀ h, h < S.1.2.1 → a = nI h → ar (svg S.1 h) 64 = -1 → PX I J Q (fnd 3 S) (.int (-1000000004))) : CT m_X11_shed 0 [.ref 0, .int a] 90 al_R0 I J Q := by
  refine r_X11_shed (by decide) (fun F wk b0 b15 b32 b38 => ?_)
  refine b0 _ _ _ _ _ _ (cx_isHouse hV.1.1 hC.1.1 (fun h hh e => br_u (by decide +kernel) (b15 _ _ _ _ _ _ ?_)) (fun hn => br_v nI_0 (cx_finding hC (k := 0) (by decide) (by decide +kernel) (k2 hn))))
  have p1 := fun q => k1 h q hh e
  have p3 := k3 h hh e
  subst e
  refine ca_bestShed hC.1 hV.1 hC.2.1 hh (fun I1 g1 g2 => ?_)
  have hC1 := hC.k41 g1 g2
  have hf1 : f74 I J I1 J := fun p hp => ⟨g1 p (by omega) (by omega) (by omega), rfl⟩
  rcases ar_or (svg S.1 h) 64 with q | ⟨k, q1, q2, q3⟩
  · rw [q]
    exact br_t (by decide +kernel) (b32 _ _ _ _ _ _ (cx_finding hC1 (k := 3) (by decide) (by decide +kernel) (fun I2 J2 h1 h2 => b38 _ _ _ _ _ _ (p3 q I2 J2 h1 (f74.tr hf1 h2)))))
  · rw [q2]
    exact br_f (nI_pos (by omega)) (b38 _ _ _ _ _ _ (p1 k q2 q1 I1 J hC1 hf1))
