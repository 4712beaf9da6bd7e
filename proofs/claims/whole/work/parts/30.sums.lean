/-! SUMS AND GREATEST ONES -/
def sm (f : Nat → Nat) : Nat → Nat
  | 0 => 0
  | n + 1 => sm f n + f n
def mx (f : Nat → Nat) : Nat → Nat
  | 0 => 0
  | n + 1 => if mx f n < f n then f n else mx f n
def ar (f : Nat → Nat) : Nat → Int32
  | 0 => -1
  | n + 1 => if mx f n < f n then nI n else ar f n
theorem sm_le {f : Nat → Nat} {k : Nat} (h : ∀ p, f p ≤ k) : ∀ n, sm f n ≤ n * k
  | 0 => by simp [sm]
  | n + 1 => by
    have h1 := sm_le h n
    have h2 := h n
    rw [sm, Nat.succ_mul]
    omega
theorem mx_le {f : Nat → Nat} {k : Nat} (h : ∀ p, f p ≤ k) : ∀ n, mx f n ≤ k
  | 0 => by simp [mx]
  | n + 1 => by
    have h1 := mx_le h n
    have h2 := h n
    rw [mx]
    split <;> omega
theorem sm_cong {f g : Nat → Nat} : ∀ {n : Nat}, (∀ p, p < n → f p = g p) → sm f n = sm g n
  | 0, _ => rfl
  | n + 1, h => by rw [sm, sm, sm_cong (fun p hp => h p (by omega)), h n (by omega)]
theorem mx_cong {f g : Nat → Nat} : ∀ {n : Nat}, (∀ p, p < n → f p = g p) → mx f n = mx g n
  | 0, _ => rfl
  | n + 1, h => by rw [mx, mx, mx_cong (fun p hp => h p (by omega)), h n (by omega)]
theorem ar_cong {f g : Nat → Nat} : ∀ {n : Nat}, (∀ p, p < n → f p = g p) → ar f n = ar g n
  | 0, _ => rfl
  | n + 1, h => by rw [ar, ar, ar_cong (fun p hp => h p (by omega)), mx_cong (fun p hp => h p (by omega)), h n (by omega)]
/-- none, or one that is in range and counts -/
theorem ar_or (f : Nat → Nat) : ∀ n, ar f n = -1 ∨ ∃ k, k < n ∧ ar f n = nI k ∧ 0 < f k
  | 0 => Or.inl rfl
  | n + 1 => by
    rw [ar]
    split
    · exact Or.inr ⟨n, by omega, rfl, by omega⟩
    · rcases ar_or f n with h | ⟨k, h1, h2, h3⟩
      · exact Or.inl h
      · exact Or.inr ⟨k, by omega, h2, h3⟩
theorem wgh_le (kd : Nat) (o l : Bool) (ns : Nat) : wgh kd o l ns ≤ 3 := by
  unfold wgh
  split
  · omega
  · split <;> omega
  · split <;> omega
  · split <;> split <;> omega
  · split <;> omega
  · split <;> split <;> omega
theorem cof_le (T : TW) (ns h p : Nat) : cof T ns h p ≤ 3 := by
  unfold cof
  split
  · omega
  · exact wgh_le _ _ _ _
/-- what a point counts for a house, and all of its points together -/
def cp (T : TW) (h p : Nat) : Nat := cof T (nsn T.1 p) h p
def cts (T : TW) (h : Nat) : Nat := sm (cp T h) 81
theorem cp_le (T : TW) (h p : Nat) : cp T h p ≤ 3 := cof_le _ _ _ _
theorem cts_le (T : TW) (h : Nat) : cts T h ≤ 243 := sm_le (cp_le T h) 81
theorem cp_no {T : TW} {h p : Nat} (e : shp T.1 h p = 0) : cp T h p = 0 := by
  unfold cp cof
  rw [if_pos (Or.inr (Or.inr e))]
/-- nothing changed but the numbers kept of what is seen -/
def k39 (I I' : II) : Prop := ∀ q, q ≠ 39 → I' q = I q
theorem k39.rf (I : II) : k39 I I := fun _ _ => rfl
theorem k39.tr {I I' I'' : II} (h1 : k39 I I') (h2 : k39 I' I'') : k39 I I'' := fun q hq => (h2 q hq).trans (h1 q hq)
theorem k39.T {T : TW} {I I' : II} {J : JJ} (h : k39 I I') {b : Nat} (hb : tb b) (hT : CTn b T I J) : CTn b T I' J := hT.keep (fun p h1 h2 => ⟨h p (by unfold tb at hb; omega), rfl⟩)
theorem ca_countOf {h p : Nat} {T : TW} {I : II} {J : JJ} {Q : QT} (hT : CTn 8 T I J) (hv : VT T) (hs : scc I T.1) (hh : h < T.2.1) (hp : p < 81) (kq : ∀ I' : II, k39 I I' → scc I' T.1 → Q (some (.int (nI (cp T h p)))) 90 al_R0 I' J) : CT m_X8_countOf 0 [.ref 38, .int (nI h), .int (nI p)] 90 al_R0 I J Q := by
  have h6 := hv.1
  have hsh := shp_lt T.1 h p
  refine r_X8_countOf (by decide) (fun F wk b0 b14 => ?_)
  refine b0 _ _ _ _ _ _ (ca_shapeAt hT.2.1 hv.cdo (by omega) hp (And.intro (fun c1 => ?_) (fun c1 => ?_)))
  · refine b14 _ _ _ _ _ _ (ca_seenFrom hT.2.2.1 hs hp (fun I' g1 g2 => ?_))
    exact ca_countIfSeen (k39.T g1 tb8 hT) hv hh hp (nsn_le _ _) (kq I' g1 g2)
  · rw [← nI_0, nI_eq (by omega) (by omega)] at c1
    have h9 := kq I (k39.rf I) hs
    rw [cp_no c1] at h9
    exact h9
theorem ca_countsOf {h : Nat} {T : TW} {I : II} {J : JJ} {Q : QT} (hT : CTn 8 T I J) (hv : VT T) (hs : scc I T.1) (hh : h < T.2.1) (kq : ∀ I' : II, k39 I I' → scc I' T.1 → Q (some (.int (nI (cts T h)))) 90 al_R0 I' J) : CT m_X8_countsOf 0 [.ref 38, .int (nI h)] 90 al_R0 I J Q := by
  have h6 := hv.1
  refine r_X8_countsOf (by decide) (fun F wk b0 b4 b39 b45 => ?_)
  have loop : ∀ (d i : Nat) (I' : II), i + d = 81 → k39 I I' → scc I' T.1 → F 4 [some (.ref 38), some (.int (nI h)), some (.int (nI (sm (cp T h) i))), some (.int (nI i))] [] 90 al_R0 I' J := by
    intro d
    induction d with
    | zero =>
      intro i I' hi g1 g2
      obtain rfl : i = 81 := by omega
      exact b4 _ _ _ _ _ _ (br_t (nI_le (by omega) (by omega)) (b45 _ _ _ _ _ _ (kq I' g1 g2)))
    | succ d ih =>
      intro i I' hi g1 g2
      have hsh := shp_lt T.1 h i
      have hT' := k39.T g1 tb8 hT
      refine b4 _ _ _ _ _ _ (br_f (nI_ge (by omega) (by omega)) (ca_shapeAt hT'.2.1 hv.cdo (by omega) (by omega) (And.intro (fun c1 => ?_) (fun c1 => ?_))))
      · rw [← nI_0, nI_eq (by omega) (by omega)] at c1
        have h9 := ih (i + 1) I' (by omega) g1 g2
        rw [sm, cp_no c1, Nat.add_zero, nI_s i] at h9
        exact b39 _ _ _ _ _ _ h9
      · refine ca_seenFrom hT'.2.2.1 g2 (by omega) (fun I2 g3 g4 => ?_)
        refine ca_countIfSeen (k39.T g3 tb8 hT') hv hh (by omega) (nsn_le _ _) ?_
        have h9 := ih (i + 1) I2 (by omega) (g1.tr g3) g4
        rw [sm, nI_s i, ← nI_add] at h9
        exact b39 _ _ _ _ _ _ h9
  exact b0 _ _ _ _ _ _ (loop 81 0 I rfl (k39.rf I) hs)
theorem ca_dearest {h : Nat} {T : TW} {I : II} {J : JJ} {Q : QT} (hT : CTn 8 T I J) (hv : VT T) (hs : scc I T.1) (hh : h < T.2.1) (kq : ∀ I' : II, k39 I I' → scc I' T.1 → Q (some (.int (ar (cp T h) 81))) 90 al_R0 I' J) : CT m_X8_dearestCorner 0 [.ref 38, .int (nI h)] 90 al_R0 I J Q := by
  have h6 := hv.1
  refine r_X8_dearestCorner (by decide) (fun F wk b0 b7 b57 b63 => ?_)
  have loop : ∀ (d i : Nat) (I' : II), i + d = 81 → k39 I I' → scc I' T.1 → F 7 [some (.ref 38), some (.int (nI h)), some (.int (ar (cp T h) i)), some (.int (nI (mx (cp T h) i))), some (.int (nI i)), none] [] 90 al_R0 I' J := by
    intro d
    induction d with
    | zero =>
      intro i I' hi g1 g2
      obtain rfl : i = 81 := by omega
      exact b7 _ _ _ _ _ _ (br_t (nI_le (by omega) (by omega)) (b63 _ _ _ _ _ _ (kq I' g1 g2)))
    | succ d ih =>
      intro i I' hi g1 g2
      have hsh := shp_lt T.1 h i
      have hm := mx_le (cp_le T h) i
      have hci := cp_le T h i
      have hT' := k39.T g1 tb8 hT
      refine b7 _ _ _ _ _ _ (br_f (nI_ge (by omega) (by omega)) (ca_shapeAt hT'.2.1 hv.cdo (by omega) (by omega) (And.intro (fun c1 => ?_) (fun c1 => ?_))))
      · rw [← nI_0, nI_eq (by omega) (by omega)] at c1
        have h9 := ih (i + 1) I' (by omega) g1 g2
        rw [mx, ar, cp_no c1, if_neg (by omega), if_neg (by omega), nI_s i] at h9
        exact b57 _ _ _ _ _ _ h9
      · refine ca_seenFrom hT'.2.2.1 g2 (by omega) (fun I2 g3 g4 => ?_)
        refine ca_countIfSeen (k39.T g3 tb8 hT') hv hh (by omega) (nsn_le _ _) ?_
        have h9 := ih (i + 1) I2 (by omega) (g1.tr g3) g4
        show o_istore 5 _ _ [.int (nI (cp T h i))] _ _ _ _
        refine And.intro (fun c2 => ?_) (fun c2 => ?_)
        · rw [nI_leI (by omega) (by omega)] at c2
          rw [mx, ar, if_neg (by omega), if_neg (by omega), nI_s i] at h9
          refine b57 _ _ _ _ _ _ (wk _ _ _ _ _ _ _ _ ?_ h9)
          simp [al_le]
        · rw [nI_leI (by omega) (by omega)] at c2
          rw [mx, ar, if_pos (by omega), if_pos (by omega), nI_s i] at h9
          refine b57 _ _ _ _ _ _ (wk _ _ _ _ _ _ _ _ ?_ h9)
          simp [al_le]
  exact b0 _ _ _ _ _ _ (loop 81 0 I rfl (k39.rf I) hs)
/-- what the class's own town is, with what is kept of it -/
theorem ca_forget {I : II} {J : JJ} {Q : QT} (kq : ∀ I' : II, (∀ q, q ≠ 39 → q ≠ 38 → I' q = I q) → (∀ p, p < 81 → I' 39 p = -1) → I' 38 7 = -1 → Q none 90 al_R0 I' J) : CT m_X8_forget 0 [.ref 38] 90 al_R0 I J Q := by
  refine r_X8_forget (by decide) (fun F wk b0 => ?_)
  refine b0 _ _ _ _ _ _ (cj_fillI (p := 39) (len := 81) (by decide) rfl (by decide) (fun I' h1 h2 h3 => ?_))
  refine kq (al_up I' 38 7 (-1)) (fun q q1 q2 => by rw [al_up_row q2]; exact h1 q q1) (fun p hp => by rw [al_up_p (by decide)]; exact h2 p hp) al_up_s
theorem ca_taxOf {h : Nat} {T : TW} {I : II} {J : JJ} {Q : QT} (hT : CTn 8 T I J) (hv : VT T) (hs : scc I T.1) (hh : h < T.2.1) (kq : ∀ I' : II, k39 I I' → scc I' T.1 → Q (some (.int (nI (rtN T h * cts T h)))) 90 al_R0 I' J) : CT m_X11_taxOf 0 [.ref 0, .int (nI h)] 90 al_R0 I J Q := by
  have h6 := hv.1
  refine r_X11_taxOf (by decide) (fun F wk b0 => ?_)
  refine b0 _ _ _ _ _ _ (Exists.intro h (And.intro (by omega) (And.intro rfl ?_)))
  refine al_rk_in (tb_hO tb8 (by omega)) ?_
  dsimp only [o_iload, o_lload, o_aload, o_istore, o_astore, o_lstore, o_iinc, o_ic, o_lc, o_sc, o_iadd, o_isub, o_imul, o_iand, o_ior, o_ixor, o_ishl, o_ishr, o_ladd, o_lsub, o_land, o_lor, o_lxor, o_lshl, o_lshr, o_i2l, o_l2i, o_lcmp, o_dup, o_dup2, o_pop, o_getI, o_getJ, o_getR, o_putI, o_putZ, o_putJ, o_iald, o_zald, o_lald, o_aald, o_iast, o_zast, o_last, o_alen, o_cpyI, o_cpyJ, o_iret, o_zret, o_lret, o_aret, o_vret, o_idiv, o_irem, o_ineg, o_ifeq, o_ifne, o_iflt, o_ifge, o_ifgt, o_ifle, o_iceq, o_icne, o_iclt, o_icge, o_icgt, o_icle, al_gL, al_sL, al_sJ, al_gd]
  refine al_isC_in (tb_hC tb8 (by omega)) ?_
  rw [show I (8 + 3 + 2 * h) 1 = T.2.2.1 h 1 from hT.2.2.2.1 h (by omega) 1 (by omega), (hv.rt hh).2.2]
  refine ca_countsOf hT hv hs hh (fun I' g1 g2 => ?_)
  have h9 := kq I' g1 g2
  rw [← pk_mul] at h9
  exact h9
