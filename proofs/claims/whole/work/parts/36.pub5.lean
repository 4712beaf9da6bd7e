/-! TAPE, IMAGES, COUNTS, STATUS -/
def sP (S : SG) (t : Nat × (Nat → Int32)) : SG := (S.1, S.2.1, S.2.2.1, t, S.2.2.2.2)
def sK (S : SG) (b : Bool) (T : TW) : SG := (S.1, b, T, S.2.2.2)
def sB (S : SG) (B : (Nat → Int32) × (Nat → Int32) × (Nat → Nat → Int64)) : SG := (S.1, S.2.1, S.2.2.1, S.2.2.2.1, B, S.2.2.2.2.2)
theorem CI.tape {S : SG} {t : Nat × (Nat → Int32)} {I I' : II} {J : JJ} (h : CI S I J) (ht : tap I' t) (hk : ∀ p, p ≠ 45 → p ≠ 61 → I' p = I p) : CI (sP S t) I' J := by
  obtain ⟨h1, h2, h3, h4, h5, h6, h7, h8⟩ := h
  exact ⟨h1.keep (fun p q1 q2 => ⟨hk p (by omega) (by omega), rfl⟩), h2.keep (hk 39 (by omega) (by omega)), h3.keep (hk 38 (by omega) (by omega)) (hk 44 (by omega) (by omega)), h4.keep (hk 72 (by omega) (by omega)) (hk 73 (by omega) (by omega)), h5.keep (hk 0 (by omega) (by omega)) (fun p q1 q2 => ⟨hk p (by omega) (by omega), rfl⟩), ht, h7.keep (fun p q1 q2 => ⟨hk p (by omega) (by omega), rfl⟩), h8.keep (hk 71 (by omega) (by omega))⟩
def fda (a : Int32) (k : Nat) (t : Nat × (Nat → Int32)) : Nat × (Nat → Int32) := (t.1 + 1, ups t.2 t.1 ((a >>> ((nI 8 * nI k) &&& 31)) &&& nI 255))
def fdl (a : Int32) : Nat → Nat × (Nat → Int32) → Nat × (Nat → Int32)
  | 0, t => t
  | k + 1, t => fdl a k (fda a k t)
theorem fdl_n (a : Int32) : ∀ n t, (fdl a n t).1 = t.1 + n
  | 0, t => rfl
  | n + 1, t => by
    rw [fdl, fdl_n a n]
    show t.1 + 1 + n = t.1 + (n + 1)
    omega
theorem ca_append {x : Int32} {t : Nat × (Nat → Int32)} {I : II} {J : JJ} {Q : QT} (ht : tap I t) (hl : t.1 < 120) (kq : ∀ I' : II, tap I' (t.1 + 1, ups t.2 t.1 (x &&& nI 255)) → (∀ p, p ≠ 45 → p ≠ 61 → I' p = I p) → Q none 90 al_R0 I' J) : CT m_X10_append 0 [.ref 45, .int x] 90 al_R0 I J Q := by
  refine r_X10_append (by decide) (fun F wk b0 b33 => ?_)
  refine b0 _ _ _ _ _ _ (br_f (by rw [ht.1]; exact nI_ge (by omega) (by omega)) (Exists.intro t.1 (And.intro hl (And.intro ht.1 (b33 _ _ _ _ _ _ (kq _ ?_ ?_))))))
  · refine ⟨?_, fun j hj => ?_⟩
    · rw [al_up_s, al_up_p (by decide), ht.1]
      exact (nI_s _).symm
    · rw [al_up_p (by decide)]
      show _ = ups t.2 t.1 (x &&& nI 255) j
      by_cases e : j = t.1
      · rw [e, al_up_s, ups_s]
      · rw [al_up_j e, ups_n e]
        exact ht.2 j (by have : j < t.1 + 1 := hj; omega)
  · intro p p1 p2
    rw [al_up_row p1, al_up_row p2]
theorem X_feed {a b : Int32} {S : SG} {I : II} {J : JJ} {Q : QT} (hC : CI S I J) (hV : VS S) (k1 : ∀ n, 1 ≤ n → n ≤ 4 → b = nI n → S.2.2.2.1.1 + n ≤ 120 → PX I J Q (sP S (fdl a n S.2.2.2.1)) (.int (nI (S.2.2.2.1.1 + n)))) (k2 : (∀ n, 1 ≤ n → n ≤ 4 → ¬ b = nI n) → PX I J Q (fnd 0 S) (.int (-1000000001))) (k3 : ∀ n, 1 ≤ n → n ≤ 4 → b = nI n → 120 < S.2.2.2.1.1 + n → PX I J Q (fnd 1 S) (.int (-1000000002))) : CT m_X11_feed 0 [.ref 0, .int a, .int b] 90 al_R0 I J Q := by
  have ht := hC.2.2.2.2.2.1
  have ht120 := hV.2.2.1.1
  refine r_X11_feed (by decide) (fun F wk b0 b10 b17 b38 b42 b65 => ?_)
  have h10 : (∀ n, 1 ≤ n → n ≤ 4 → ¬ b = nI n) → F 10 [some (.ref 0), some (.int a), some (.int b), none] [] 90 al_R0 I J := fun q => b10 _ _ _ _ _ _ (cx_finding hC (k := 0) (by decide) (by decide +kernel) (k2 q))
  refine b0 _ _ _ _ _ _ (And.intro (fun c => ?_) (fun c => And.intro (fun c2 => ?_) (fun c2 => ?_)))
  · rw [ix_lt (by decide)] at c
    refine h10 (fun y y1 y2 e => ?_)
    rw [e, nI_toInt (by omega)] at c
    omega
  · rw [ix_lt (by decide)] at c
    rw [ix_le (by decide)] at c2
    obtain ⟨n, n1, n2, e⟩ : ∃ y, 1 ≤ y ∧ y ≤ 4 ∧ b = nI y := ⟨b.toInt.toNat, by omega, by omega, i_of (by omega) (by omega)⟩
    have p1 := k1 n n1 n2 e
    have p3 := k3 n n1 n2 e
    clear k1 k2 k3 h10 c c2
    subst e
    refine b17 _ _ _ _ _ _ ?_
    dsimp only [k_X11_feed_17, o_iload, o_lload, o_aload, o_istore, o_astore, o_lstore, o_iinc, o_ic, o_lc, o_sc, o_iadd, o_isub, o_imul, o_iand, o_ior, o_ixor, o_ishl, o_ishr, o_ladd, o_lsub, o_land, o_lor, o_lxor, o_lshl, o_lshr, o_i2l, o_l2i, o_lcmp, o_dup, o_dup2, o_pop, o_getI, o_getJ, o_getR, o_putI, o_putZ, o_putJ, o_iald, o_zald, o_lald, o_aald, o_iast, o_zast, o_last, o_alen, o_cpyI, o_cpyJ, o_iret, o_zret, o_lret, o_aret, o_vret, o_idiv, o_irem, o_ineg, o_ifeq, o_ifne, o_iflt, o_ifge, o_ifgt, o_ifle, o_iceq, o_icne, o_iclt, o_icge, o_icgt, o_icle, al_gL, al_sL, al_sJ, al_gd]
    show (I 45 3 + nI n ≤ nI 120 → _) ∧ (¬ I 45 3 + nI n ≤ nI 120 → _)
    rw [ht.1, nI_add, nI_leI (by omega) (by omega)]
    refine And.intro (fun c => ?_) (fun c => cx_finding hC (k := 1) (by decide) (by decide +kernel) (p3 (by omega)))
    have h9 := p1 c
    have loop : ∀ (k : Nat) (v : Int32) (t : Nat × (Nat → Int32)) (I' : II), v + nI 1 = nI k → fdl a n S.2.2.2.1 = fdl a k t → t.1 + k = S.2.2.2.1.1 + n → CI (sP S t) I' J → f74 I J I' J → F 42 [some (.ref 0), some (.int a), some (.int (nI n)), some (.int v)] [] 90 al_R0 I' J := by
      intro k
      induction k with
      | zero =>
        intro v t I' hv h1 h2 g1 g2
        have hv2 : v = -1 := by
          have h3 : v + nI 1 - nI 1 = nI 0 - nI 1 := by rw [hv]
          rw [Int32.add_sub_cancel] at h3
          rw [h3]
          decide +kernel
        refine b42 _ _ _ _ _ _ (br_t (by rw [hv2]; decide +kernel) (b65 _ _ _ _ _ _ ?_))
        dsimp only [k_X11_feed_65, o_iload, o_lload, o_aload, o_istore, o_astore, o_lstore, o_iinc, o_ic, o_lc, o_sc, o_iadd, o_isub, o_imul, o_iand, o_ior, o_ixor, o_ishl, o_ishr, o_ladd, o_lsub, o_land, o_lor, o_lxor, o_lshl, o_lshr, o_i2l, o_l2i, o_lcmp, o_dup, o_dup2, o_pop, o_getI, o_getJ, o_getR, o_putI, o_putZ, o_putJ, o_iald, o_zald, o_lald, o_aald, o_iast, o_zast, o_last, o_alen, o_cpyI, o_cpyJ, o_iret, o_zret, o_lret, o_aret, o_vret, o_idiv, o_irem, o_ineg, o_ifeq, o_ifne, o_iflt, o_ifge, o_ifgt, o_ifle, o_iceq, o_icne, o_iclt, o_icge, o_icgt, o_icle, al_gL, al_sL, al_sJ, al_gd]
        show Q (some (.int (I' 45 3))) 90 al_R0 I' J
        rw [h1] at h9
        rw [g1.2.2.2.2.2.1.1, show (sP S t).2.2.2.1.1 = S.2.2.2.1.1 + n from h2]
        exact h9 I' J g1 g2
      | succ k ih =>
        intro v t I' hv h1 h2 g1 g2
        have hk : k < 2 ^ 30 := by omega
        have hv2 : v = nI k := by
          have h3 : v + nI 1 - nI 1 = nI k + nI 1 - nI 1 := by rw [hv, nI_s]
          rw [Int32.add_sub_cancel, Int32.add_sub_cancel] at h3
          exact h3
        subst hv2
        refine b42 _ _ _ _ _ _ (br_f (nI_pos (by omega)) ?_)
        refine ca_append (t := t) g1.2.2.2.2.2.1 (by omega) (fun I2 g3 g4 => ?_)
        have g5 := CI.tape g1 g3 g4
        refine ih (nI k + (-1)) (fda a k t) I2 ?_ h1 ?_ g5 (f74.tr g2 (fun p hp => ⟨g4 p (by omega) (by omega), rfl⟩))
        · rw [Int32.add_assoc, show (-1 : Int32) + nI 1 = 0 by decide +kernel, Int32.add_zero]
        · show t.1 + 1 + k = _
          omega
    refine b38 _ _ _ _ _ _ (loop n _ S.2.2.2.1 I ?_ rfl rfl hC (f74.rf I J))
    rw [Int32.sub_add_cancel]
  · rw [ix_le (by decide)] at c2
    refine h10 (fun y y1 y2 e => ?_)
    rw [e, nI_toInt (by omega)] at c2
    omega
theorem X_wipe {S : SG} {I : II} {J : JJ} {Q : QT} (hC : CI S I J) (k1 : PX I J Q (sP S (0, S.2.2.2.1.2)) (.int (nI S.2.2.2.1.1))) : CT m_X11_wipe 0 [.ref 0] 90 al_R0 I J Q := by
  refine r_X11_wipe (by decide) (fun F wk b0 => ?_)
  refine b0 _ _ _ _ _ _ ?_
  show Q (some (.int (I 45 3))) 90 al_R0 (al_up I 45 3 (nI 0)) J
  rw [hC.2.2.2.2.2.1.1]
  exact k1 _ _ (CI.tape hC ⟨al_up_s, fun j hj => absurd hj (by show ¬ j < 0; omega)⟩ (fun p p1 p2 => al_up_row p1)) (fun p hp => ⟨al_up_row (by omega), rfl⟩)
theorem X_image {S : SG} {I : II} {J : JJ} {Q : QT} (hC : CI S I J) (k1 : PX I J Q (sK S true S.1) (.int (nI 1))) : CT m_X11_image 0 [.ref 0] 90 al_R0 I J Q := by
  refine r_X11_image (by decide) (fun F wk b0 => ?_)
  refine b0 _ _ _ _ _ _ (ca_become (d := 23) (s := 8) (Or.inr (Or.inl rfl)) tb8 (by decide) hC.1 (fun I' J' g1 g2 => And.intro (Or.inr nI_1') ?_))
  have hk : ∀ p, ¬ (23 ≤ p ∧ p < 38) → p ≠ 0 → al_up I' 0 2 (nI 1) p = I p ∧ J' p = J p := fun p p1 p2 => ⟨by rw [al_up_row p2]; exact (g2 p (by omega)).1, (g2 p (by omega)).2⟩
  obtain ⟨h1, h2, h3, h4, h5, h6, h7, h8⟩ := hC
  refine k1 _ _ ⟨h1.keep (fun p q1 q2 => hk p (by omega) (by omega)), h2.keep (hk 39 (by omega) (by omega)).1, h3.keep (hk 38 (by omega) (by omega)).1 (hk 44 (by omega) (by omega)).1, h4.keep (hk 72 (by omega) (by omega)).1 (hk 73 (by omega) (by omega)).1, ⟨al_up_s, fun _ => g1.keep (fun p p1 p2 => ⟨al_up_row (by omega), rfl⟩)⟩, h6.keep (hk 45 (by omega) (by omega)).1 (hk 61 (by omega) (by omega)).1, h7.keep (fun p q1 q2 => hk p (by omega) (by omega)), h8.keep (hk 71 (by omega) (by omega)).1⟩ (fun p hp => hk p (by omega) (by omega))
theorem X_undo {S : SG} {I : II} {J : JJ} {Q : QT} (hC : CI S I J) (k1 : S.2.1 = true → PX I J Q (sT S S.2.2.1) (.int (nI S.2.2.1.2.1))) (k2 : S.2.1 = false → PX I J Q (fnd 3 S) (.int (-1000000004))) : CT m_X11_undo 0 [.ref 0] 90 al_R0 I J Q := by
  refine r_X11_undo (by decide) (fun F wk b0 b14 => ?_)
  have hb := hC.2.2.2.2.1
  refine b0 _ _ _ _ _ _ (And.intro (fun c => b14 _ _ _ _ _ _ ?_) (fun c => ?_))
  · rw [hb.1] at c
    have e := bz_t c
    refine ca_become (d := 8) (s := 23) tb8 (Or.inr (Or.inl rfl)) (by decide) (hb.2 e) (fun I' J' g1 g2 => ca_forget (fun I2 g3 g4 g5 => ?_))
    have h9 : CI (sT S S.2.2.1) I2 J' := CI.town hC (g1.keep (fun p q1 q2 => ⟨g3 p (by omega) (by omega), rfl⟩)) g4 g5 (fun p q1 q2 q3 => ⟨by rw [g3 p q3 q2]; exact (g2 p q1).1, (g2 p q1).2⟩)
    dsimp only [o_iload, o_lload, o_aload, o_istore, o_astore, o_lstore, o_iinc, o_ic, o_lc, o_sc, o_iadd, o_isub, o_imul, o_iand, o_ior, o_ixor, o_ishl, o_ishr, o_ladd, o_lsub, o_land, o_lor, o_lxor, o_lshl, o_lshr, o_i2l, o_l2i, o_lcmp, o_dup, o_dup2, o_pop, o_getI, o_getJ, o_getR, o_putI, o_putZ, o_putJ, o_iald, o_zald, o_lald, o_aald, o_iast, o_zast, o_last, o_alen, o_cpyI, o_cpyJ, o_iret, o_zret, o_lret, o_aret, o_vret, o_idiv, o_irem, o_ineg, o_ifeq, o_ifne, o_iflt, o_ifge, o_ifgt, o_ifle, o_iceq, o_icne, o_iclt, o_icge, o_icgt, o_icle, al_gL, al_sL, al_sJ, al_gd]
    show Q (some (.int (I2 8 3))) 90 al_R0 I2 J'
    rw [h9.1.1]
    exact k1 e I2 J' h9 (fun p hp => ⟨by rw [g3 p (by omega) (by omega)]; exact (g2 p (by omega)).1, (g2 p (by omega)).2⟩)
  · rw [hb.1] at c
    exact cx_finding hC (k := 3) (by decide) (by decide +kernel) (k2 (bz_f c))
theorem X_tear {S : SG} {I : II} {J : JJ} {Q : QT} (hC : CI S I J) (k1 : PX I J Q (sK S false S.2.2.1) (.int (nI S.2.1.toNat))) : CT m_X11_tear 0 [.ref 0] 90 al_R0 I J Q := by
  refine r_X11_tear (by decide) (fun F wk b0 b11 b12 => ?_)
  have h12 : F 12 [some (.ref 0), none] [.int (nI S.2.1.toNat)] 90 al_R0 I J := by
    refine b12 _ _ _ _ _ _ (And.intro (Or.inl nI_0) ?_)
    have hk : ∀ p, p ≠ 0 → al_up I 0 2 (nI 0) p = I p ∧ J p = J p := fun p p2 => ⟨by rw [al_up_row p2], rfl⟩
    obtain ⟨h1, h2, h3, h4, h5, h6, h7, h8⟩ := hC
    refine k1 _ _ ⟨h1.keep (fun p q1 q2 => hk p (by omega)), h2.keep (hk 39 (by omega)).1, h3.keep (hk 38 (by omega)).1 (hk 44 (by omega)).1, h4.keep (hk 72 (by omega)).1 (hk 73 (by omega)).1, ⟨al_up_s, fun q => absurd (show false = true from q) (by decide)⟩, h6.keep (hk 45 (by omega)).1 (hk 61 (by omega)).1, h7.keep (fun p q1 q2 => hk p (by omega)), h8.keep (hk 71 (by omega)).1⟩ (fun p hp => hk p (by omega))
  have hb := hC.2.2.2.2.1
  refine b0 _ _ _ _ _ _ (And.intro (fun c => ?_) (fun c => ?_))
  · rw [hb.1] at c
    rw [bz_f c] at h12
    exact b11 _ _ _ _ _ _ h12
  · rw [hb.1] at c
    rw [bz_t c] at h12
    exact h12
def cov (S : SG) (w : Nat) : Int32 := if w = 0 then nI S.1.2.1 else if w = 4 then nI S.2.2.2.1.1 else if w = 5 then nI (cnt (fun j => decide (10 ≤ S.1.1 j)) 64) else nI (cnt (fun j => decide (S.1.1 j = w)) 64)
theorem X_count {a : Int32} {S : SG} {I : II} {J : JJ} {Q : QT} (hC : CI S I J) (hV : VS S) (k1 : ∀ w, w < 6 → a = nI w → PX I J Q S (.int (cov S w))) (k2 : ing 6 a → PX I J Q (fnd 0 S) (.int (-1000000001))) : CT m_X11_count 0 [.ref 0, .int a] 90 al_R0 I J Q := by
  refine r_X11_count (by decide) (fun F wk b0 b40 b48 b57 b66 b75 b83 b91 => ?_)
  have rf := f74.rf I J
  refine b0 _ _ _ _ _ _ (And.intro (fun c => b40 _ _ _ _ _ _ ?_) (fun n0 => And.intro (fun c => b48 _ _ _ _ _ _ ?_) (fun n1 => And.intro (fun c => b57 _ _ _ _ _ _ ?_) (fun n2 => And.intro (fun c => b66 _ _ _ _ _ _ ?_) (fun n3 => And.intro (fun c => b75 _ _ _ _ _ _ ?_) (fun n4 => And.intro (fun c => b83 _ _ _ _ _ _ ?_) (fun n5 => b91 _ _ _ _ _ _ ?_)))))))
  · show Q (some (.int (I 8 3))) 90 al_R0 I J
    rw [hC.1.1]
    exact k1 0 (by omega) c I J hC rf
  · exact ca_squaresThatAre (x := 1) hC.1.2.1 hV.1.cdo (by omega) (k1 1 (by omega) c I J hC rf)
  · exact ca_squaresThatAre (x := 2) hC.1.2.1 hV.1.cdo (by omega) (k1 2 (by omega) c I J hC rf)
  · exact ca_squaresThatAre (x := 3) hC.1.2.1 hV.1.cdo (by omega) (k1 3 (by omega) c I J hC rf)
  · show Q (some (.int (I 45 3))) 90 al_R0 I J
    rw [hC.2.2.2.2.2.1.1]
    exact k1 4 (by omega) c I J hC rf
  · exact ca_squaresOfHouses hC.1.2.1 hV.1.cdo (k1 5 (by omega) c I J hC rf)
  · refine cx_finding hC (k := 0) (by decide) (by decide +kernel) (k2 ?_)
    rintro q hq rfl
    rcases (show q = 0 ∨ q = 1 ∨ q = 2 ∨ q = 3 ∨ q = 4 ∨ q = 5 by omega) with rfl | rfl | rfl | rfl | rfl | rfl
    · exact n0 rfl
    · exact n1 rfl
    · exact n2 rfl
    · exact n3 rfl
    · exact n4 rfl
    · exact n5 rfl
/-- a sum of ints -/
def smI (f : Nat → Int32) : Nat → Int32
  | 0 => nI 0
  | n + 1 => smI f n + f n
theorem X_status {a : Int32} {S : SG} {I : II} {J : JJ} {Q : QT} (hC : CI S I J) (k1 : ∀ w, w < 7 → a = nI w → PX I J Q S (.int (S.2.2.2.2.2 w))) (k2 : a = -1 → PX I J Q S (.int (smI S.2.2.2.2.2 7))) (k3 : ing 7 a → ¬ a = -1 → PX I J Q (fnd 0 S) (.int (-1000000001))) : CT m_X11_status 0 [.ref 0, .int a] 90 al_R0 I J Q := by
  have hf := hC.2.2.2.2.2.2.2
  have rf := f74.rf I J
  refine r_X11_status (by decide) (fun F wk b0 b11 b18 b29 b33 b54 => ?_)
  have hm1 : (-1 : Int32).toInt = -1 := by decide +kernel
  have h11 : (a.toInt < -1 ∨ 7 ≤ a.toInt) → F 11 [some (.ref 0), some (.int a), none, none] [] 90 al_R0 I J := fun q => b11 _ _ _ _ _ _ (cx_finding hC (k := 0) (by decide) (by decide +kernel) (k3 (by
    rintro w hw rfl
    rw [nI_toInt (by omega)] at q
    omega) (by
    rintro rfl
    rw [hm1] at q
    omega)))
  refine b0 _ _ _ _ _ _ (And.intro (fun c => ?_) (fun c => And.intro (fun c2 => ?_) (fun c2 => ?_)))
  · rw [Int32.lt_iff_toInt_lt, hm1] at c
    exact h11 (Or.inl c)
  · rw [Int32.lt_iff_toInt_lt, hm1] at c
    rw [ix_lt (by decide)] at c2
    refine b18 _ _ _ _ _ _ (And.intro (fun c3 => ?_) (fun c3 => ?_))
    · rw [i0_lt] at c3
      have e : a = -1 := by rw [← Int32.toInt_inj, hm1]; omega
      have loop : ∀ d i : Nat, i + d = 7 → F 33 [some (.ref 0), some (.int a), some (.int (smI S.2.2.2.2.2 i)), some (.int (nI i))] [] 90 al_R0 I J := by
        intro d
        induction d with
        | zero =>
          intro i hi
          obtain rfl : i = 7 := by omega
          exact b33 _ _ _ _ _ _ (br_t (nI_le (by omega) (by omega)) (b54 _ _ _ _ _ _ (k2 e I J hC rf)))
        | succ d ih =>
          intro i hi
          have h9 := ih (i + 1) (by omega)
          rw [smI, nI_s i, ← hf i (by omega)] at h9
          exact b33 _ _ _ _ _ _ (br_f (nI_ge (by omega) (by omega)) (Exists.intro i (And.intro (by omega) (And.intro rfl h9))))
      exact b29 _ _ _ _ _ _ (loop 7 0 rfl)
    · rw [i0_lt] at c3
      have e : a = nI a.toInt.toNat := i_of (by omega) (by omega)
      refine Exists.intro a.toInt.toNat (And.intro (by omega) (And.intro e ?_))
      have h9 := k1 a.toInt.toNat (by omega) e I J hC rf
      rw [← hf _ (by omega)] at h9
      exact h9
  · rw [ix_lt (by decide)] at c2
    exact h11 (Or.inr (by omega))
