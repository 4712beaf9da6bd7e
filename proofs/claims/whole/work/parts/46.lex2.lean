/-! THE TAPE BY TOKENS: the class's calls -/
theorem ca_passLetters {n s : Nat} {y : Nat → Nat} {I : II} {J : JJ} {Q : QT} (ht : TP n y I) (hs : s ≤ n) (h5 : I 45 5 = nI s) (kq : ∀ I' : II, k45 I I' → (∀ j, j ≠ 5 → I' 45 j = I 45 j) → I' 45 5 = nI (fnx (fun j => !(isL (y j))) s (n - s)) → Q none 90 al_R0 I' J) : CT m_X10_passLetters 0 [.ref 45] 90 al_R0 I J Q := by
  refine r_X10_passLetters (by decide) (fun F wk b0 b39 => ?_)
  have loop : ∀ (d i : Nat) (I' : II), i + d = n → fnx (fun j => !(isL (y j))) s (n - s) = fnx (fun j => !(isL (y j))) i d → k45 I I' → (∀ j, j ≠ 5 → I' 45 j = I 45 j) → I' 45 5 = nI i → F 0 [some (.ref 45)] [] 90 al_R0 I' J := by
    intro d
    induction d with
    | zero =>
      intro i I' hi he g1 g2 g3
      have h1 := (g1.TP ht).1
      have h120 := ht.2.1
      obtain rfl : i = n := by omega
      refine b0 _ _ _ _ _ _ (br_t (by rw [g3, h1]; exact nI_le (by omega) (by omega)) (b39 _ _ _ _ _ _ (kq I' g1 g2 ?_)))
      rw [he, g3]
      rfl
    | succ d ih =>
      intro i I' hi he g1 g2 g3
      have ht' := g1.TP ht
      have h120 := ht.2.1
      obtain ⟨y1, y2⟩ := ht'.2.2 i (by omega)
      refine b0 _ _ _ _ _ _ (br_f (by rw [g3, ht'.1]; exact nI_ge (by omega) (by omega)) (Exists.intro i (And.intro (by omega) (And.intro g3 ?_))))
      rw [y1]
      refine cx_isLetter (by decide) y2 (And.intro (fun c => b39 _ _ _ _ _ _ (kq I' g1 g2 ?_)) (fun c => ?_))
      · rw [he, fnx_yes (by simp [bz_f c]), g3]
      · refine ih (i + 1) (al_up I' 45 5 (I' 45 5 + nI 1)) (by omega) (by rw [he, fnx_no (by simp [bz_t c])]) (g1.tr ⟨fun q hq => al_up_row hq, al_up_j (by decide)⟩) (fun j hj => by rw [al_up_j hj]; exact g2 j hj) ?_
        rw [al_up_s, g3]
        exact (nI_s i).symm
  exact loop (n - s) s I (by omega) rfl (k45.rf I) (fun _ _ => rfl) h5
theorem ca_passDigits {n s : Nat} {y : Nat → Nat} {I : II} {J : JJ} {Q : QT} (ht : TP n y I) (hs : s ≤ n) (h5 : I 45 5 = nI s) (kq : ∀ I' : II, k45 I I' → (∀ j, j ≠ 5 → j ≠ 7 → I' 45 j = I 45 j) → I' 45 5 = nI (fnx (fun j => !(isD (y j))) s (n - s)) → I' 45 7 = nI (dgs y s (fnx (fun j => !(isD (y j))) s (n - s) - s)) → Q none 90 al_R0 I' J) : CT m_X10_passDigits 0 [.ref 45] 90 al_R0 I J Q := by
  refine r_X10_passDigits (by decide) (fun F wk b0 b5 b74 => ?_)
  have loop : ∀ (d k : Nat) (I' : II), s + k + d = n → fnx (fun j => !(isD (y j))) s (n - s) = fnx (fun j => !(isD (y j))) (s + k) d → k45 I I' → (∀ j, j ≠ 5 → j ≠ 7 → I' 45 j = I 45 j) → I' 45 5 = nI (s + k) → I' 45 7 = nI (dgs y s k) → F 5 [some (.ref 45)] [] 90 al_R0 I' J := by
    intro d
    induction d with
    | zero =>
      intro k I' hi he g1 g2 g3 g4
      have h1 := (g1.TP ht).1
      have h120 := ht.2.1
      refine b5 _ _ _ _ _ _ (br_t (by rw [g3, h1]; exact nI_le (by omega) (by omega)) (b74 _ _ _ _ _ _ (kq I' g1 g2 ?_ ?_)))
      · rw [he, g3]; rfl
      · rw [he, g4, show fnx (fun j => !(isD (y j))) (s + k) 0 - s = k from Nat.add_sub_cancel_left s k]
    | succ d ih =>
      intro k I' hi he g1 g2 g3 g4
      have ht' := g1.TP ht
      have h120 := ht.2.1
      have hdl := dgs_le y s k
      obtain ⟨y1, y2⟩ := ht'.2.2 (s + k) (by omega)
      refine b5 _ _ _ _ _ _ (br_f (by rw [g3, ht'.1]; exact nI_ge (by omega) (by omega)) (Exists.intro (s + k) (And.intro (by omega) (And.intro g3 ?_))))
      rw [y1]
      refine cx_isDigit (by decide) y2 (And.intro (fun c => b74 _ _ _ _ _ _ (kq I' g1 g2 ?_ ?_)) (fun c => ?_))
      · rw [he, fnx_yes (by simp [bz_f c]), g3]
      · rw [he, fnx_yes (by simp [bz_f c]), g4, Nat.add_sub_cancel_left]
      · have hd := bz_t c
        have h48 : 48 ≤ y (s + k) := by
          simp [isD] at hd
          omega
        refine Exists.intro (s + k) (And.intro (by omega) (And.intro g3 ?_))
        dsimp only [o_iload, o_lload, o_aload, o_istore, o_astore, o_lstore, o_iinc, o_ic, o_lc, o_sc, o_iadd, o_isub, o_imul, o_iand, o_ior, o_ixor, o_ishl, o_ishr, o_ladd, o_lsub, o_land, o_lor, o_lxor, o_lshl, o_lshr, o_i2l, o_l2i, o_lcmp, o_dup, o_dup2, o_pop, o_getI, o_getJ, o_getR, o_putI, o_putZ, o_putJ, o_iald, o_zald, o_lald, o_aald, o_iast, o_zast, o_last, o_alen, o_cpyI, o_cpyJ, o_iret, o_zret, o_lret, o_aret, o_vret, o_idiv, o_irem, o_ineg, o_ifeq, o_ifne, o_iflt, o_ifge, o_ifgt, o_ifle, o_iceq, o_icne, o_iclt, o_icge, o_icgt, o_icle, al_gL, al_sL, al_sJ, al_gd, o_mmin]
        rw [y1, g4, pk_mul, nI_add]
        refine al_r8_in (by decide) ?_
        refine al_isC_in rfl (al_isC_in rfl (al_isC_in rfl ?_))
        refine ih (k + 1) _ (by omega) (by rw [he, fnx_no (by simp [hd])]; rfl) (g1.tr ⟨fun q hq => by rw [al_up_row hq, al_up_row hq], by rw [al_up_j (by decide), al_up_j (by decide)]⟩) (fun j hj hj2 => by rw [al_up_j hj, al_up_j hj2]; exact g2 j hj hj2) ?_ ?_
        · rw [al_up_s, al_up_j (by decide), g3]
          exact (nI_s (s + k)).symm
        · rw [al_up_j (by decide), al_up_s, pk_sub (by omega), dgs]
          by_cases q : 10000 < 10 * dgs y s k + y (s + k) - 48
          · rw [if_pos (nI_lt q (by omega)), if_pos q]
          · rw [if_neg (nI_nlt (by omega) (by omega)), if_neg q]
  refine b0 _ _ _ _ _ _ (loop (n - s) 0 (al_up I 45 7 (nI 0)) (by omega) rfl ⟨fun q hq => al_up_row hq, al_up_j (by decide)⟩ (fun j _ hj => al_up_j hj) ?_ al_up_s)
  rw [al_up_j (by decide)]
  exact h5
theorem ca_advance {n e : Nat} {y : Nat → Nat} {I : II} {J : JJ} {Q : QT} (ht : TP n y I) (he : e ≤ n) (h5 : I 45 5 = nI e) (kq : ∀ I' : II, k45 I I' → LX n y e I' → Q none 90 al_R0 I' J) : CT m_X10_advance 0 [.ref 45] 90 al_R0 I J Q := by
  have h120 := ht.2.1
  refine r_X10_advance (by decide) (fun F wk b0 b8 b46 b73 b100 b127 b146 b147 b160 => ?_)
  have sl := stk_le (y := y) he
  have h46 : ∀ I' : II, k45 I I' → I' 45 4 = nI (stk n y e) → (stk n y e < n → ¬ y (stk n y e) = 32) → F 46 [some (.ref 45)] [] 90 al_R0 I' J := by
    intro I' g1 g2 g3
    generalize hs : stk n y e = s at *
    have ht' := g1.TP ht
    have h160 : ∀ I2 : II, k45 I I2 → LX n y e I2 → F 160 [some (.ref 45)] [] 90 al_R0 I2 J := fun I2 q1 q2 => b160 _ _ _ _ _ _ (kq I2 q1 q2)
    have g1a : k45 I (al_up I' 45 5 (I' 45 4)) := g1.tr ⟨fun q hq => al_up_row hq, al_up_j (by decide)⟩
    have ga3 : al_up I' 45 5 (I' 45 4) 45 3 = nI n := (g1a.TP ht).1
    have ga4 : al_up I' 45 5 (I' 45 4) 45 4 = nI s := by rw [al_up_j (by decide)]; exact g2
    have ga5 : al_up I' 45 5 (I' 45 4) 45 5 = nI s := by rw [al_up_s]; exact g2
    refine b46 _ _ _ _ _ _ (And.intro (fun c => b73 _ _ _ _ _ _ ?_) (fun c => ?_))
    · rw [ga4, ga3, nI_ltI (by omega) (by omega)] at c
      have ht2 := g1a.TP ht
      obtain ⟨y1, y2⟩ := ht2.2.2 s c
      refine Exists.intro s (And.intro (by omega) (And.intro ga4 ?_))
      rw [y1]
      refine cx_isLetter (by decide) y2 (And.intro (fun c2 => b100 _ _ _ _ _ _ ?_) (fun c2 => ?_))
      · have hl := bz_f c2
        refine Exists.intro s (And.intro (by omega) (And.intro ga4 ?_))
        rw [y1]
        refine cx_isDigit (by decide) y2 (And.intro (fun c3 => b127 _ _ _ _ _ _ ?_) (fun c3 => ?_))
        · have hd := bz_f c3
          refine Exists.intro s (And.intro (by omega) (And.intro ga4 ?_))
          have fin : ∀ v, v = kdk n y e → F 147 [some (.ref 45)] [.int (nI v), .ref 45] 90 al_R0 (al_up I' 45 5 (I' 45 4)) J := fun v hv => by
            refine b147 _ _ _ _ _ _ (h160 _ (g1a.tr ⟨fun q hq => by rw [al_up_row hq, al_up_row hq], by rw [al_up_j (by decide), al_up_j (by decide)]⟩) ⟨?_, ?_, ?_, fun q => ?_⟩)
            · rw [al_up_j (by decide), al_up_j (by decide), ga4, hs]
            · rw [al_up_s, al_up_j (by decide), ga4, ← nI_s]
              unfold enk
              rw [hs, if_neg (by omega), if_neg (by rw [hl]; decide), if_neg (by rw [hd]; decide)]
            · rw [al_up_j (by decide), al_up_s, hv]
            · exfalso
              unfold kdk at q
              rw [hs, if_neg (by omega), if_neg (by rw [hl]; decide), if_neg (by rw [hd]; decide)] at q
              split at q <;> cases q
          have hk : kdk n y e = if y s = 59 then 3 else 4 := by
            unfold kdk
            rw [hs, if_neg (by omega), if_neg (by rw [hl]; decide), if_neg (by rw [hd]; decide)]
          refine And.intro (fun c4 => b146 _ _ _ _ _ _ (fin 4 ?_)) (fun c4 => fin 3 ?_)
          · rw [y1, nI_eq (by omega) (by omega)] at c4
            rw [hk, if_neg c4]
          · rw [y1, nI_eq (by omega) (by omega)] at c4
            rw [hk, if_pos c4]
        · have hd := bz_t c3
          have g1b : k45 I (al_up (al_up I' 45 5 (I' 45 4)) 45 6 (nI 2)) := g1a.tr ⟨fun q hq => al_up_row hq, al_up_j (by decide)⟩
          refine ca_passDigits (g1b.TP ht) (show s ≤ n by omega) (by rw [al_up_j (by decide)]; exact ga5) (fun I2 q1 q2 q3 q4 => h160 I2 (g1b.tr q1) ⟨?_, ?_, ?_, fun _ => ?_⟩)
          · rw [q2 4 (by decide) (by decide), al_up_j (by decide), ga4, hs]
          · rw [q3]
            unfold enk
            rw [hs, if_neg (by omega), if_neg (by rw [hl]; decide), if_pos hd]
          · rw [q2 6 (by decide) (by decide), al_up_s]
            unfold kdk
            rw [hs, if_neg (by omega), if_neg (by rw [hl]; decide), if_pos hd]
          · rw [q4]
            unfold vlk enk
            rw [hs, if_neg (by omega), if_neg (by rw [hl]; decide), if_pos hd]
      · have hl := bz_t c2
        have g1b : k45 I (al_up (al_up I' 45 5 (I' 45 4)) 45 6 (nI 1)) := g1a.tr ⟨fun q hq => al_up_row hq, al_up_j (by decide)⟩
        refine ca_passLetters (g1b.TP ht) (show s ≤ n by omega) (by rw [al_up_j (by decide)]; exact ga5) (fun I2 q1 q2 q3 => h160 I2 (g1b.tr q1) ⟨?_, ?_, ?_, fun q => ?_⟩)
        · rw [q2 4 (by decide), al_up_j (by decide), ga4, hs]
        · rw [q3]
          unfold enk
          rw [hs, if_neg (by omega), if_pos hl]
        · rw [q2 6 (by decide), al_up_s]
          unfold kdk
          rw [hs, if_neg (by omega), if_pos hl]
        · exfalso
          unfold kdk at q
          rw [hs, if_neg (by omega), if_pos hl] at q
          cases q
    · rw [ga4, ga3, nI_ltI (by omega) (by omega)] at c
      refine h160 _ (g1a.tr ⟨fun q hq => al_up_row hq, al_up_j (by decide)⟩) ⟨?_, ?_, ?_, fun q => ?_⟩
      · rw [al_up_j (by decide), ga4, hs]
      · rw [al_up_j (by decide), ga5]
        unfold enk
        rw [hs, if_pos (by omega)]
      · rw [al_up_s]
        unfold kdk
        rw [hs, if_pos (by omega)]
      · exfalso
        unfold kdk at q
        rw [hs, if_pos (by omega)] at q
        cases q
  have loop : ∀ (d i : Nat) (I' : II), i + d = n → stk n y e = fnx (fun j => !(decide (y j = 32))) i d → k45 I I' → I' 45 4 = nI i → F 8 [some (.ref 45)] [] 90 al_R0 I' J := by
    intro d
    induction d with
    | zero =>
      intro i I' hi hst g1 g2
      have ht' := g1.TP ht
      have e1 : stk n y e = i := hst
      refine b8 _ _ _ _ _ _ (br_t (by rw [g2, ht'.1]; exact nI_le (by omega) (by omega)) (h46 I' g1 (by rw [e1]; exact g2) (fun q => by omega)))
    | succ d ih =>
      intro i I' hi hst g1 g2
      have ht' := g1.TP ht
      obtain ⟨y1, y2⟩ := ht'.2.2 i (by omega)
      refine b8 _ _ _ _ _ _ (br_f (by rw [g2, ht'.1]; exact nI_ge (by omega) (by omega)) (Exists.intro i (And.intro (by omega) (And.intro g2 (And.intro (fun c => ?_) (fun c => ?_))))))
      · rw [y1, nI_eq (by omega) (by omega)] at c
        have e1 : stk n y e = i := by rw [hst, fnx_yes (by simp [c])]
        exact h46 I' g1 (by rw [e1]; exact g2) (fun _ => by rw [e1]; exact c)
      · rw [y1, nI_eq (by omega) (by omega)] at c
        refine ih (i + 1) _ (by omega) (by rw [hst, fnx_no (by simp [c])]) (g1.tr ⟨fun q hq => al_up_row hq, al_up_j (by decide)⟩) ?_
        rw [al_up_s, g2]
        exact (nI_s i).symm
  exact b0 _ _ _ _ _ _ (loop (n - e) e (al_up I 45 4 (I 45 5)) (by omega) rfl ⟨fun q hq => al_up_row hq, al_up_j (by decide)⟩ (by rw [al_up_s]; exact h5))
/-- a token is a word -/
def isw (n : Nat) (y : Nat → Nat) (e w : Nat) : Bool := decide (enk n y e - stk n y e = wln w) && !(anyb (fun i => !(decide (y (stk n y e + i) = wch w i))) (wln w))
theorem ca_isWord {n e w : Nat} {y : Nat → Nat} {I : II} {J : JJ} {Q : QT} (ht : TP n y I) (he : e ≤ n) (hx : LX n y e I) (hw : w < 13) (kq : Q (some (.int (nI (isw n y e w).toNat))) 90 al_R0 I J) : CT m_X10_isWord 0 [.ref 45, .ref (2000 + w)] 90 al_R0 I J Q := by
  have h120 := ht.2.1
  have h7 := wln_le w hw
  have sl := stk_le (y := y) he
  have el := enk_le (y := y) he
  refine r_X10_isWord (by decide) (fun F wk b0 b18 b20 b49 b55 => ?_)
  refine b0 _ _ _ _ _ _ (And.intro ⟨by omega, by omega⟩ (cs_length (by decide) hw (And.intro (fun c => b18 _ _ _ _ _ _ ?_) (fun c => ?_))))
  · rw [hx.1, hx.2.1, pk_sub el.1, nI_eq (by omega) (by omega)] at c
    have loop : ∀ d i : Nat, i + d = wln w → (∀ j, j < i → y (stk n y e + j) = wch w j) → F 20 [some (.ref 45), some (.ref (2000 + w)), some (.int (nI i))] [] 90 al_R0 I J := by
      intro d
      induction d with
      | zero =>
        intro i hi hno
        refine b20 _ _ _ _ _ _ (And.intro ⟨by omega, by omega⟩ (cs_length (by decide) hw (br_t (nI_le (by omega) (by omega)) (b55 _ _ _ _ _ _ (And.intro (Or.inr nI_1') ?_)))))
        have e1 : isw n y e w = true := by
          unfold isw
          rw [decide_eq_true (by omega), anyb_no (fun j hj => by rw [hno j (by omega)]; simp)]
          rfl
        rw [e1] at kq
        exact kq
      | succ d ih =>
        intro i hi hno
        obtain ⟨y1, y2⟩ := ht.2.2 (stk n y e + i) (by omega)
        have hwc := (wch_v w hw i (by omega)).2
        refine b20 _ _ _ _ _ _ (And.intro ⟨by omega, by omega⟩ (cs_length (by decide) hw (br_f (nI_ge (by omega) (by omega)) (Exists.intro (stk n y e + i) (And.intro (by omega) (And.intro (by rw [hx.1, nI_add]) (And.intro ⟨by omega, by omega⟩ (cs_charAt (by decide) hw (by omega) (And.intro (fun c2 => ?_) (fun c2 => ?_))))))))))
        · rw [y1, nI_eq (by omega) (by omega)] at c2
          have h9 := ih (i + 1) (by omega) (fun j hj => by
            by_cases q : j = i
            · subst q; exact c2
            · exact hno j (by omega))
          rw [nI_s i] at h9
          exact b49 _ _ _ _ _ _ h9
        · rw [y1, nI_eq (by omega) (by omega)] at c2
          have e1 : isw n y e w = false := by
            unfold isw
            rw [anyb_yes (j := i) (by omega) (by simp [c2])]
            simp
          rw [e1] at kq
          exact And.intro (Or.inl nI_0) kq
    exact loop (wln w) 0 (by omega) (fun j hj => absurd hj (by omega))
  · rw [hx.1, hx.2.1, pk_sub el.1, nI_eq (by omega) (by omega)] at c
    have e1 : isw n y e w = false := by
      unfold isw
      rw [decide_eq_false (by omega)]
      rfl
    rw [e1] at kq
    exact And.intro (Or.inl nI_0) kq
theorem ca_isNumberWithin {n e : Nat} {y : Nat → Nat} {lo hi : Int32} {I : II} {J : JJ} {Q : QT} (hx : LX n y e I) (k1 : kdk n y e = 2 → lo ≤ nI (vlk n y e) → nI (vlk n y e) ≤ hi → Q (some (.int (nI 1))) 90 al_R0 I J) (k2 : ¬ (kdk n y e = 2 ∧ lo ≤ nI (vlk n y e) ∧ nI (vlk n y e) ≤ hi) → Q (some (.int (nI 0))) 90 al_R0 I J) : CT m_X10_isNumberWithin 0 [.ref 45, .int lo, .int hi] 90 al_R0 I J Q := by
  have hk := kdk_lt n y e
  refine r_X10_isNumberWithin (by decide) (fun F wk b0 b28 b29 => ?_)
  have no : ¬ (kdk n y e = 2 ∧ lo ≤ nI (vlk n y e) ∧ nI (vlk n y e) ≤ hi) → F 28 [some (.ref 45), some (.int lo), some (.int hi)] [] 90 al_R0 I J := fun q => b28 _ _ _ _ _ _ (b29 _ _ _ _ _ _ (And.intro (Or.inl nI_0) (k2 q)))
  refine b0 _ _ _ _ _ _ (And.intro (fun c => no ?_) (fun c => ?_))
  · rw [hx.2.2.1, nI_eq (by omega) (by omega)] at c
    exact fun q => c q.1
  · rw [hx.2.2.1, nI_eq (by omega) (by omega)] at c
    have h7 := hx.2.2.2 c
    refine And.intro (fun c2 => no ?_) (fun c2 => And.intro (fun c3 => no ?_) (fun c3 => b29 _ _ _ _ _ _ (And.intro (Or.inr nI_1') (k1 c ?_ ?_))))
    · rw [h7] at c2
      exact fun q => Int32.not_le.mpr c2 q.2.1
    · rw [h7] at c3
      exact fun q => Int32.not_le.mpr c3 q.2.2
    · rw [h7] at c2
      exact Int32.not_lt.mp c2
    · rw [h7] at c3
      exact Int32.not_lt.mp c3
