/-! THE REFERENCE: words, numbers, squares of a text -/
def MS (n : Nat) (y : Nat → Nat) (e : Nat) (w : Bool) (I : II) : Prop := TQ n y I ∧ LM n y e I ∧ I 74 15 = nI w.toNat
def iwd (n : Nat) (y : Nat → Nat) (e w : Nat) : Bool := decide (kdk n y e = 1) && isw n y e w
theorem skd_iff {n e k : Nat} {y : Nat → Nat} (hk : k < 3) : skd n y e = k ↔ kdk n y e = k := by unfold skd; omega
theorem ma_isWord {n e w : Nat} {wr : Bool} {y : Nat → Nat} {I : II} {J : JJ} {Q : QT} (hS : MS n y e wr I) (hw : w < 13) (kq : Q (some (.int (nI (iwd n y e w).toNat))) 90 al_R0 I J) : CT m_X12_isWord 0 [.ref 74, .ref (2000 + w)] 90 al_R0 I J Q := by
  obtain ⟨ht, ⟨he, l1, l2, l3, l4⟩, -⟩ := hS
  have h120 := ht.2.1
  have h7 := wln_le w hw
  have sl := stk_le (y := y) he
  have el := enk_le (y := y) he
  have hs3 := skd_lt n y e
  refine r_X12_isWord (by decide) (fun F wk b0 b28 b29 b32 b67 b68 b75 => ?_)
  have no : ∀ i : Nat, i ≤ 7 → iwd n y e w = false → F 32 [some (.ref 74), some (.ref (2000 + w)), some (.int (nI 0)), some (.int (nI i))] [] 90 al_R0 I J := fun i hi hn => by
    rw [hn] at kq
    have h75 : F 75 [some (.ref 74), some (.ref (2000 + w)), some (.int (nI 0)), some (.int (nI i))] [] 90 al_R0 I J := b75 _ _ _ _ _ _ (And.intro (Or.inl nI_0) kq)
    exact b32 _ _ _ _ _ _ (And.intro ⟨by omega, by omega⟩ (cs_length (by decide) hw (And.intro (fun _ => h75) (fun _ => br_t nI_0 h75))))
  have loop : enk n y e - stk n y e = wln w → kdk n y e = 1 → ∀ d i : Nat, i + d = wln w → (∀ j, j < i → y (stk n y e + j) = wch w j) → F 32 [some (.ref 74), some (.ref (2000 + w)), some (.int (nI 1)), some (.int (nI i))] [] 90 al_R0 I J := by
    intro hln hk1 d
    induction d with
    | zero =>
      intro i hi hno
      have e1 : iwd n y e w = true := by
        unfold iwd isw
        rw [decide_eq_true hk1, decide_eq_true hln, anyb_no (fun j hj => by rw [hno j (by omega)]; simp)]
        rfl
      rw [e1] at kq
      exact b32 _ _ _ _ _ _ (And.intro ⟨by omega, by omega⟩ (cs_length (by decide) hw (br_t (nI_le (by omega) (by omega)) (b75 _ _ _ _ _ _ (And.intro (Or.inr nI_1') kq)))))
    | succ d ih =>
      intro i hi hno
      obtain ⟨y1, y2⟩ := ht.2.2 (stk n y e + i) (by omega)
      have hwc := (wch_v w hw i (by omega)).2
      refine b32 _ _ _ _ _ _ (And.intro ⟨by omega, by omega⟩ (cs_length (by decide) hw (br_f (nI_ge (by omega) (by omega)) (br_f n10 (Exists.intro (stk n y e + i) (And.intro (by omega) (And.intro (by rw [l1, nI_add]) (And.intro ⟨by omega, by omega⟩ (cs_charAt (by decide) hw (by omega) (And.intro (fun c => b67 _ _ _ _ _ _ (b68 _ _ _ _ _ _ ?_)) (fun c => b68 _ _ _ _ _ _ ?_)))))))))))
      · rw [y1, nI_eq (by omega) (by omega)] at c
        have h9 := no (i + 1) (by omega) (by
          unfold iwd isw
          rw [anyb_yes (j := i) (by omega) (by simp [c])]
          simp)
        rw [nI_s i] at h9
        exact h9
      · rw [y1, nI_eq (by omega) (by omega)] at c
        have h9 := ih (i + 1) (by omega) (fun j hj => by
          by_cases q : j = i
          · subst q; exact c
          · exact hno j (by omega))
        rw [nI_s i] at h9
        exact h9
  refine b0 _ _ _ _ _ _ (And.intro (fun c => b28 _ _ _ _ _ _ (b29 _ _ _ _ _ _ (no 0 (by omega) ?_))) (fun c => And.intro ⟨by omega, by omega⟩ (cs_length (by decide) hw (And.intro (fun c2 => b28 _ _ _ _ _ _ (b29 _ _ _ _ _ _ (no 0 (by omega) ?_))) (fun c2 => b29 _ _ _ _ _ _ ?_)))))
  · rw [l3, nI_eq (by omega) (by omega), skd_iff (by decide)] at c
    unfold iwd
    rw [decide_eq_false c, Bool.false_and]
  · rw [l1, l2, pk_sub el.1, nI_eq (by omega) (by omega)] at c2
    unfold iwd isw
    rw [decide_eq_false c2, Bool.false_and, Bool.and_false]
  · rw [l3, nI_eq (by omega) (by omega), skd_iff (by decide)] at c
    rw [l1, l2, pk_sub el.1, nI_eq (by omega) (by omega)] at c2
    exact loop c2 c (wln w) 0 (by omega) (fun j hj => absurd hj (by omega))
theorem MS.w {n e : Nat} {y : Nat → Nat} {w : Bool} {I : II} (hS : MS n y e w I) : MS n y e true (al_up I 74 15 (nI 1)) := by
  obtain ⟨ht, ⟨he, l1, l2, l3, l4⟩, -⟩ := hS
  exact ⟨(kL.up I (nI 1) (show 11 ≤ 15 ∧ 15 ≤ 15 by omega)).TQ ht, ⟨he, by rw [al_up_j (by decide)]; exact l1, by rw [al_up_j (by decide)]; exact l2, by rw [al_up_j (by decide)]; exact l3, by rw [al_up_j (by decide)]; exact l4⟩, al_up_s⟩
theorem ma_must {n e : Nat} {b w : Bool} {y : Nat → Nat} {I : II} {J : JJ} {Q : QT} (hS : MS n y e w I) (kq : ∀ I' : II, kL I I' → MS n y (if (!w && b) = true then enk n y e else e) (w || !b) I' → Q none 90 al_R0 I' J) : CT m_X12_must 0 [.ref 74, .int (nI b.toNat)] 90 al_R0 I J Q := by
  have h15 := hS.2.2
  refine r_X12_must (by decide) (fun F wk b0 b12 b16 b17 b31 => ?_)
  have bad : (!w && b) = false → (w || !b) = true → F 12 [some (.ref 74), some (.int (nI b.toNat))] [.ref 74] 90 al_R0 I J := fun h1 h2 => by
    rw [h1, h2] at kq
    refine b12 _ _ _ _ _ _ (b17 _ _ _ _ _ _ (And.intro (Or.inr nI_1') (br_u ?_ (b31 _ _ _ _ _ _ (kq _ (kL.up I (nI 1) (by omega)) hS.w)))))
    show ¬ al_up I 74 15 (nI 1) 74 15 = 0
    rw [al_up_s]
    exact n10
  cases w with
  | true =>
    exact b0 _ _ _ _ _ _ (br_u (by rw [h15]; exact n10) (bad (by simp) (by simp)))
  | false =>
    refine b0 _ _ _ _ _ _ (br_v (by rw [h15]; exact nI_0) ?_)
    cases b with
    | false => exact br_v nI_0 (bad rfl rfl)
    | true =>
      refine br_u n10 (b16 _ _ _ _ _ _ (b17 _ _ _ _ _ _ (And.intro (Or.inl nI_0) (br_v ?_ ?_))))
      · show al_up I 74 15 (nI 0) 74 15 = 0
        rw [al_up_s]
        exact nI_0
      · have k0 := kL.up I (nI 0) (show 11 ≤ 15 ∧ 15 ≤ 15 by omega)
        refine ma_next (k0.TQ hS.1) (enk_le (y := y) hS.2.1.1).2 (by rw [al_up_j (by decide)]; exact hS.2.1.2.2.1) (fun I' g1 g2 g3 => b31 _ _ _ _ _ _ (kq I' (k0.tr g1) ⟨(k0.tr g1).TQ hS.1, g3, ?_⟩))
        rw [g2, al_up_s]
        rfl
theorem ma_number {n e lo hx : Nat} {hi : Int32} {w : Bool} {y : Nat → Nat} {I : II} {J : JJ} {Q : QT} (hS : MS n y e w I) (hlo : lo < 2 ^ 31) (hhi : hi.toInt = (hx : Int) - 1) (kq : ∀ I' : II, kL I I' → MS n y (if (!w && pnum n y e lo hx) = true then enk n y e else e) (w || !pnum n y e lo hx) I' → Q (some (.int (nI (vvk n y e)))) 90 al_R0 I' J) : CT m_X12_number 0 [.ref 74, .int (nI lo), .int hi] 90 al_R0 I J Q := by
  have hv := vvk_le n y e
  have hs3 := skd_lt n y e
  have h14 := hS.2.1.2.2.2.2
  have h13 := hS.2.1.2.2.2.1
  refine r_X12_number (by decide) (fun F wk b0 b27 b28 => ?_)
  have h28 : ∀ b : Bool, pnum n y e lo hx = b → F 28 [some (.ref 74), some (.int (nI lo)), some (.int hi), some (.int (nI (vvk n y e)))] [.int (nI b.toNat), .ref 74] 90 al_R0 I J := fun b hb => by
    subst hb
    exact b28 _ _ _ _ _ _ (ma_must hS (fun I' g1 g2 => kq I' g1 g2))
  refine b0 _ _ _ _ _ _ ?_
  show (¬ I 74 13 = nI 2 → _) ∧ (I 74 13 = nI 2 → _)
  rw [h13, nI_eq (by omega) (by omega), skd_iff (by decide)]
  dsimp only [o_iload, o_lload, o_aload, o_istore, o_astore, o_lstore, o_iinc, o_ic, o_lc, o_sc, o_iadd, o_isub, o_imul, o_iand, o_ior, o_ixor, o_ishl, o_ishr, o_ladd, o_lsub, o_land, o_lor, o_lxor, o_lshl, o_lshr, o_i2l, o_l2i, o_lcmp, o_dup, o_dup2, o_pop, o_getI, o_getJ, o_getR, o_putI, o_putZ, o_putJ, o_iald, o_zald, o_lald, o_aald, o_iast, o_zast, o_last, o_alen, o_cpyI, o_cpyJ, o_iret, o_zret, o_lret, o_aret, o_vret, o_idiv, o_irem, o_ineg, o_ifeq, o_ifne, o_iflt, o_ifge, o_ifgt, o_ifle, o_iceq, o_icne, o_iclt, o_icge, o_icgt, o_icle, al_gL, al_sL, al_sJ, al_gd]
  rw [h14]
  refine And.intro (fun c => b27 _ _ _ _ _ _ (h28 false ?_)) (fun c => ?_)
  · unfold pnum
    rw [decide_eq_false c, Bool.false_and]
  · have ev : vvk n y e = vlk n y e := if_pos c
    by_cases q : lo ≤ vlk n y e ∧ vlk n y e < hx
    · exact mw_t (by rw [nT hlo, nT (by omega)]; omega) (by rw [hhi, nT (by omega)]; omega) (br_f n10 (h28 true (pnum_iff.mpr ⟨c, q⟩)))
    · refine mw_f (by rw [nT hlo, hhi, nT (by omega)]; omega) (br_t nI_0 (b27 _ _ _ _ _ _ (h28 false ?_)))
      exact Bool.eq_false_iff.mpr (fun h => q (pnum_iff.mp h).2)
def lsm (P : Nat → Bool) : Nat → Int32
  | 0 => -1
  | n + 1 => if P n = true then nI n else lsm P n
theorem lsm_eq {P : Nat → Bool} : ∀ {n : Nat}, (∀ i j, i < n → j < n → P i = true → P j = true → i = j) → lsm P n = if fnx P 0 n < n then nI (fnx P 0 n) else -1 := by
  intro n hu
  by_cases hx : ∃ k, k < n ∧ P k = true
  · obtain ⟨k, h1, h2⟩ := hx
    have e1 : fnx P 0 n = k := fnx_eq (fun j _ hj => by
      cases e : P j with
      | false => rfl
      | true => have := hu j k (by omega) h1 e h2; omega) (Nat.zero_le _) (by omega) h2
    rw [e1, if_pos h1]
    have : ∀ m, m ≤ n → k < m → lsm P m = nI k := by
      intro m
      induction m with
      | zero => intro _ h; omega
      | succ m ih =>
        intro hm hk
        rw [lsm]
        by_cases e : P m = true
        · rw [if_pos e, hu m k (by omega) h1 e h2]
        · rw [if_neg e]
          have : k ≠ m := fun w => e (by rw [← w]; exact h2)
          exact ih (by omega) (by omega)
    exact this n (Nat.le_refl n) h1
  · have h0 : ∀ j, j < n → P j = false := fun j hj => by
      cases e : P j with
      | false => rfl
      | true => exact absurd ⟨j, hj, e⟩ hx
    rw [fnx_none (fun j _ hj => h0 j (by omega)), if_neg (by omega)]
    have : ∀ m, m ≤ n → lsm P m = -1 := by
      intro m
      induction m with
      | zero => intro _; rfl
      | succ m ih => intro hm; rw [lsm, if_neg (by rw [h0 m (by omega)]; decide)]; exact ih (by omega)
    exact this n (Nat.le_refl n)
theorem wds_u : ∀ a, a < 13 → ∀ b, b < 13 → wln a = wln b → (∀ i, i < wln a → wch a i = wch b i) → a = b := by decide +kernel
theorem isw_c {n e w : Nat} {y : Nat → Nat} (h : isw n y e w = true) : enk n y e - stk n y e = wln w ∧ ∀ i, i < wln w → y (stk n y e + i) = wch w i := by
  unfold isw at h
  rw [Bool.and_eq_true, decide_eq_true_eq, Bool.not_eq_true'] at h
  refine ⟨h.1, fun i hi => ?_⟩
  by_cases q : y (stk n y e + i) = wch w i
  · exact q
  · rw [anyb_yes (j := i) hi (by simp [q])] at h
    exact absurd h.2 (by decide)
theorem isw_u {n e a b : Nat} {y : Nat → Nat} (ha : a < 13) (hb : b < 13) (h1 : isw n y e a = true) (h2 : isw n y e b = true) : a = b := by
  obtain ⟨p1, p2⟩ := isw_c h1
  obtain ⟨q1, q2⟩ := isw_c h2
  exact wds_u a ha b hb (by omega) (fun i hi => (p2 i hi).symm.trans (q2 i (by omega)))
theorem iwd_u {n e a b : Nat} {y : Nat → Nat} (ha : a < 13) (hb : b < 13) (h1 : iwd n y e a = true) (h2 : iwd n y e b = true) : a = b := by
  unfold iwd at h1 h2
  rw [Bool.and_eq_true] at h1 h2
  exact isw_u ha hb h1.2 h2.2
theorem ma_whichS {n e : Nat} {wr : Bool} {y : Nat → Nat} {I : II} {J : JJ} {Q : QT} (hS : MS n y e wr I) (kq : Q (some (.int (lsm (fun k => iwd n y e (0 + k)) 4))) 90 al_R0 I J) : CT m_X12_which 0 [.ref 74, .ref 82] 90 al_R0 I J Q := by
  refine r_X12_which (by decide) (fun F wk b0 b4 b24 b25 b32 => ?_)
  have hR : ∀ k, k < 4 → al_R0 82 k = some (2000 + (0 + k)) := by decide +kernel
  have loop : ∀ d i : Nat, i + d = 4 → F 4 [some (.ref 74), some (.ref 82), some (.int (lsm (fun k => iwd n y e (0 + k)) i)), some (.int (nI i))] [] 90 al_R0 I J := by
    intro d
    induction d with
    | zero =>
      intro i hi
      obtain rfl : i = 4 := by omega
      exact b4 _ _ _ _ _ _ (br_t (nI_le (by omega) (by omega)) (b32 _ _ _ _ _ _ kq))
    | succ d ih =>
      intro i hi
      have h9 := ih (i + 1) (by omega)
      rw [lsm, nI_s i] at h9
      refine b4 _ _ _ _ _ _ (br_f (nI_ge (by omega) (by omega)) (Exists.intro i (And.intro (by omega) (And.intro rfl (al_rk_in (hR i (by omega)) (ma_isWord hS (by omega) (And.intro (fun c => b24 _ _ _ _ _ _ (b25 _ _ _ _ _ _ ?_)) (fun c => b25 _ _ _ _ _ _ ?_))))))))
      · rw [if_neg (by rw [bz_f c]; decide)] at h9
        exact h9
      · rw [if_pos (bz_t c)] at h9
        exact h9
  exact b0 _ _ _ _ _ _ (loop 4 0 rfl)
theorem ma_whichK {n e : Nat} {wr : Bool} {y : Nat → Nat} {I : II} {J : JJ} {Q : QT} (hS : MS n y e wr I) (kq : Q (some (.int (lsm (fun k => iwd n y e (4 + k)) 6))) 90 al_R0 I J) : CT m_X12_which 0 [.ref 74, .ref 83] 90 al_R0 I J Q := by
  refine r_X12_which (by decide) (fun F wk b0 b4 b24 b25 b32 => ?_)
  have hR : ∀ k, k < 6 → al_R0 83 k = some (2000 + (4 + k)) := by decide +kernel
  have loop : ∀ d i : Nat, i + d = 6 → F 4 [some (.ref 74), some (.ref 83), some (.int (lsm (fun k => iwd n y e (4 + k)) i)), some (.int (nI i))] [] 90 al_R0 I J := by
    intro d
    induction d with
    | zero =>
      intro i hi
      obtain rfl : i = 6 := by omega
      exact b4 _ _ _ _ _ _ (br_t (nI_le (by omega) (by omega)) (b32 _ _ _ _ _ _ kq))
    | succ d ih =>
      intro i hi
      have h9 := ih (i + 1) (by omega)
      rw [lsm, nI_s i] at h9
      refine b4 _ _ _ _ _ _ (br_f (nI_ge (by omega) (by omega)) (Exists.intro i (And.intro (by omega) (And.intro rfl (al_rk_in (hR i (by omega)) (ma_isWord hS (by omega) (And.intro (fun c => b24 _ _ _ _ _ _ (b25 _ _ _ _ _ _ ?_)) (fun c => b25 _ _ _ _ _ _ ?_))))))))
      · rw [if_neg (by rw [bz_f c]; decide)] at h9
        exact h9
      · rw [if_pos (bz_t c)] at h9
        exact h9
  exact b0 _ _ _ _ _ _ (loop 6 0 rfl)
