/-! THE ROUND: widest views, the plan -/
theorem nwf_le (c : Nat → Nat) (k q : Nat) : nwf c k q ≤ 81 := cnt_le _ _
theorem am_lt (f : Nat → Nat) : ∀ n, 0 < n → am f n < n
  | 0, h => absurd h (by omega)
  | n + 1, _ => by
    unfold am
    split
    · omega
    · rcases Nat.eq_zero_or_pos n with e | e
      · subst e; simp [am]
      · have := am_lt f n e; omega
theorem mx_ge {f : Nat → Nat} : ∀ {n j : Nat}, j < n → f j ≤ mx f n
  | 0, j, h => absurd h (by omega)
  | n + 1, j, h => by
    unfold mx
    rcases Nat.lt_or_ge j n with q | q
    · have := mx_ge (f := f) q
      split <;> omega
    · rw [show j = n by omega]
      split <;> omega
theorem mx_at {f : Nat → Nat} : ∀ {n : Nat}, 0 < mx f n → f (am f n) = mx f n
  | 0, h => absurd h (by simp [mx])
  | n + 1, h => by
    by_cases e : mx f n < f n
    · rw [am, mx, if_pos e, if_pos e]
    · rw [mx, if_neg e] at h
      rw [am, mx, if_neg e, if_neg e]; exact mx_at h
theorem mx_0 {f : Nat → Nat} {n : Nat} : mx f n = 0 ↔ ∀ j, j < n → f j = 0 := by
  constructor
  · intro h j hj
    have := mx_ge (f := f) hj
    omega
  · intro h
    rcases Nat.eq_zero_or_pos (mx f n) with e | e
    · exact e
    · have h1 := mx_at e
      have hn : 0 < n := by
        rcases Nat.eq_zero_or_pos n with q | q
        · subst q; exact absurd e (by simp [mx])
        · exact q
      have h2 := h _ (am_lt f n hn)
      omega
theorem lft_0 {c : Nat → Nat} : ∀ {k p : Nat}, lft c k p = true → hcp c p = true ∧ anyb (sen c p) 64 = true
  | 0, p, h => by
    unfold lft at h
    rw [Bool.and_eq_true] at h
    exact h
  | k + 1, p, h => by
    unfold lft at h
    rw [Bool.and_eq_true] at h
    exact lft_0 h.1
theorem lft_s {c : Nat → Nat} {k p : Nat} : lft c (k + 1) p = (lft c k p && !(sen c p (trb c k))) := rfl
theorem nwf_0 {c : Nat → Nat} {k : Nat} : mx (nwf c k) 64 = 0 ↔ ∀ p, p < 81 → lft c k p = false := by
  rw [mx_0]
  constructor
  · intro h p hp
    cases e : lft c k p with
    | false => rfl
    | true =>
      obtain ⟨q, q1, q2⟩ := anyb_iff.mp (lft_0 e).2
      have h1 := h q q1
      have h2 : 0 < nwf c k q := by
        have : cnt (fun j => decide (j = p)) 81 ≤ nwf c k q := cnt_mono (fun j hj hjp => by
          have := of_decide_eq_true hjp
          subst this
          rw [e, q2]; rfl)
        have h3 : cnt (fun j => decide (j = p)) 81 = 1 := by
          have : ∀ p, p < 81 → cnt (fun j => decide (j = p)) 81 = 1 := by decide +kernel
          exact this p hp
        omega
      omega
  · intro h j hj
    exact cnt_none (fun p hp => by rw [h p hp]; rfl)
def LFT (c : Nat → Nat) (k : Nat) (x y : Int64) : Prop := (∀ j, j < 64 → gb x j = lft c k j) ∧ ∀ j, j < 64 → gb y j = (decide (j < 17) && lft c k (64 + j))
theorem ca_widestView {c : Nat → Nat} {k : Nat} {x y : Int64} {I : II} {J : JJ} {Q : QT} (hw : VWS c 81 J) (hl : LFT c k x y) (kq : Q (some (.int (nI (trb c k)))) 90 al_R0 I J) : CT m_X8_widestView 0 [.ref 38, .long x, .long y] 90 al_R0 I J Q := by
  refine r_X8_widestView (by decide) (fun F wk b0 b9 b58 b64 => ?_)
  have key : ∀ i, i < 64 → cnt (gb (J 42 i &&& x)) 64 + cnt (gb (J 43 i &&& y)) 64 = nwf c k i := fun i hi => by
    have e1 : cnt (gb (J 42 i &&& x)) 64 = cnt (fun p => lft c k p && sen c p i) 64 := cnt_cong (fun j hj => by
      rw [gb_and, (hw i hi j hj).1, hl.1 j hj]
      cases e : lft c k j with
      | false => simp
      | true =>
        have := (lft_0 e).1
        simp [vw, this]; omega)
    have e2 : cnt (gb (J 43 i &&& y)) 64 = cnt (fun j => lft c k (64 + j) && sen c (64 + j) i) 17 := by
      rw [show (64 : Nat) = 17 + 47 from rfl, cnt_add, cnt_none (P := fun j => gb (J 43 i &&& y) (17 + j)) (n := 47) (fun j hj => by
        rw [gb_and, hl.2 (17 + j) (by omega), decide_eq_false (by omega)]
        simp), Nat.add_zero]
      refine cnt_cong (fun j hj => ?_)
      rw [gb_and, (hw i hi j (by omega)).2, hl.2 j (by omega), decide_eq_true hj]
      cases e : lft c k (64 + j) with
      | false => simp [e]
      | true =>
        have := (lft_0 e).1
        simp [vw, this, e]; omega
    rw [e1, e2]
    unfold nwf
    rw [show (81 : Nat) = 64 + 17 from rfl, cnt_add]
  have loop : ∀ d i : Nat, i + d = 64 → F 9 [some (.ref 38), some (.long x), none, some (.long y), none, some (.int (nI (am (nwf c k) i))), some (.int (nI (mx (nwf c k) i))), some (.int (nI i)), none] [] 90 al_R0 I J := by
    intro d
    induction d with
    | zero =>
      intro i hi
      obtain rfl : i = 64 := by omega
      exact b9 _ _ _ _ _ _ (br_t (nI_le (by omega) (by omega)) (b64 _ _ _ _ _ _ kq))
    | succ d ih =>
      intro i hi
      have h9 := ih (i + 1) (by omega)
      have hm := mx_le (nwf_le c k) i
      have hn := nwf_le c k i
      have hk := key i (by omega)
      refine b9 _ _ _ _ _ _ (br_f (nI_ge (by omega) (by omega)) (Exists.intro i (And.intro (by omega) (And.intro rfl (cj_bitsL (by decide) (Exists.intro i (And.intro (by omega) (And.intro rfl (cj_bitsL (by decide) ?_)))))))))
      dsimp only [al_pu, o_iload, o_lload, o_aload, o_istore, o_astore, o_lstore, o_iinc, o_ic, o_lc, o_sc, o_iadd, o_isub, o_imul, o_iand, o_ior, o_ixor, o_ishl, o_ishr, o_ladd, o_lsub, o_land, o_lor, o_lxor, o_lshl, o_lshr, o_i2l, o_l2i, o_lcmp, o_dup, o_dup2, o_pop, o_getI, o_getJ, o_getR, o_putI, o_putZ, o_putJ, o_iald, o_zald, o_lald, o_aald, o_iast, o_zast, o_last, o_alen, o_cpyI, o_cpyJ, o_iret, o_zret, o_lret, o_aret, o_vret, o_idiv, o_irem, o_ineg, o_ifeq, o_ifne, o_iflt, o_ifge, o_ifgt, o_ifle, o_iceq, o_icne, o_iclt, o_icge, o_icgt, o_icle, al_gL, al_sL, al_sJ, al_gd]
      rw [nI_add, hk]
      refine And.intro (fun c2 => ?_) (fun c2 => ?_)
      · rw [nI_leI (by omega) (by omega)] at c2
        rw [mx, am, if_neg (by omega), if_neg (by omega), nI_s i] at h9
        exact b58 _ _ _ _ _ _ (wk _ _ _ _ _ _ _ _ (by simp [al_le]) h9)
      · rw [nI_leI (by omega) (by omega)] at c2
        rw [mx, am, if_pos (by omega), if_pos (by omega), nI_s i] at h9
        exact b58 _ _ _ _ _ _ (wk _ _ _ _ _ _ _ _ (by simp [al_le]) h9)
  exact b0 _ _ _ _ _ _ (loop 64 0 rfl)
theorem vw_hc {c : Nat → Nat} {s p : Nat} (hp : p < 81) : vw c 81 s p = (hcp c p && sen c p s) := by simp [vw, hp]
theorem vw_81 {c : Nat → Nat} {s p : Nat} (hp : 81 ≤ p) : vw c 81 s p = false := by
  unfold vw
  rw [decide_eq_false (by omega)]
  rfl
theorem anyb_and {P : Nat → Bool} {b : Bool} : ∀ {n : Nat}, anyb (fun j => b && P j) n = (b && anyb P n)
  | 0 => by simp [anyb]
  | n + 1 => by
    rw [anyb, anyb, anyb_and]
    cases b <;> simp
theorem anyb_cong {P P' : Nat → Bool} : ∀ {n : Nat}, (∀ j, j < n → P j = P' j) → anyb P n = anyb P' n
  | 0, _ => rfl
  | n + 1, h => by rw [anyb, anyb, anyb_cong (fun j hj => h j (by omega)), h n (by omega)]
theorem ca_planTour {S : SG} {I : II} {J : JJ} {Q : QT} (hC : CI S I J) (hv : VT S.1) (kq : ∀ (I' : II) (J' : JJ), CI S I' J' → f74 I J I' J' → I' 38 7 = nI (trn S.1.1) → (∀ k, k < trn S.1.1 → I' 44 k = nI (trb S.1.1 k)) → Q none 90 al_R0 I' J') : CT m_X8_planTour 0 [.ref 38] 90 al_R0 I J Q := by
  refine r_X8_planTour (by decide) (fun F wk b0 b9 b20 b53 b61 b137 => ?_)
  generalize hc : S.1.1 = c at *
  refine b0 _ _ _ _ _ _ (And.intro (fun c1 => b9 _ _ _ _ _ _ (ca_lookAround hC.1 hv (fun J1 g1 g2 => ?_))) (fun c1 => ?_))
  · rw [hc] at g2
    have fin : ∀ (k : Nat) (I' : II), (∀ q, q ≠ 38 → q ≠ 44 → I' q = I q) → I' 38 7 = nI k → (∀ j, j < k → I' 44 j = nI (trb c j)) → trn c = k → Q none 90 al_R0 I' J1 := fun k I' q1 q2 q3 q4 => by
      rw [← q4] at q2 q3
      refine kq I' J1 ?_ (fun p hp => ⟨q1 p (by omega) (by omega), g1 p (by omega) (by omega)⟩) q2 q3
      have hk : ∀ p, p ≠ 38 → p ≠ 44 → p ≠ 42 → p ≠ 43 → I' p = I p ∧ J1 p = J p := fun p p1 p2 p3 p4 => ⟨q1 p p1 p2, g1 p p3 p4⟩
      obtain ⟨h1, h2, h3, h4, h5, h6, h7, h8⟩ := hC
      refine ⟨h1.keep (fun p q1 q2 => hk p (by omega) (by omega) (by omega) (by omega)), h2.keep (hk 39 (by omega) (by omega) (by omega) (by omega)).1, Or.inr ?_, h4.keep (hk 72 (by omega) (by omega) (by omega) (by omega)).1 (hk 73 (by omega) (by omega) (by omega) (by omega)).1, h5.keep (hk 0 (by omega) (by omega) (by omega) (by omega)).1 (fun p q1 q2 => hk p (by omega) (by omega) (by omega) (by omega)), h6.keep (hk 45 (by omega) (by omega) (by omega) (by omega)).1 (hk 61 (by omega) (by omega) (by omega) (by omega)).1, h7.keep (fun p q1 q2 => hk p (by omega) (by omega) (by omega) (by omega)), h8.keep (hk 71 (by omega) (by omega) (by omega) (by omega)).1⟩
      rw [hc]
      exact ⟨q2, q3⟩
    have loop2 : ∀ (d k : Nat) (I' : II) (x y : Int64), k + d = 64 → (∀ q, q ≠ 38 → q ≠ 44 → I' q = I q) → I' 38 7 = nI k → (∀ j, j < k → I' 44 j = nI (trb c j)) → (∀ j, j < k → ¬ mx (nwf c j) 64 = 0) → LFT c k x y → F 61 [some (.ref 38), some (.long x), none, some (.long y), none, some (.int (nI k)), none] [] 90 al_R0 I' J1 := by
      intro d
      induction d with
      | zero =>
        intro k I' x y hk q1 q2 q3 q4 q5
        obtain rfl : k = 64 := by omega
        refine b61 _ _ _ _ _ _ (br_t (nI_le (by omega) (by omega)) (b137 _ _ _ _ _ _ (fin 64 I' q1 q2 q3 ?_)))
        unfold trn
        rw [fnx_none (fun j _ hj => decide_eq_false (q4 j (by omega)))]
      | succ d ih =>
        intro k I' x y hk q1 q2 q3 q4 q5
        refine b61 _ _ _ _ _ _ (br_f (nI_ge (by omega) (by omega)) (And.intro (fun c2 => b137 _ _ _ _ _ _ (fin k I' q1 q2 q3 ?_)) (fun c2 => ?_)))
        · rw [lg_cmp_eq, lN_0, gb_zero] at c2
          unfold trn
          refine fnx_eq (fun j _ hj => decide_eq_false (q4 j (by omega))) (by omega) (by omega) (decide_eq_true (nwf_0.mpr (fun p hp => ?_)))
          rcases Nat.lt_or_ge p 64 with w | w
          · have h1 := c2 p w
            rw [gb_or, Bool.or_eq_false_iff, q5.1 p w] at h1
            exact h1.1
          · have h1 := c2 (p - 64) (by omega)
            rw [gb_or, Bool.or_eq_false_iff, q5.2 (p - 64) (by omega), decide_eq_true (by omega), show 64 + (p - 64) = p by omega] at h1
            exact h1.2
        · have hne : ¬ mx (nwf c k) 64 = 0 := fun h0 => by
            rw [nwf_0] at h0
            apply c2
            rw [lg_cmp_eq, lN_0, gb_zero]
            intro j hj
            rw [gb_or, q5.1 j hj, q5.2 j hj, h0 j (by omega)]
            rcases Nat.lt_or_ge j 17 with w | w
            · rw [h0 (64 + j) (by omega)]; simp
            · rw [decide_eq_false (by omega)]; rfl
          have hb : trb c k < 64 := am_lt _ _ (by decide)
          refine ca_widestView g2 q5 (Exists.intro k (And.intro (by omega) (And.intro rfl ?_)))
          refine Exists.intro (trb c k) (And.intro hb (And.intro rfl (Exists.intro (trb c k) (And.intro hb (And.intro rfl ?_)))))
          have h9 := ih (k + 1) (al_up (al_up I' 44 k (nI (trb c k))) 38 7 (nI (k + 1))) (x &&& (J1 42 (trb c k) ^^^ -1)) (y &&& (J1 43 (trb c k) ^^^ -1)) (by omega) (fun q w1 w2 => by rw [al_up_row w1, al_up_row w2]; exact q1 q w1 w2) al_up_s (fun j hj => by
            rw [al_up_p (by decide)]
            by_cases e : j = k
            · subst e; exact al_up_s
            · rw [al_up_j e]; exact q3 j (by omega)) (fun j hj => by
            by_cases e : j = k
            · subst e; exact hne
            · exact q4 j (by omega)) ⟨fun j hj => by
              rw [gb_and, gb_xor, gb_m1 j hj, q5.1 j hj, (g2 _ hb j hj).1, lft_s, vw_hc (by omega)]
              cases e : lft c k j with
              | false => rfl
              | true => rw [(lft_0 e).1]; simp, fun j hj => by
              rw [gb_and, gb_xor, gb_m1 j hj, q5.2 j hj, (g2 _ hb j hj).2, lft_s]
              rcases Nat.lt_or_ge j 17 with w | w
              · rw [decide_eq_true w, vw_hc (by omega)]
                cases e : lft c k (64 + j) with
                | false => rfl
                | true => rw [(lft_0 e).1]; simp
              · rw [decide_eq_false (by omega)]; rfl⟩
          rw [nI_s k] at h9
          have e7 : al_up I' 44 k (nI (trb c k)) 38 7 = nI k := by rw [al_up_p (by decide)]; exact q2
          rw [← e7] at h9
          refine wk _ _ _ _ _ _ _ _ ?_ h9
          simp [al_le, e7]
    have loop : ∀ (d i : Nat) (x y : Int64), i + d = 64 → (∀ j, j < 64 → gb x j = anyb (fun s => vw c 81 s j) i) → (∀ j, j < 64 → gb y j = anyb (fun s => vw c 81 s (64 + j)) i) → F 20 [some (.ref 38), some (.long x), none, some (.long y), none, some (.int (nI i)), none] [] 90 al_R0 I J1 := by
      intro d
      induction d with
      | zero =>
        intro i x y hi q1 q2
        obtain rfl : i = 64 := by omega
        refine b20 _ _ _ _ _ _ (br_t (nI_le (by omega) (by omega)) (b53 _ _ _ _ _ _ ?_))
        refine loop2 64 0 (al_up I 38 7 (nI 0)) x y rfl (fun q w1 w2 => al_up_row w1) al_up_s (fun j hj => absurd hj (by omega)) (fun j hj => absurd hj (by omega)) ⟨fun j hj => ?_, fun j hj => ?_⟩
        · rw [q1 j hj, anyb_cong (P' := fun s => hcp c j && sen c j s) (fun s _ => vw_hc (by omega)), anyb_and]
          rfl
        · rw [q2 j hj]
          rcases Nat.lt_or_ge j 17 with w | w
          · rw [decide_eq_true w, anyb_cong (P' := fun s => hcp c (64 + j) && sen c (64 + j) s) (fun s _ => vw_hc (by omega)), anyb_and]
            rfl
          · rw [decide_eq_false (by omega), anyb_no (fun s _ => vw_81 (by omega))]
            rfl
      | succ d ih =>
        intro i x y hi q1 q2
        refine b20 _ _ _ _ _ _ (br_f (nI_ge (by omega) (by omega)) (Exists.intro i (And.intro (by omega) (And.intro rfl (Exists.intro i (And.intro (by omega) (And.intro rfl ?_)))))))
        have h9 := ih (i + 1) (x ||| J1 42 i) (y ||| J1 43 i) (by omega) (fun j hj => by rw [gb_or, q1 j hj, (g2 i (by omega) j hj).1]; rfl) (fun j hj => by rw [gb_or, q2 j hj, (g2 i (by omega) j hj).2]; rfl)
        rw [nI_s i] at h9
        exact h9
    exact loop 64 0 (lN 0) (lN 0) rfl (fun j hj => by rw [lN_0, gb_0]; rfl) (fun j hj => by rw [lN_0, gb_0]; rfl)
  · have h3 := hC.2.2.1
    rw [hc] at h3
    rcases h3 with h3 | ⟨h3, h4⟩
    · exact absurd h3 c1
    · exact kq I J hC (f74.rf I J) h3 h4
theorem trn_le (c : Nat → Nat) : trn c ≤ 64 := by have := (fnx_le (P := fun k => decide (mx (nwf c k) 64 = 0)) (d := 64) (s := 0)).2; unfold trn; omega
theorem X_spots {a : Int32} {S : SG} {I : II} {J : JJ} {Q : QT} (hC : CI S I J) (hV : VS S) (k1 : ∀ w, w < trn S.1.1 → a = nI w → PX I J Q S (.int (nI (trb S.1.1 w)))) (k2 : ing 64 a → ¬ a = -1 → PX I J Q (fnd 0 S) (.int (-1000000001))) (k3 : a = -1 → PX I J Q S (.int (nI (trn S.1.1)))) (k4 : ∀ w, w < 64 → a = nI w → trn S.1.1 ≤ w → PX I J Q (fnd 3 S) (.int (-1000000004))) : CT m_X11_spots 0 [.ref 0, .int a] 90 al_R0 I J Q := by
  refine r_X11_spots (by decide) (fun F wk b0 b11 b18 b38 b61 b67 => ?_)
  have hm1 : (-1 : Int32).toInt = -1 := by decide +kernel
  have hl := trn_le S.1.1
  have h11 : (a.toInt < -1 ∨ 64 ≤ a.toInt) → F 11 [some (.ref 0), some (.int a)] [] 90 al_R0 I J := fun q => b11 _ _ _ _ _ _ (cx_finding hC (k := 0) (by decide) (by decide +kernel) (k2 (by
    rintro w hw rfl
    rw [nI_toInt (by omega)] at q
    omega) (by
    rintro rfl
    rw [hm1] at q
    omega)))
  refine b0 _ _ _ _ _ _ (And.intro (fun c => ?_) (fun c => And.intro (fun c2 => ?_) (fun c2 => ?_)))
  · rw [Int32.lt_iff_toInt_lt, hm1] at c
    exact h11 (Or.inl c)
  · rw [Int32.lt_iff_toInt_lt, hm1] at c
    rw [ix_lt (by decide)] at c2
    refine b18 _ _ _ _ _ _ (ca_planTour hC hV.1 (fun I1 J1 g1 g2 g3 g4 => And.intro (fun c3 => b38 _ _ _ _ _ _ ?_) (fun c3 => ?_)))
    · have hne : ¬ a.toInt = -1 := fun q => c3 (by rw [← Int32.toInt_inj, hm1]; exact q)
      have e : a = nI a.toInt.toNat := i_of (by omega) (by omega)
      have h64 : a.toInt.toNat < 64 := by omega
      generalize a.toInt.toNat = w at e h64
      refine And.intro (fun c4 => ?_) (fun c4 => ?_)
      · rw [g3, e, nI_leI (by omega) (by omega)] at c4
        exact b61 _ _ _ _ _ _ (cx_finding g1 (k := 3) (by decide) (by decide +kernel) (fun I2 J2 q1 q2 => b67 _ _ _ _ _ _ (k4 w h64 e c4 I2 J2 q1 (f74.tr g2 q2))))
      · rw [g3, e, nI_leI (by omega) (by omega)] at c4
        have h9 := k1 w (by omega) e I1 J1 g1 g2
        rw [← g4 w (by omega)] at h9
        exact Exists.intro w (And.intro (by omega) (And.intro e (b67 _ _ _ _ _ _ h9)))
    · have h9 := k3 c3 I1 J1 g1 g2
      rw [← g3] at h9
      exact h9
  · rw [ix_lt (by decide)] at c2
    exact h11 (Or.inr (by omega))
