/-! THE REFERENCE: squares and items of a text -/
theorem MS.i {n e : Nat} {y : Nat → Nat} {w : Bool} {I I' : II} (hS : MS n y e w I) (h81 : I' 81 = I 81) (h : ∀ j, 10 ≤ j → j ≤ 15 → I' 74 j = I 74 j) : MS n y e w I' := by
  obtain ⟨⟨t1, t2, t3⟩, ⟨he, l1, l2, l3, l4⟩, l5⟩ := hS
  exact ⟨⟨(h 10 (by decide) (by decide)).trans t1, t2, fun j hj => by rw [h81]; exact t3 j hj⟩, ⟨he, (h 11 (by decide) (by decide)).trans l1, (h 12 (by decide) (by decide)).trans l2, (h 13 (by decide) (by decide)).trans l3, (h 14 (by decide) (by decide)).trans l4⟩, (h 15 (by decide) (by decide)).trans l5⟩
set_option maxHeartbeats 2000000 in
theorem ma_squares {n e : Nat} {w : Bool} {y : Nat → Nat} {I : II} {J : JJ} {Q : QT} (hS : MS n y e w I) (kq : ∀ (I' : II) (x : Int64), kL I I' → (w = true → MS n y e true I') → (w = false → MS n y (sqs n y e).2.1 (!(sqs n y e).1) I' ∧ ((sqs n y e).1 = true → ∀ q, q < 64 → gb x q = (sqs n y e).2.2 q)) → Q (some (.long x)) 90 al_R0 I' J) : CT m_X12_squares 0 [.ref 74] 90 al_R0 I J Q := by
  refine r_X12_squares (by decide) (fun F wk b0 b19 b22 b23 b60 b63 b68 b106 b133 => ?_)
  have wrong : ∀ (e' : Nat) (a : Int32) (x : Int64) (I' : II), kL I I' → MS n y e' true I' → (w = true → e' = e) → (w = false → (sqs n y e).1 = false ∧ (sqs n y e).2.1 = e') → F 23 [some (.ref 74), some (.int a), some (.long x), none, none, none] [] 90 al_R0 I' J := fun e' a x I' g1 g2 g3 g4 => by
    have h133 : F 133 [some (.ref 74), some (.int a), some (.long x), none, none, none] [] 90 al_R0 I' J := b133 _ _ _ _ _ _ (kq I' x g1 (fun h => by rw [← g3 h]; exact g2) (fun h => ⟨by rw [(g4 h).1, (g4 h).2]; exact g2, fun h2 => by rw [(g4 h).1] at h2; exact absurd h2 (by decide)⟩))
    exact b23 _ _ _ _ _ _ (br_u (by rw [g2.2.2]; exact n10) (b68 _ _ _ _ _ _ (br_u (by rw [g2.2.2]; exact n10) h133)))
  have fail : w = false → ∀ (m e' : Nat) (S : Nat → Bool) (x : Int64) (I' : II), 1 ≤ m → m ≤ 64 → kL I I' → MS n y e' false I' → kdk n y e' = 2 → pnum n y e' m 64 = false → sq1 n y 64 0 e noS = (false, e', m, S) → F 23 [some (.ref 74), some (.int (nI (m - 1))), some (.long x), none, none, none] [] 90 al_R0 I' J := by
    intro hw m e' S x I' m1 m2 g1 g2 hk hp hR
    have hs : sqs n y e = (false, e', S) := by
      unfold sqs sqt
      rw [hR]
      exact if_neg (fun h => absurd (show false = true from h.1) (by decide))
    have h13 := g2.2.1.2.2.2.1
    have hs2 : skd n y e' = 2 := (skd_iff (by decide)).mpr hk
    refine b23 _ _ _ _ _ _ (br_v (by rw [g2.2.2]; exact nI_0) (br_v (by rw [h13, hs2]) ?_))
    dsimp only [o_iload, o_lload, o_aload, o_istore, o_astore, o_lstore, o_iinc, o_ic, o_lc, o_sc, o_iadd, o_isub, o_imul, o_iand, o_ior, o_ixor, o_ishl, o_ishr, o_ladd, o_lsub, o_land, o_lor, o_lxor, o_lshl, o_lshr, o_i2l, o_l2i, o_lcmp, o_dup, o_dup2, o_pop, o_getI, o_getJ, o_getR, o_putI, o_putZ, o_putJ, o_iald, o_zald, o_lald, o_aald, o_iast, o_zast, o_last, o_alen, o_cpyI, o_cpyJ, o_iret, o_zret, o_lret, o_aret, o_vret, o_idiv, o_irem, o_ineg, o_ifeq, o_ifne, o_iflt, o_ifge, o_ifgt, o_ifle, o_iceq, o_icne, o_iclt, o_icge, o_icgt, o_icle, al_gL, al_sL, al_sJ, al_gd]
    rw [← nI_s, show m - 1 + 1 = m by omega]
    refine ma_number (lo := m) (hx := 64) g2 (by omega) (by rw [nT (by omega)]; omega) (fun I2 q1 q2 => ?_)
    rw [hp] at q2
    have q2 : MS n y e' true I2 := q2
    exact br_f (by rw [q2.2.2]; exact n10) (b63 _ _ _ _ _ _ (wrong e' _ _ I2 (g1.tr q1) q2 (fun h => by rw [hw] at h; exact absurd h (by decide)) (fun _ => by rw [hs]; exact ⟨rfl, rfl⟩)))
  have ende : w = false → ∀ (m e' : Nat) (S : Nat → Bool) (x : Int64) (I' : II), 1 ≤ m → m ≤ 64 → kL I I' → MS n y e' false I' → ¬ kdk n y e' = 2 → (∀ q, q < 64 → gb x q = S q) → sq1 n y 64 0 e noS = (true, e', m, S) → F 23 [some (.ref 74), some (.int (nI (m - 1))), some (.long x), none, none, none] [] 90 al_R0 I' J := by
    intro hw m e' S x I' m1 m2 g1 g2 hk hx hR
    have h13 := g2.2.1.2.2.2.1
    have hs3 := skd_lt n y e'
    have hs : sqs n y e = sqt n y (true, e', m, S) := by
      unfold sqs
      rw [hR]
    have em : nI m = nI (m - 1) + nI 1 := by rw [← nI_s, show m - 1 + 1 = m by omega]
    refine b23 _ _ _ _ _ _ (br_v (by rw [g2.2.2]; exact nI_0) (br_u (by rw [h13, nI_eq (by omega) (by omega), skd_iff (by decide)]; exact hk) (b68 _ _ _ _ _ _ (br_v (by rw [g2.2.2]; exact nI_0) (ma_isWord (w := 12) g2 (by decide) (And.intro (fun c => b133 _ _ _ _ _ _ (kq I' x g1 (fun h => by rw [hw] at h; exact absurd h (by decide)) (fun _ => ?_))) (fun c => ?_)))))))
    · have c := bz_f c
      have hs2 : sqs n y e = (true, e', S) := by
        rw [hs]
        unfold sqt
        refine if_neg (fun h => ?_)
        unfold iwd at c
        rw [decide_eq_true h.2.1, h.2.2] at c
        exact absurd c (by decide)
      rw [hs2]
      exact ⟨g2, fun _ => hx⟩
    · have c := bz_t c
      unfold iwd at c
      rw [Bool.and_eq_true, decide_eq_true_eq] at c
      refine ma_must (b := true) g2 (fun I2 q1 q2 => ?_)
      have q2 : MS n y (enk n y e') false I2 := q2
      dsimp only [al_pu, o_iload, o_lload, o_aload, o_istore, o_astore, o_lstore, o_iinc, o_ic, o_lc, o_sc, o_iadd, o_isub, o_imul, o_iand, o_ior, o_ixor, o_ishl, o_ishr, o_ladd, o_lsub, o_land, o_lor, o_lxor, o_lshl, o_lshr, o_i2l, o_l2i, o_lcmp, o_dup, o_dup2, o_pop, o_getI, o_getJ, o_getR, o_putI, o_putZ, o_putJ, o_iald, o_zald, o_lald, o_aald, o_iast, o_zast, o_last, o_alen, o_cpyI, o_cpyJ, o_iret, o_zret, o_lret, o_aret, o_vret, o_idiv, o_irem, o_ineg, o_ifeq, o_ifne, o_iflt, o_ifge, o_ifgt, o_ifle, o_iceq, o_icne, o_iclt, o_icge, o_icgt, o_icle, al_gL, al_sL, al_sJ, al_gd]
      rw [← nI_s, show m - 1 + 1 = m by omega]
      refine ma_number (lo := m) (hx := 64) q2 (by omega) (by rw [nT (by omega)]; omega) (fun I3 r1 r2 => ?_)
      have k3 := (g1.tr q1).tr r1
      have hsv : sqs n y e = if pnum n y (enk n y e') m 64 = true then (true, enk n y (enk n y e'), fun j => S j || (decide (m ≤ j) && decide (j < vlk n y (enk n y e') + 1))) else (false, enk n y e', S) := by
        rw [hs]
        unfold sqt
        exact if_pos ⟨rfl, c⟩
      have hvv := vvk_le n y (enk n y e')
      cases hp : pnum n y (enk n y e') m 64 with
      | false =>
        rw [hp] at r2
        have r2 : MS n y (enk n y e') true I3 := r2
        rw [hp, if_neg (by decide)] at hsv
        have h133 : ∀ a b d : Int32, F 133 [some (.ref 74), some (.int a), some (.long x), none, some (.int b), some (.int d)] [] 90 al_R0 I3 J := fun a b d => b133 _ _ _ _ _ _ (kq I3 x k3 (fun h => by rw [hw] at h; exact absurd h (by decide)) (fun _ => by
          rw [hsv]
          exact ⟨r2, fun h2 => absurd (show false = true from h2) (by decide)⟩))
        exact b106 _ _ _ _ _ _ (And.intro (fun _ => h133 _ _ _) (fun _ => br_u (by rw [r2.2.2]; exact n10) (h133 _ _ _)))
      | true =>
        rw [hp] at r2
        have r2 : MS n y (enk n y (enk n y e')) false I3 := r2
        rw [hp, if_pos rfl] at hsv
        have hpn := pnum_iff.mp hp
        have ev : vvk n y (enk n y e') = vlk n y (enk n y e') := if_pos hpn.1
        rw [ev]
        generalize vlk n y (enk n y e') = v at *
        have lp : ∀ (d2 q : Nat) (x2 : Int64), q + d2 = v + 1 → m ≤ q → (∀ j, j < 64 → gb x2 j = (S j || (decide (m ≤ j) && decide (j < q)))) → F 106 [some (.ref 74), some (.int (nI (m - 1))), some (.long x2), none, some (.int (nI v)), some (.int (nI q))] [] 90 al_R0 I3 J := by
          intro d2
          induction d2 with
          | zero =>
            intro q x2 hq hmq hx2
            obtain rfl : q = v + 1 := by omega
            refine b106 _ _ _ _ _ _ (br_t (nI_lt (by omega) (by omega)) (b133 _ _ _ _ _ _ (kq I3 x2 k3 (fun h => by rw [hw] at h; exact absurd h (by decide)) (fun _ => ?_))))
            rw [hsv]
            exact ⟨r2, fun _ => hx2⟩
          | succ d2 ih2 =>
            intro q x2 hq hmq hx2
            have h9 := ih2 (q + 1) (x2 ||| (lN 1 <<< ((nI q).toInt64 &&& 63))) (by omega) (by omega) (fun j hj => by
              rw [gb_or, gb_bits q (by omega) j hj, hx2 j hj]
              by_cases e1 : j = q
              · subst e1
                rw [decide_eq_true hmq, decide_eq_true (show j < j + 1 by omega), decide_eq_true rfl]
                simp
              · rw [decide_eq_false e1, Bool.or_false]
                congr 2
                rw [decide_eq_decide]
                omega)
            rw [nI_s q] at h9
            exact b106 _ _ _ _ _ _ (br_f (nI_nlt (by omega) (by omega)) (br_v (by rw [r2.2.2]; exact nI_0) h9))
        have h9 := lp (v + 1 - m) m x (by omega) (Nat.le_refl m) (fun j hj => by
          rw [hx j hj]
          by_cases e1 : m ≤ j
          · rw [decide_eq_false (show ¬ j < m by omega)]; simp
          · rw [decide_eq_false e1]; simp)
        rw [em] at h9
        exact h9
  have loop : w = false → ∀ (d m e' : Nat) (S : Nat → Bool) (x : Int64) (I' : II), 64 ≤ m + d → 1 ≤ m → m ≤ 64 → kL I I' → MS n y e' false I' → (∀ q, q < 64 → gb x q = S q) → sq1 n y 64 0 e noS = (if kdk n y e' = 2 then sq1 n y d m e' S else (true, e', m, S)) → F 23 [some (.ref 74), some (.int (nI (m - 1))), some (.long x), none, none, none] [] 90 al_R0 I' J := by
    intro hw d
    induction d with
    | zero =>
      intro m e' S x I' hd m1 m2 g1 g2 hx hR
      by_cases hk : kdk n y e' = 2
      · rw [if_pos hk] at hR
        refine fail hw m e' S x I' m1 m2 g1 g2 hk (Bool.eq_false_iff.mpr (fun h => ?_)) hR
        have := pnum_iff.mp h
        omega
      · rw [if_neg hk] at hR
        exact ende hw m e' S x I' m1 m2 g1 g2 hk hx hR
    | succ d ih =>
      intro m e' S x I' hd m1 m2 g1 g2 hx hR
      by_cases hk : kdk n y e' = 2
      · have hst : sq1 n y (d + 1) m e' S = if pnum n y e' m 64 = true then (if kdk n y (enk n y e') = 2 then sq1 n y d (vlk n y e' + 1) (enk n y e') (ups S (vlk n y e') true) else (true, enk n y e', vlk n y e' + 1, ups S (vlk n y e') true)) else (false, e', m, S) := by rw [sq1]
        rw [if_pos hk, hst] at hR
        cases hp : pnum n y e' m 64 with
        | false =>
          rw [hp, if_neg (by decide)] at hR
          exact fail hw m e' S x I' m1 m2 g1 g2 hk hp hR
        | true =>
          rw [hp, if_pos rfl] at hR
          have h13 := g2.2.1.2.2.2.1
          have hs2 : skd n y e' = 2 := (skd_iff (by decide)).mpr hk
          have hpn := pnum_iff.mp hp
          have ev : vvk n y e' = vlk n y e' := if_pos hk
          refine b23 _ _ _ _ _ _ (br_v (by rw [g2.2.2]; exact nI_0) (br_v (by rw [h13, hs2]) ?_))
          dsimp only [o_iload, o_lload, o_aload, o_istore, o_astore, o_lstore, o_iinc, o_ic, o_lc, o_sc, o_iadd, o_isub, o_imul, o_iand, o_ior, o_ixor, o_ishl, o_ishr, o_ladd, o_lsub, o_land, o_lor, o_lxor, o_lshl, o_lshr, o_i2l, o_l2i, o_lcmp, o_dup, o_dup2, o_pop, o_getI, o_getJ, o_getR, o_putI, o_putZ, o_putJ, o_iald, o_zald, o_lald, o_aald, o_iast, o_zast, o_last, o_alen, o_cpyI, o_cpyJ, o_iret, o_zret, o_lret, o_aret, o_vret, o_idiv, o_irem, o_ineg, o_ifeq, o_ifne, o_iflt, o_ifge, o_ifgt, o_ifle, o_iceq, o_icne, o_iclt, o_icge, o_icgt, o_icle, al_gL, al_sL, al_sJ, al_gd]
          rw [← nI_s, show m - 1 + 1 = m by omega]
          refine ma_number (lo := m) (hx := 64) g2 (by omega) (by rw [nT (by omega)]; omega) (fun I2 q1 q2 => ?_)
          rw [hp] at q2
          have q2 : MS n y (enk n y e') false I2 := q2
          rw [ev]
          refine br_t (by rw [q2.2.2]; exact nI_0) (b60 _ _ _ _ _ _ (b63 _ _ _ _ _ _ ?_))
          have h9 := ih (vlk n y e' + 1) (enk n y e') (ups S (vlk n y e') true) (x ||| (lN 1 <<< ((nI (vlk n y e')).toInt64 &&& 63))) I2 (by omega) (by omega) (by omega) (g1.tr q1) q2 (fun j hj => by
            rw [gb_or, gb_bits _ (by omega) j hj, hx j hj]
            by_cases e1 : j = vlk n y e'
            · rw [e1, ups_s]; simp
            · rw [ups_n e1, decide_eq_false e1, Bool.or_false]) hR
          rw [Nat.add_sub_cancel] at h9
          exact h9
      · rw [if_neg hk] at hR
        exact ende hw m e' S x I' m1 m2 g1 g2 hk hx hR
  refine b0 _ _ _ _ _ _ (ma_number (lo := 0) (hx := 64) hS (by omega) (by rw [nT (by omega)]; omega) (fun I1 g1 g2 => ?_))
  cases hw : w with
  | true =>
    rw [hw] at g2
    have g2 : MS n y e true I1 := g2
    exact br_f (by rw [g2.2.2]; exact n10) (b22 _ _ _ _ _ _ (wrong e _ _ I1 g1 g2 (fun _ => rfl) (fun h => by rw [hw] at h; exact absurd h (by decide))))
  | false =>
    rw [hw] at g2
    have e64 : sq1 n y 64 0 e noS = if pnum n y e 0 64 = true then (if kdk n y (enk n y e) = 2 then sq1 n y 63 (vlk n y e + 1) (enk n y e) (ups noS (vlk n y e) true) else (true, enk n y e, vlk n y e + 1, ups noS (vlk n y e) true)) else (false, e, 0, noS) := by
      rw [show (64 : Nat) = 63 + 1 from rfl, sq1]
    cases hp : pnum n y e 0 64 with
    | false =>
      rw [hp] at g2
      have g2 : MS n y e true I1 := g2
      rw [hp, if_neg (by decide)] at e64
      have hs : sqs n y e = (false, e, noS) := by
        unfold sqs sqt
        rw [e64]
        exact if_neg (fun h => absurd (show false = true from h.1) (by decide))
      exact br_f (by rw [g2.2.2]; exact n10) (b22 _ _ _ _ _ _ (wrong e _ _ I1 g1 g2 (fun _ => rfl) (fun _ => by rw [hs]; exact ⟨rfl, rfl⟩)))
    | true =>
      rw [hp] at g2
      have g2 : MS n y (enk n y e) false I1 := g2
      rw [hp, if_pos rfl] at e64
      have hpn := pnum_iff.mp hp
      have ev : vvk n y e = vlk n y e := if_pos hpn.1
      rw [ev]
      refine br_t (by rw [g2.2.2]; exact nI_0) (b19 _ _ _ _ _ _ (b22 _ _ _ _ _ _ ?_))
      have h9 := loop hw 63 (vlk n y e + 1) (enk n y e) (ups noS (vlk n y e) true) (lN 1 <<< ((nI (vlk n y e)).toInt64 &&& 63)) I1 (by omega) (by omega) (by omega) g1 g2 (fun j hj => by
        rw [gb_bits _ (by omega) j hj]
        by_cases e1 : j = vlk n y e
        · rw [e1, ups_s]; simp
        · rw [ups_n e1, decide_eq_false e1]; rfl) e64
      rw [Nat.add_sub_cancel] at h9
      exact h9
theorem ma_item {i : Nat} {a b c : Int32} {x : Int64} {I : II} {J : JJ} {Q : QT} (hi : i < 120) (h20 : I 74 20 = nI i) (kq : Q none 90 al_R0 (al_up (al_up (al_up (al_up I 84 (3 * i) a) 84 (3 * i + 1) b) 84 (3 * i + 2) c) 74 20 (nI (i + 1))) (al_up J 85 i x)) : CT m_X12_item 0 [.ref 74, .int a, .int b, .int c, .long x] 90 al_R0 I J Q := by
  have e1 : al_up I 84 (3 * i) a 74 20 = nI i := by rw [al_up_p (by decide)]; exact h20
  have e2 : al_up (al_up I 84 (3 * i) a) 84 (3 * i + 1) b 74 20 = nI i := by rw [al_up_p (by decide)]; exact e1
  have e3 : al_up (al_up (al_up I 84 (3 * i) a) 84 (3 * i + 1) b) 84 (3 * i + 2) c 74 20 = nI i := by rw [al_up_p (by decide)]; exact e2
  refine r_X12_item (by decide) (fun F wk b0 => b0 _ _ _ _ _ _ (Exists.intro (3 * i) (And.intro (by omega) (And.intro (by rw [h20, pk_mul]) (Exists.intro (3 * i + 1) (And.intro (by omega) (And.intro (by rw [e1, pk_mul, nI_add]) (Exists.intro (3 * i + 2) (And.intro (by omega) (And.intro (by rw [e2, pk_mul, nI_add]) (Exists.intro i (And.intro hi (And.intro e3 ?_)))))))))))))
  rw [nI_s] at kq
  rw [← e3] at kq
  exact kq
/-- an item as it is kept -/
def EI (I : II) (J : JJ) (i : Nat) (it : IT) : Prop := I 84 (3 * i) = nI it.1 ∧ I 84 (3 * i + 1) = nI it.2.1 ∧ I 84 (3 * i + 2) = nI it.2.2.1 ∧ ∀ q, q < 64 → gb (J 85 i) q = it.2.2.2 q
def kI (i : Nat) (I : II) (J : JJ) (I' : II) (J' : JJ) : Prop := (∀ q, q ≠ 74 → q ≠ 84 → I' q = I q) ∧ (∀ j, ¬ (11 ≤ j ∧ j ≤ 15) → j ≠ 20 → j ≠ 21 → I' 74 j = I 74 j) ∧ (∀ k, k < 3 * i → I' 84 k = I 84 k) ∧ (∀ q, q ≠ 85 → J' q = J q) ∧ ∀ k, k < i → J' 85 k = J 85 k
theorem kI.rf (i : Nat) (I : II) (J : JJ) : kI i I J I J := ⟨fun _ _ _ => rfl, fun _ _ _ _ => rfl, fun _ _ => rfl, fun _ _ => rfl, fun _ _ => rfl⟩
theorem kI.tr {i : Nat} {I I' I'' : II} {J J' J'' : JJ} (h1 : kI i I J I' J') (h2 : kI i I' J' I'' J'') : kI i I J I'' J'' := ⟨fun q a b => (h2.1 q a b).trans (h1.1 q a b), fun j a b c => (h2.2.1 j a b c).trans (h1.2.1 j a b c), fun k hk => (h2.2.2.1 k hk).trans (h1.2.2.1 k hk), fun q hq => (h2.2.2.2.1 q hq).trans (h1.2.2.2.1 q hq), fun k hk => (h2.2.2.2.2 k hk).trans (h1.2.2.2.2 k hk)⟩
theorem kL.i {i : Nat} {I I' : II} {J : JJ} (h : kL I I') : kI i I J I' J := ⟨fun q a _ => h.1 q a, fun j a _ _ => h.2 j (by omega) (by omega) (by omega) (by omega) (by omega), fun k _ => by rw [h.1 84 (by decide)], fun _ _ => rfl, fun _ _ => rfl⟩
theorem kI.it {i : Nat} {a b c v : Int32} {x : Int64} {I : II} {J : JJ} : kI i I J (al_up (al_up (al_up (al_up I 84 (3 * i) a) 84 (3 * i + 1) b) 84 (3 * i + 2) c) 74 20 v) (al_up J 85 i x) := ⟨fun q h1 h2 => by rw [al_up_row h1, al_up_row h2, al_up_row h2, al_up_row h2], fun j h1 h2 h3 => by rw [al_up_j h2, al_up_p (by decide), al_up_p (by decide), al_up_p (by decide)], fun k hk => by rw [al_up_p (by decide), al_up_j (by omega), al_up_j (by omega), al_up_j (by omega)], fun q hq => al_up_row hq, fun k hk => al_up_j (by omega)⟩
theorem MS.t {n e i : Nat} {a b c v : Int32} {y : Nat → Nat} {w : Bool} {I : II} (hS : MS n y e w I) : MS n y e w (al_up (al_up (al_up (al_up I 84 (3 * i) a) 84 (3 * i + 1) b) 84 (3 * i + 2) c) 74 20 v) := hS.i (by rw [al_up_row (by decide), al_up_row (by decide), al_up_row (by decide), al_up_row (by decide)]) (fun j h1 h2 => by rw [al_up_j (by omega), al_up_p (by decide), al_up_p (by decide), al_up_p (by decide)])
theorem EI.of {i : Nat} {it : IT} {v : Int32} {x : Int64} {I : II} {J : JJ} (hx : ∀ q, q < 64 → gb x q = it.2.2.2 q) : EI (al_up (al_up (al_up (al_up I 84 (3 * i) (nI it.1)) 84 (3 * i + 1) (nI it.2.1)) 84 (3 * i + 2) (nI it.2.2.1)) 74 20 v) (al_up J 85 i x) i it := ⟨by rw [al_up_p (by decide), al_up_j (by omega), al_up_j (by omega), al_up_s], by rw [al_up_p (by decide), al_up_j (by omega), al_up_s], by rw [al_up_p (by decide), al_up_s], fun q hq => by rw [al_up_s]; exact hx q hq⟩
