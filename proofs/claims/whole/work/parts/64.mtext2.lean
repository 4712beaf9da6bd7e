/-! THE REFERENCE: an item read -/
theorem whS {n e : Nat} {y : Nat → Nat} : lsm (fun k => iwd n y e (0 + k)) 4 = if kdk n y e = 1 ∧ plw n y e < 4 then nI (plw n y e) else -1 := by
  rw [lsm_eq (fun i j hi hj h1 h2 => by have := iwd_u (a := 0 + i) (b := 0 + j) (by omega) (by omega) h1 h2; omega)]
  by_cases k : kdk n y e = 1
  · have e1 : (fun k => iwd n y e (0 + k)) = fun w => isw n y e w := by
      funext w
      unfold iwd
      rw [decide_eq_true k, Bool.true_and, Nat.zero_add]
    rw [e1, show fnx (fun w => isw n y e w) 0 4 = plw n y e from rfl]
    by_cases c : plw n y e < 4
    · rw [if_pos c, if_pos ⟨k, c⟩]
    · rw [if_neg c, if_neg (fun h => c h.2)]
  · rw [if_neg (fun h : kdk n y e = 1 ∧ plw n y e < 4 => k h.1), fnx_none (fun j _ _ => by unfold iwd; rw [decide_eq_false k, Bool.false_and]), if_neg (by omega)]
theorem whK {n e : Nat} {y : Nat → Nat} : lsm (fun k => iwd n y e (4 + k)) 6 = if kdk n y e = 1 ∧ knd n y e < 6 then nI (knd n y e) else -1 := by
  rw [lsm_eq (fun i j hi hj h1 h2 => by have := iwd_u (a := 4 + i) (b := 4 + j) (by omega) (by omega) h1 h2; omega)]
  by_cases k : kdk n y e = 1
  · have e1 : (fun k => iwd n y e (4 + k)) = fun w => isw n y e (4 + w) := by
      funext w
      unfold iwd
      rw [decide_eq_true k, Bool.true_and]
    rw [e1, show fnx (fun w => isw n y e (4 + w)) 0 6 = knd n y e from rfl]
    by_cases c : knd n y e < 6
    · rw [if_pos c, if_pos ⟨k, c⟩]
    · rw [if_neg c, if_neg (fun h => c h.2)]
  · rw [if_neg (fun h : kdk n y e = 1 ∧ knd n y e < 6 => k h.1), fnx_none (fun j _ _ => by unfold iwd; rw [decide_eq_false k, Bool.false_and]), if_neg (by omega)]
theorem isw_no10 {n e w : Nat} {y : Nat → Nat} (hw : w < 10) (h : isw n y e w = true) : ¬ isw n y e 10 = true := fun h2 => by
  have := isw_u (by omega) (by omega) h h2
  omega
theorem plw_at {n e : Nat} {y : Nat → Nat} (h : plw n y e < 4) : isw n y e (plw n y e) = true := fnx_at (P := fun w => isw n y e w) (s := 0) (d := 4) (by unfold plw at h; omega)
theorem knd_at {n e : Nat} {y : Nat → Nat} (h : knd n y e < 6) : isw n y e (4 + knd n y e) = true := fnx_at (P := fun k => isw n y e (4 + k)) (s := 0) (d := 6) (by unfold knd at h; omega)
theorem pit_S {n e nh : Nat} {y : Nat → Nat} (hk : kdk n y e = 1) (h : plw n y e < 4) : pit1 n y nh e = ((sqs n y (enk n y e)).1, (sqs n y (enk n y e)).2.1, (plw n y e, 0, 0, (sqs n y (enk n y e)).2.2)) := by
  unfold pit1
  rw [if_neg (fun c => c hk), if_neg (isw_no10 (by omega) (plw_at h)), if_pos h]
theorem pit_K {n e nh : Nat} {y : Nat → Nat} (hk : kdk n y e = 1) (h1 : ¬ plw n y e < 4) (h : knd n y e < 6) : pit1 n y nh e = phs n y nh e := by
  unfold pit1
  rw [if_neg (fun c => c hk), if_neg (isw_no10 (by omega) (knd_at h)), if_neg h1, if_pos h]
theorem pit_R {n e nh : Nat} {y : Nat → Nat} (h : iwd n y e 10 = true) : pit1 n y nh e = prc n y nh e := by
  unfold iwd at h
  rw [Bool.and_eq_true, decide_eq_true_eq] at h
  unfold pit1
  rw [if_neg (fun c => c h.1), if_pos h.2]
theorem pit_0 {n e nh : Nat} {y : Nat → Nat} (h : iwd n y e 10 = false) (hA : ¬ (kdk n y e = 1 ∧ plw n y e < 4)) (hB : ¬ (kdk n y e = 1 ∧ knd n y e < 6)) : pit1 n y nh e = (false, e, it0) := by
  unfold pit1
  by_cases k : kdk n y e = 1
  · rw [if_neg (fun c => c k), if_neg (fun c => by unfold iwd at h; rw [decide_eq_true k, c] at h; exact absurd h (by decide)), if_neg (fun c => hA ⟨k, c⟩), if_neg (fun c => hB ⟨k, c⟩)]
  · rw [if_pos k]
theorem kI.u1 {i : Nat} {v : Int32} {I : II} {J : JJ} : kI i I J (al_up I 74 21 v) J := ⟨fun q h1 _ => al_up_row h1, fun j _ _ h => al_up_j h, fun k _ => al_up_p (by decide), fun _ _ => rfl, fun _ _ => rfl⟩
set_option maxHeartbeats 4000000 in
theorem ma_readItem {n e i hm nh : Nat} {y : Nat → Nat} {I : II} {J : JJ} {Q : QT} (hS : MS n y e false I) (hi : i < 120) (h20 : I 74 20 = nI i) (h21 : I 74 21 = nI hm) (h142 : I 75 142 = nI nh) (hnh : nh + hm ≤ 6) (kq : ∀ (I' : II) (J' : JJ), kI i I J I' J' → MS n y (pit1 n y (nh + hm) e).2.1 (!(pit1 n y (nh + hm) e).1) I' → I' 74 20 = nI (i + 1) → ((pit1 n y (nh + hm) e).1 = true → EI I' J' i (pit1 n y (nh + hm) e).2.2 ∧ I' 74 21 = nI (if (pit1 n y (nh + hm) e).2.2.1 = 10 then hm + 1 else hm)) → Q none 90 al_R0 I' J') : CT m_X12_readItem 0 [.ref 74] 90 al_R0 I J Q := by
  refine r_X12_readItem (by decide) (fun F wk b0 b41 b68 b69 b111 b112 b124 b141 b142 b148 b196 => ?_)
  have endW : ∀ (L : List (Option Value)) (I1 : II) (a b c : Int32) (x : Int64) (e' : Nat), kI i I J I1 J → MS n y e' true I1 → (pit1 n y (nh + hm) e).1 = false → (pit1 n y (nh + hm) e).2.1 = e' → F 196 L [] 90 al_R0 (al_up (al_up (al_up (al_up I1 84 (3 * i) a) 84 (3 * i + 1) b) 84 (3 * i + 2) c) 74 20 (nI (i + 1))) (al_up J 85 i x) := fun L I1 a b c x e' g1 g2 r1 r2 => by
    rw [r1, r2] at kq
    exact b196 _ _ _ _ _ _ (kq _ _ (g1.tr kI.it) g2.t al_up_s (fun h => absurd h (by decide)))
  have endR : ∀ (L : List (Option Value)) (I1 : II) (x : Int64) (e' : Nat) (it : IT), kI i I J I1 J → MS n y e' false I1 → pit1 n y (nh + hm) e = (true, e', it) → (∀ q, q < 64 → gb x q = it.2.2.2 q) → I1 74 21 = nI (if it.1 = 10 then hm + 1 else hm) → F 196 L [] 90 al_R0 (al_up (al_up (al_up (al_up I1 84 (3 * i) (nI it.1)) 84 (3 * i + 1) (nI it.2.1)) 84 (3 * i + 2) (nI it.2.2.1)) 74 20 (nI (i + 1))) (al_up J 85 i x) := fun L I1 x e' it g1 g2 r g3 g4 => by
    rw [r] at kq
    refine b196 _ _ _ _ _ _ (kq _ _ (g1.tr kI.it) g2.t al_up_s (fun _ => ⟨EI.of g3, ?_⟩))
    rw [al_up_j (by decide), al_up_p (by decide), al_up_p (by decide), al_up_p (by decide)]
    exact g4
  have n20 : ∀ {I1 : II}, kL I I1 → I1 74 20 = nI i := fun g => (g.2 20 (by decide) (by decide) (by decide) (by decide) (by decide)).trans h20
  have n21 : ∀ {I1 : II}, kL I I1 → I1 74 21 = nI hm := fun g => (g.2 21 (by decide) (by decide) (by decide) (by decide) (by decide)).trans h21
  refine b0 _ _ _ _ _ _ (ma_whichS hS ?_)
  refine ma_whichK hS ?_
  rw [whS, whK]
  by_cases hA : kdk n y e = 1 ∧ plw n y e < 4
  · rw [if_pos hA]
    have hr := pit_S (nh := nh + hm) hA.1 hA.2
    refine br_f (nI_pos (by omega)) (ma_must (b := true) hS (fun I1 g1 g2 => ?_))
    have g2 : MS n y (enk n y e) false I1 := g2
    refine ma_squares g2 (fun I2 x q1 q2 q3 => ma_item hi (n20 (g1.tr q1)) ?_)
    obtain ⟨q4, q5⟩ := q3 rfl
    cases hs : (sqs n y (enk n y e)).1 with
    | true =>
      rw [hs] at q4 q5
      refine endR _ I2 x _ (plw n y e, 0, 0, (sqs n y (enk n y e)).2.2) (g1.tr q1).i q4 (by rw [hr, hs]) (q5 rfl) ?_
      rw [if_neg (show ¬ plw n y e = 10 by omega)]
      exact n21 (g1.tr q1)
    | false =>
      rw [hs] at q4
      exact endW _ I2 _ _ _ x _ (g1.tr q1).i q4 (by rw [hr]; exact hs) (by rw [hr])
  · rw [if_neg hA]
    refine br_t m1_lt (b41 _ _ _ _ _ _ ?_)
    by_cases hB : kdk n y e = 1 ∧ knd n y e < 6
    · rw [if_pos hB]
      have hr := pit_K (nh := nh + hm) hB.1 (fun c => hA ⟨hB.1, c⟩) hB.2
      -- once it is wrong
      have bad : ∀ (o3 : Int32) (I2 : II) (e' : Nat), kI i I J I2 J → I2 74 20 = nI i → MS n y e' true I2 → (pit1 n y (nh + hm) e).1 = false → (pit1 n y (nh + hm) e).2.1 = e' → F 111 [some (.ref 74), some (.int (-1)), some (.int (nI (knd n y e))), some (.int o3), none] [] 90 al_R0 I2 J := fun o3 I2 e' g1 g3 g2 r1 r2 => b111 _ _ _ _ _ _ (b112 _ _ _ _ _ _ (br_t nI_0 (b124 _ _ _ _ _ _ (br_t nI_0 (b141 _ _ _ _ _ _ (b142 _ _ _ _ _ _ (ma_item hi g3 (endW _ I2 _ _ _ _ e' g1 g2 r1 r2))))))))
      have h69 : ∀ b : Bool, decide (nh + hm < 6) = b → F 69 [some (.ref 74), some (.int (-1)), some (.int (nI (knd n y e))), none, none] [.int (nI b.toNat), .ref 74] 90 al_R0 I J := fun b hb => by
        refine b69 _ _ _ _ _ _ (ma_must hS (fun I1 g1 g2 => ?_))
        have u21 := n21 g1
        have k2 : kI i I J (al_up I1 74 21 (I1 74 21 + nI 1)) J := kI.tr g1.i kI.u1
        have e20 : al_up I1 74 21 (I1 74 21 + nI 1) 74 20 = nI i := by rw [al_up_j (by decide)]; exact n20 g1
        have e21 : al_up I1 74 21 (I1 74 21 + nI 1) 74 21 = nI (hm + 1) := by rw [al_up_s, u21]; exact (nI_s hm).symm
        have g3 : ∀ {e' w'}, MS n y e' w' I1 → MS n y e' w' (al_up I1 74 21 (I1 74 21 + nI 1)) := fun h => h.i (al_up_row (by decide)) (fun j h1 h2 => al_up_j (by omega))
        cases b with
        | false =>
          have g2 : MS n y e true I1 := g2
          have hb := of_decide_eq_false hb
          have hp : pit1 n y (nh + hm) e = (false, e, it0) := by rw [hr]; unfold phs; rw [if_pos (by omega)]
          refine ma_number (lo := 1) (hx := 100) (g3 g2) (by omega) (by rw [nT (by omega)]; omega) (fun I2 q1 q2 => ?_)
          have q2 : MS n y e true I2 := q2
          exact br_u (by rw [q2.2.2]; exact n10) (bad _ I2 e (k2.tr q1.i) ((q1.2 20 (by decide) (by decide) (by decide) (by decide) (by decide)).trans e20) q2 (by rw [hp]) (by rw [hp]))
        | true =>
          have g2 : MS n y (enk n y e) false I1 := g2
          have hb := of_decide_eq_true hb
          refine ma_number (lo := 1) (hx := 100) (g3 g2) (by omega) (by rw [nT (by omega)]; omega) (fun I2 q1 q2 => ?_)
          have k3 := k2.tr (q1.i (i := i) (J := J))
          have f20 : I2 74 20 = nI i := (q1.2 20 (by decide) (by decide) (by decide) (by decide) (by decide)).trans e20
          have f21 : I2 74 21 = nI (hm + 1) := (q1.2 21 (by decide) (by decide) (by decide) (by decide) (by decide)).trans e21
          unfold phs at hr
          rw [if_neg (by omega)] at hr
          cases hp : pnum n y (enk n y e) 1 100 with
          | false =>
            rw [hp] at q2
            have q2 : MS n y (enk n y e) true I2 := q2
            rw [hp, if_neg (by decide)] at hr
            exact br_u (by rw [q2.2.2]; exact n10) (bad _ I2 _ k3 f20 q2 (by rw [hr]) (by rw [hr]))
          | true =>
            rw [hp] at q2
            have q2 : MS n y (enk n y (enk n y e)) false I2 := q2
            rw [hp, if_pos rfl] at hr
            have hpn := pnum_iff.mp hp
            have ev : vvk n y (enk n y e) = vlk n y (enk n y e) := if_pos hpn.1
            rw [ev]
            refine br_v (by rw [q2.2.2]; exact nI_0) (ma_isWord (w := 11) q2 (by decide) (And.intro (fun c => ?_) (fun c => ?_)))
            · have c := bz_f c
              rw [if_neg (fun h => by unfold iwd at c; rw [decide_eq_true h.1, h.2] at c; exact absurd c (by decide))] at hr
              exact b111 _ _ _ _ _ _ (b112 _ _ _ _ _ _ (br_t nI_0 (b124 _ _ _ _ _ _ (br_t nI_0 (b141 _ _ _ _ _ _ (b142 _ _ _ _ _ _ (ma_item hi f20 (endR _ I2 (lN 0) _ (10, knd n y e, vlk n y (enk n y e), noS) k3 q2 hr (fun q _ => by rw [lN_0, gb_0]; rfl) f21))))))))
            · have c := bz_t c
              have c2 := c
              unfold iwd at c2
              rw [Bool.and_eq_true, decide_eq_true_eq] at c2
              rw [if_pos c2] at hr
              refine b112 _ _ _ _ _ _ (br_f n10 (ma_must (b := true) q2 (fun I3 s1 s2 => b124 _ _ _ _ _ _ (br_f n10 ?_))))
              have s2 : MS n y (enk n y (enk n y (enk n y e))) false I3 := s2
              refine ma_squares s2 (fun I4 x t1 t2 t3 => b142 _ _ _ _ _ _ (ma_item hi (((s1.tr t1).2 20 (by decide) (by decide) (by decide) (by decide) (by decide)).trans f20) ?_))
              obtain ⟨t4, t5⟩ := t3 rfl
              have k5 := k3.tr ((s1.tr t1).i (i := i) (J := J))
              cases hs : (sqs n y (enk n y (enk n y (enk n y e)))).1 with
              | true =>
                rw [hs] at t4 t5
                exact endR _ I4 x _ (10, knd n y e, vlk n y (enk n y e), (sqs n y (enk n y (enk n y (enk n y e)))).2.2) k5 t4 (by rw [hr, hs]) (t5 rfl) (((s1.tr t1).2 21 (by decide) (by decide) (by decide) (by decide) (by decide)).trans f21)
              | false =>
                rw [hs] at t4
                exact endW _ I4 _ _ _ x _ k5 t4 (by rw [hr]; exact hs) (by rw [hr])
      refine br_f (nI_pos (by omega)) (Exists.intro 142 (And.intro (by decide) (And.intro rfl (And.intro (fun c => b68 _ _ _ _ _ _ (h69 false (decide_eq_false ?_))) (fun c => h69 true (decide_eq_true ?_))))))
      · rw [h142, h21, nI_add, nI_leI (by omega) (by omega)] at c
        omega
      · rw [h142, h21, nI_add, nI_leI (by omega) (by omega)] at c
        omega
    · rw [if_neg hB]
      refine br_t m1_lt (b148 _ _ _ _ _ _ (ma_isWord (w := 10) hS (by decide) (ma_must hS (fun I1 g1 g2 => Exists.intro 142 (And.intro (by decide) (And.intro rfl ?_))))))
      have hhi : (I1 75 142 + I1 74 21 - nI 1).toInt = ((nh + hm : Nat) : Int) - 1 := by
        rw [n21 g1, g1.1 75 (by decide), h142, nI_add, i_sub (by omega) (by omega)]
        rfl
      have e10 : pit1 n y (nh + hm) e = if iwd n y e 10 = true then prc n y (nh + hm) e else (false, e, it0) := by
        cases h : iwd n y e 10 with
        | true => rw [if_pos rfl]; exact pit_R h
        | false => rw [if_neg (by decide)]; exact pit_0 h hA hB
      cases h : iwd n y e 10 with
      | false =>
        rw [h] at g2 e10
        have g2 : MS n y e true I1 := g2
        rw [if_neg (by decide)] at e10
        refine ma_number (lo := 0) (hx := nh + hm) g2 (by omega) hhi (fun I2 q1 q2 => ?_)
        have q2 : MS n y e true I2 := q2
        refine ma_number (lo := 0) (hx := 10000) q2 (by omega) (by rw [nT (by omega)]; omega) (fun I3 s1 s2 => ?_)
        have s2 : MS n y e true I3 := s2
        exact ma_item hi (n20 ((g1.tr q1).tr s1)) (endW _ I3 _ _ _ _ e ((g1.tr q1).tr s1).i s2 (by rw [e10]) (by rw [e10]))
      | true =>
        rw [h] at g2 e10
        have g2 : MS n y (enk n y e) false I1 := g2
        rw [if_pos rfl] at e10
        unfold prc at e10
        refine ma_number (lo := 0) (hx := nh + hm) g2 (by omega) hhi (fun I2 q1 q2 => ?_)
        cases hp : pnum n y (enk n y e) 0 (nh + hm) with
        | false =>
          rw [hp] at q2 e10
          have q2 : MS n y (enk n y e) true I2 := q2
          rw [if_neg (by decide)] at e10
          refine ma_number (lo := 0) (hx := 10000) q2 (by omega) (by rw [nT (by omega)]; omega) (fun I3 s1 s2 => ?_)
          have s2 : MS n y (enk n y e) true I3 := s2
          exact ma_item hi (n20 ((g1.tr q1).tr s1)) (endW _ I3 _ _ _ _ _ ((g1.tr q1).tr s1).i s2 (by rw [e10]) (by rw [e10]))
        | true =>
          rw [hp] at q2 e10
          have q2 : MS n y (enk n y (enk n y e)) false I2 := q2
          rw [if_pos rfl] at e10
          have hpn := pnum_iff.mp hp
          have ev : vvk n y (enk n y e) = vlk n y (enk n y e) := if_pos hpn.1
          rw [ev]
          refine ma_number (lo := 0) (hx := 10000) q2 (by omega) (by rw [nT (by omega)]; omega) (fun I3 s1 s2 => ?_)
          cases hp2 : pnum n y (enk n y (enk n y e)) 0 10000 with
          | false =>
            rw [hp2] at s2 e10
            have s2 : MS n y (enk n y (enk n y e)) true I3 := s2
            rw [if_neg (by decide)] at e10
            exact ma_item hi (n20 ((g1.tr q1).tr s1)) (endW _ I3 _ _ _ _ _ ((g1.tr q1).tr s1).i s2 (by rw [e10]) (by rw [e10]))
          | true =>
            rw [hp2] at s2 e10
            have s2 : MS n y (enk n y (enk n y (enk n y e))) false I3 := s2
            rw [if_pos rfl] at e10
            have hpn2 := pnum_iff.mp hp2
            have ev2 : vvk n y (enk n y (enk n y e)) = vlk n y (enk n y (enk n y e)) := if_pos hpn2.1
            rw [ev2]
            exact ma_item hi (n20 ((g1.tr q1).tr s1)) (endR _ I3 (lN 0) _ (11, vlk n y (enk n y e), vlk n y (enk n y (enk n y e)), noS) ((g1.tr q1).tr s1).i s2 e10 (fun q _ => by rw [lN_0, gb_0]; rfl) (n21 ((g1.tr q1).tr s1)))
