/-! THE REFERENCE: a shed -/
theorem own_shed {c : Nat → Nat} {q h r k : Nat} (hq : c q = 0) : own (ups c q 2) h r k = own c h r k := by
  unfold own
  congr 1
  by_cases e : 8 * (r - 1) + (k - 1) = q
  · rw [e, ups_s, hq, decide_eq_false (by omega), decide_eq_false (by omega)]
  · rw [ups_n e]
theorem shp_shed {c : Nat → Nat} {q h p : Nat} (hq : c q = 0) : shp (ups c q 2) h p = shp c h p := by
  unfold shp
  simp only [own_shed hq]
theorem clr_shed {c : Nat → Nat} {q s p : Nat} (hq : c q = 0) (hq64 : q < 64) : clr (ups c q 2) s p = (clr c s p && !lin s p q) := by
  have e : anyb (fun x => lin s p x && wal (ups c q 2 x)) 64 = (anyb (fun x => lin s p x && wal (c x)) 64 || lin s p q) := by
    rw [Bool.eq_iff_iff, Bool.or_eq_true, anyb_iff, anyb_iff]
    constructor
    · rintro ⟨j, hj, h⟩
      rw [Bool.and_eq_true] at h
      by_cases e : j = q
      · subst e; exact Or.inr h.1
      · rw [ups_n e] at h
        exact Or.inl ⟨j, hj, by rw [h.1, h.2]; rfl⟩
    · rintro (⟨j, hj, h⟩ | h)
      · rw [Bool.and_eq_true] at h
        have e : ¬ j = q := fun e => by
          rw [e, hq] at h
          exact absurd h.2 (by decide)
        exact ⟨j, hj, by rw [ups_n e, h.1, h.2]; rfl⟩
      · exact ⟨q, hq64, by rw [ups_s, h]; rfl⟩
  unfold clr
  rw [e, Bool.not_or]
theorem sen_shed {c : Nat → Nat} {q s p : Nat} (hq : c q = 0) (hq64 : q < 64) : sen (ups c q 2) p s = (sen c p s && !lin s p q) := by
  unfold sen
  rw [clr_shed hq hq64]
  by_cases e : s = q
  · subst e
    rw [ups_s, hq, decide_eq_false (by omega), decide_eq_false (by omega)]
    rfl
  · rw [ups_n e, Bool.and_assoc]
theorem cnt_part (A B : Nat → Bool) : ∀ n, cnt (fun s => A s && B s) n + cnt (fun s => A s && !B s) n = cnt A n
  | 0 => rfl
  | n + 1 => by
    have ih := cnt_part A B n
    cases a : A n with
    | false => rw [cnt_no (P := fun s => A s && B s) (by rw [a]; rfl), cnt_no (P := fun s => A s && !B s) (by rw [a]; rfl), cnt_no a]; exact ih
    | true =>
      cases b : B n with
      | false => rw [cnt_no (P := fun s => A s && B s) (by rw [a, b]; rfl), cnt_yes (P := fun s => A s && !B s) (by rw [a, b]; rfl), cnt_yes a]; omega
      | true => rw [cnt_yes (P := fun s => A s && B s) (by rw [a, b]; rfl), cnt_no (P := fun s => A s && !B s) (by rw [a, b]; rfl), cnt_yes a]; omega
theorem nsn_shed {c : Nat → Nat} {q p : Nat} (hq : c q = 0) (hq64 : q < 64) : nsn (ups c q 2) p = nsn c p - lst c p q := by
  have h1 := cnt_part (sen c p) (fun s => lin s p q) 64
  have h2 : nsn (ups c q 2) p = cnt (fun s => sen c p s && !lin s p q) 64 := cnt_cong (fun s _ => sen_shed hq hq64)
  rw [h2]
  unfold nsn lst
  omega
theorem cp_shed {T : TW} {q h p : Nat} (hq : T.1 q = 0) (hq64 : q < 64) : cp (ups T.1 q 2, T.2) h p + svp T h q p = cp T h p := by
  have h1 := cof_le_cp T h q p
  have e : cp (ups T.1 q 2, T.2) h p = cof T (nsn T.1 p - lst T.1 p q) h p := by
    unfold cp
    show cof (ups T.1 q 2, T.2) (nsn (ups T.1 q 2) p) h p = _
    rw [nsn_shed hq hq64]
    generalize nsn T.1 p - lst T.1 p q = ns
    have ec : anyb (fun g => cor (ups T.1 q 2) g p) h = anyb (fun g => cor T.1 g p) h := by
      congr 1
      funext g
      unfold cor
      rw [shp_shed hq]
    unfold cof
    show (if ns = 0 ∨ rnd T h p = true ∨ shp (ups T.1 q 2) h p = 0 then 0 else wgh (kdN T h) (decide (shp (ups T.1 q 2) h p = 1)) (anyb (fun g => cor (ups T.1 q 2) g p) h) ns) = _
    rw [shp_shed hq, ec]
  rw [e]
  unfold svp
  omega
theorem sm_add {f g k : Nat → Nat} : ∀ {n : Nat}, (∀ p, p < n → f p + g p = k p) → sm f n + sm g n = sm k n
  | 0, _ => rfl
  | n + 1, h => by
    have ih := sm_add (f := f) (g := g) (k := k) (n := n) (fun p hp => h p (by omega))
    have h1 := h n (by omega)
    rw [sm, sm, sm]
    omega
theorem cts_shed {T : TW} {q h : Nat} (hq : T.1 q = 0) (hq64 : q < 64) : cts (ups T.1 q 2, T.2) h + sav T h q = cts T h := sm_add (fun p _ => cp_shed hq hq64)
theorem svg_le {T : TW} {h q : Nat} (hq64 : q < 64) : svg T h q ≤ cts T h := by
  unfold svg
  split
  · rename_i e
    have := cts_shed (h := h) e hq64
    omega
  · exact Nat.zero_le _
theorem mx_leb {f : Nat → Nat} {k : Nat} : ∀ {n : Nat}, (∀ p, p < n → f p ≤ k) → mx f n ≤ k
  | 0, _ => Nat.zero_le _
  | n + 1, h => by
    have h1 := mx_leb (f := f) (k := k) (n := n) (fun p hp => h p (by omega))
    have h2 := h n (by omega)
    rw [mx]
    split <;> omega
theorem ups_back {c : Nat → Nat} {q x : Nat} : ups (ups c q x) q (c q) = c := by
  funext j
  by_cases e : j = q
  · subst e; rw [ups_s]
  · rw [ups_n e, ups_n e]
set_option maxHeartbeats 1000000 in
theorem M_shed {h : Nat} {S : SG} {I : II} {J : JJ} {Q : QT} (hM : MI S I J) (hV : VS S) (hh : h < S.1.2.1) (k1 : ∀ q, ar (svg S.1 h) 64 = nI q → q < 64 → PM I J Q S (.int (nI q))) (k3 : ar (svg S.1 h) 64 = -1 → PM I J Q (fnd 3 S) (.int (-1000000004))) : CT m_X12_shed 0 [.ref 74, .int (nI h)] 90 al_R0 I J Q := by
  have h6 := hV.1.1
  obtain ⟨r1, r2, r3⟩ := hV.1.rt hh
  refine r_X12_shed (by decide) (fun F wk b0 b15 b26 b80 b86 b99 b100 => b0 _ _ _ _ _ _ (mh_t h6 hM.1.2.2.2 hh (br_u n10 (b15 _ _ _ _ _ _ (ma_taxOf hM.1 hV.1 hM.2.1 hh (fun I1 J1 u1 u2 => ?_))))))
  have hct := cts_le S.1 h
  have loop : ∀ (d i : Nat) (I' : II) (J' : JJ), i + d = 64 → kN I J I' J' → MTn 75 S.1 I' → mfd S.1.1 I' J' → F 26 [some (.ref 74), some (.int (nI h)), some (.int (nI (rtN S.1 h * (cts S.1 h - mx (svg S.1 h) i)))), some (.int (ar (svg S.1 h) i)), some (.int (nI i)), none, none] [] 90 al_R0 I' J' := by
    intro d
    induction d with
    | zero =>
      intro i I' J' hi g1 g2 g3
      obtain rfl : i = 64 := by omega
      have hM' : MI S I' J' := g1.M hM g2 g3
      refine b26 _ _ _ _ _ _ (br_t (nI_le (by omega) (by omega)) (b86 _ _ _ _ _ _ ?_))
      rcases ar_or (svg S.1 h) 64 with q | ⟨k, q1, q2, q3⟩
      · rw [q]
        exact br_f (by decide +kernel) (ma_finding hM' (k := 3) (by decide) (by decide +kernel) (fun I2 J2 w1 w2 => b100 _ _ _ _ _ _ (k3 q I2 J2 w1 (g1.k.tr w2))))
      · rw [q2]
        exact br_t (nI_pos' (by omega)) (b99 _ _ _ _ _ _ (b100 _ _ _ _ _ _ (k1 k q2 q1 I' J' hM' g1.k)))
    | succ d ih =>
      intro i I' J' hi g1 g2 g3
      have hc16 := hV.1.cdo i (by omega)
      have hmx : mx (svg S.1 h) i ≤ cts S.1 h := mx_leb (fun p hp => svg_le (by omega))
      have hgi : svg S.1 h i ≤ cts S.1 h := svg_le (by omega)
      refine b26 _ _ _ _ _ _ (br_f (nI_ge (by omega) (by omega)) (Exists.intro i (And.intro (by omega) (And.intro rfl (And.intro (fun c => ?_) (fun c => ?_))))))
      · rw [g2.1 i (by omega), ← nI_0, nI_eq (by omega) (by omega)] at c
        have e0 : svg S.1 h i = 0 := if_neg c
        have h9 := ih (i + 1) I' J' (by omega) g1 g2 g3
        rw [mx, ar, e0, if_neg (by omega), if_neg (by omega), nI_s i] at h9
        exact b80 _ _ _ _ _ _ h9
      · rw [g2.1 i (by omega), ← nI_0, nI_eq (by omega) (by omega)] at c
        have e0 : svg S.1 h i = sav S.1 h i := if_pos c
        have hcs := cts_shed (T := S.1) (h := h) c (show i < 64 by omega)
        refine ma_stands g2 g3 hV.1.cdo (by omega) (by omega) (fun I2 v1 v2 v3 => ?_)
        refine ma_taxOf v2 (VT.lay hV.1 (Or.inl (by omega))) v3 hh (fun I3 J3 v4 v5 => ?_)
        refine ma_stands (T := (ups S.1.1 i 2, S.1.2)) (v4.T (by decide) v2) v5 (VT.lay hV.1 (Or.inl (by omega))).cdo (by omega) (by omega) (fun I4 v6 v7 v8 => ?_)
        have eb : ups (ups S.1.1 i 2) i 0 = S.1.1 := by
          have := ups_back (c := S.1.1) (q := i) (x := 2)
          rw [c] at this
          exact this
        have v7 : MTn 75 (ups (ups S.1.1 i 2) i 0, S.1.2) I4 := v7
        have v8 : mfd (ups (ups S.1.1 i 2) i 0) I4 J3 := v8
        rw [eb] at v7 v8
        have g4 : kN I J I4 J3 := ((g1.tr v1).tr v4.n).tr v6
        have h9 := ih (i + 1) I4 J3 (by omega) g4 v7 v8
        have er : rtN (ups S.1.1 i 2, S.1.2) h = rtN S.1 h := rfl
        have b1 : rtN S.1 h * cts (ups S.1.1 i 2, S.1.2) h ≤ 99 * 243 := Nat.mul_le_mul r2 (by omega)
        have b2 : rtN S.1 h * (cts S.1 h - mx (svg S.1 h) i) ≤ 99 * 243 := Nat.mul_le_mul r2 (by omega)
        dsimp only [al_pu, o_iload, o_lload, o_aload, o_istore, o_astore, o_lstore, o_iinc, o_ic, o_lc, o_sc, o_iadd, o_isub, o_imul, o_iand, o_ior, o_ixor, o_ishl, o_ishr, o_ladd, o_lsub, o_land, o_lor, o_lxor, o_lshl, o_lshr, o_i2l, o_l2i, o_lcmp, o_dup, o_dup2, o_pop, o_getI, o_getJ, o_getR, o_putI, o_putZ, o_putJ, o_iald, o_zald, o_lald, o_aald, o_iast, o_zast, o_last, o_alen, o_cpyI, o_cpyJ, o_iret, o_zret, o_lret, o_aret, o_vret, o_idiv, o_irem, o_ineg, o_ifeq, o_ifne, o_iflt, o_ifge, o_ifgt, o_ifle, o_iceq, o_icne, o_iclt, o_icge, o_icgt, o_icle, al_gL, al_sL, al_sJ, al_gd]
        rw [er, nI_leI (by omega) (by omega)]
        refine And.intro (fun c2 => b80 _ _ _ _ _ _ ?_) (fun c2 => b80 _ _ _ _ _ _ ?_)
        · have hn : ¬ mx (svg S.1 h) i < svg S.1 h i := fun hlt => by
            have : rtN S.1 h * cts (ups S.1.1 i 2, S.1.2) h < rtN S.1 h * (cts S.1 h - mx (svg S.1 h) i) := Nat.mul_lt_mul_of_pos_left (by omega) (by omega)
            omega
          rw [mx, ar, if_neg hn, if_neg hn, nI_s i] at h9
          exact wk _ _ _ _ _ _ _ _ (by simp [al_le]) h9
        · have hy : mx (svg S.1 h) i < svg S.1 h i := by
            rcases Nat.lt_or_ge (mx (svg S.1 h) i) (svg S.1 h i) with g | g
            · exact g
            · have : rtN S.1 h * (cts S.1 h - mx (svg S.1 h) i) ≤ rtN S.1 h * cts (ups S.1.1 i 2, S.1.2) h := Nat.mul_le_mul_left _ (by omega)
              exact absurd this c2
          rw [mx, ar, if_pos hy, if_pos hy, nI_s i, e0, show cts S.1 h - sav S.1 h i = cts (ups S.1.1 i 2, S.1.2) h by omega] at h9
          exact wk _ _ _ _ _ _ _ _ (by simp [al_le]) h9
  exact loop 64 0 I1 J1 rfl u1.n (u1.T (by decide) hM.1) u2
theorem M_shed2 {a : Int32} {S : SG} {I : II} {J : JJ} {Q : QT} (hM : MI S I J) (hV : VS S) (hg : ing S.1.2.1 a) (kq : PM I J Q (fnd 0 S) (.int (-1000000001))) : CT m_X12_shed 0 [.ref 74, .int a] 90 al_R0 I J Q :=
  r_X12_shed (by decide) (fun F wk b0 b15 b26 b80 b86 b99 b100 => b0 _ _ _ _ _ _ (mh_f hV.1.1 hM.1.2.2.2 hg (br_v nI_0 (ma_finding hM (k := 0) (by decide) (by decide +kernel) kq))))
