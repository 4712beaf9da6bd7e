/-! PLOTS: the calls -/
theorem ca_widened {s : Int32} {n : Nat} {R : RR} {I : II} {J : JJ} {Q : QT} (hn : n ≤ 90) (kq : Q (some (.int (wdI s))) n R I J) : CT m_X11_widened 0 [.int s] n R I J Q := by
  refine r_X11_widened hn (fun F wk b0 b4 b32 => ?_)
  have h3 : F 4 [some (.int s), some (.int (wdI s)), some (.int (nI 3)), none] [] n R I J := b4 _ _ _ _ _ _ (br_t (nI_le (by omega) (by omega)) (b32 _ _ _ _ _ _ kq))
  rw [show nI 3 = nI 2 + nI 1 from nI_s 2] at h3
  have h2 : F 4 [some (.int s), some (.int (wst s 1 (wst s 0 (nI 0)))), some (.int (nI 2)), none] [] n R I J := b4 _ _ _ _ _ _ (br_f (nI_ge (by omega) (by omega)) (wk _ _ _ _ _ _ _ _ (by exact And.intro rfl (And.intro rfl (And.intro rfl trivial))) h3))
  rw [show nI 2 = nI 1 + nI 1 from nI_s 1] at h2
  have h1 : F 4 [some (.int s), some (.int (wst s 0 (nI 0))), some (.int (nI 1)), none] [] n R I J := b4 _ _ _ _ _ _ (br_f (nI_ge (by omega) (by omega)) (wk _ _ _ _ _ _ _ _ (by exact And.intro rfl (And.intro rfl (And.intro rfl trivial))) h2))
  rw [show nI 1 = nI 0 + nI 1 from nI_s 0] at h1
  have h0 : F 4 [some (.int s), some (.int (nI 0)), some (.int (nI 0)), none] [] n R I J := b4 _ _ _ _ _ _ (br_f (nI_ge (by omega) (by omega)) (wk _ _ _ _ _ _ _ _ (by exact And.intro rfl (And.intro rfl (And.intro rfl trivial))) h1))
  exact b0 _ _ _ _ _ _ h0
theorem ca_cornersOfShape {w : Int32} {n : Nat} {R : RR} {I : II} {J : JJ} {Q : QT} (hn : n ≤ 90) (kq : Q (some (.int (nI (pcn 4 (uI (coI w)))))) n R I J) : CT m_X11_cornersOfShape 0 [.int w] n R I J Q := by
  refine r_X11_cornersOfShape hn (fun F wk b0 => ?_)
  exact b0 _ _ _ _ _ _ (cj_bitsI hn kq)
theorem ca_hangsTogether {w : Int32} {n : Nat} {R : RR} {I : II} {J : JJ} {Q : QT} (hn : n ≤ 90) (kq : Q (some (.int (nI (decide (hgi w 12 = w)).toNat))) n R I J) : CT m_X11_hangsTogether 0 [.int w] n R I J Q := by
  refine r_X11_hangsTogether hn (fun F wk b0 b7 b41 b50 b51 => ?_)
  have loop : ∀ d i : Nat, i + d = 12 → F 7 [some (.int w), some (.int (hgi w i)), some (.int (nI i)), none] [] n R I J := by
    intro d
    induction d with
    | zero =>
      intro i hi
      obtain rfl : i = 12 := by omega
      refine b7 _ _ _ _ _ _ (br_t (nI_le (by omega) (by omega)) (b41 _ _ _ _ _ _ (And.intro (fun c => ?_) (fun c => ?_))))
      · rw [decide_eq_false c] at kq
        exact b50 _ _ _ _ _ _ (b51 _ _ _ _ _ _ (And.intro (Or.inl nI_0) kq))
      · rw [decide_eq_true c] at kq
        exact b51 _ _ _ _ _ _ (And.intro (Or.inr nI_1') kq)
    | succ d ih =>
      intro i hi
      have h9 := ih (i + 1) (by omega)
      rw [nI_s i] at h9
      exact b7 _ _ _ _ _ _ (br_f (nI_ge (by omega) (by omega)) (wk _ _ _ _ _ _ _ _ (by exact And.intro rfl (And.intro rfl (And.intro rfl trivial))) h9))
  exact b0 _ _ _ _ _ _ (loop 12 0 rfl)
theorem uI_nI {s : Nat} (h : s < 2 ^ 32) : uI (nI s) = s := by
  show (BitVec.ofNat 32 s).toNat = s
  rw [BitVec.toNat_ofNat]
  exact Nat.mod_eq_of_lt h
theorem cnt_none {P : Nat → Bool} {n : Nat} (h : ∀ j, j < n → P j = false) : cnt P n = 0 := by
  have e := cnt_cong (P := P) (P' := fun _ => false) (n := n) h
  rw [e]
  clear e h
  induction n with
  | zero => rfl
  | succ n ih => rw [cnt, ih]; rfl
theorem pcn_12 {s : Nat} (h : s < 4096) : pcn 4 s = pbit s := by
  unfold pcn pbit
  rw [show 8 * 4 = 12 + 20 from rfl, cnt_add, cnt_none (P := fun j => s.testBit (12 + j)) (n := 20) (fun j hj => Nat.testBit_lt_two_pow (Nat.lt_of_lt_of_le h (Nat.pow_le_pow_right (n := 2) (by omega) (show 12 ≤ 12 + j by omega)))), Nat.add_zero]
theorem pcor_le (s : Nat) : pcor s ≤ 20 := cnt_le _ _
theorem pbit_le (s : Nat) : pbit s ≤ 12 := cnt_le _ _
theorem plF_le (n : Nat) : ∀ s, (plF n s).1 ≤ 81
  | 0 => Nat.le_refl 81
  | s + 1 => by
    have h1 := plF_le n s
    have h2 := pcor_le s
    unfold plF
    split
    · show pcor s ≤ 81; omega
    · exact h1
theorem plF_2 (n : Nat) : ∀ s, (plF n s).2 ≤ s
  | 0 => Nat.le_refl 0
  | s + 1 => by
    have h1 := plF_2 n s
    unfold plF
    split
    · show s ≤ s + 1; omega
    · omega
theorem plF_1 {n : Nat} (hn : 1 ≤ n) : plF n 1 = (81, 0) := by
  unfold plF
  rw [if_neg (by rw [show pbit 0 = 0 by decide]; omega)]
  rfl
theorem ca_findPlot {m : Nat} {I : II} {J : JJ} {Q : QT} (h1 : 1 ≤ m) (h2 : m ≤ 12) (kq : Q none 90 al_R0 (al_up (al_up I 72 m (nI (plC m))) 73 m (nI (plS m))) J) : CT m_X11_findPlot 0 [.ref 0, .int (nI m)] 90 al_R0 I J Q := by
  refine r_X11_findPlot (by decide) (fun F wk b0 b8 b59 b65 => ?_)
  have loop : ∀ d i : Nat, i + d = 4096 → 1 ≤ i → F 8 [some (.ref 0), some (.int (nI m)), some (.int (nI (plF m i).1)), some (.int (nI (plF m i).2)), some (.int (nI i)), none, none] [] 90 al_R0 I J := by
    intro d
    induction d with
    | zero =>
      intro i hi _
      obtain rfl : i = 4096 := by omega
      exact b8 _ _ _ _ _ _ (br_t (nI_le (by omega) (by omega)) (b65 _ _ _ _ _ _ (Exists.intro m (And.intro (by omega) (And.intro rfl (Exists.intro m (And.intro (by omega) (And.intro rfl kq))))))))
    | succ d ih =>
      intro i hi h1i
      have h9 := ih (i + 1) (by omega) (by omega)
      rw [nI_s i] at h9
      have hb := pbit_le i
      have hc := pcor_le i
      have hl := plF_le m i
      obtain ⟨q1, q2⟩ := pl_at (s := i) (by omega)
      have no : ¬ (pbit i = m ∧ phg i = true ∧ pcor i < (plF m i).1) → F 59 [some (.ref 0), some (.int (nI m)), some (.int (nI (plF m i).1)), some (.int (nI (plF m i).2)), some (.int (nI i)), none, none] [] 90 al_R0 I J := fun hno => by
        rw [plF, if_neg hno] at h9
        exact b59 _ _ _ _ _ _ h9
      refine b8 _ _ _ _ _ _ (br_f (nI_ge (by omega) (by omega)) (cj_bitsI (by decide) ?_))
      rw [uI_nI (by omega), pcn_12 (by omega)]
      refine And.intro (fun c => ?_) (fun c => ca_widened (by decide) (ca_cornersOfShape (by decide) ?_))
      · rw [nI_eq (by omega) (by omega)] at c
        exact no (fun q => c q.1)
      · rw [nI_eq (by omega) (by omega)] at c
        rw [q1]
        refine And.intro (fun c2 => ?_) (fun c2 => ca_hangsTogether (by decide) ?_)
        · rw [nI_leI (by omega) (by omega)] at c2
          exact wk _ _ _ _ _ _ _ _ (by simp [al_le]) (no (fun q => by omega))
        · rw [nI_leI (by omega) (by omega)] at c2
          rw [q2 (by omega)]
          refine And.intro (fun c3 => ?_) (fun c3 => ?_)
          · have e := bz_f c3
            exact wk _ _ _ _ _ _ _ _ (by simp [al_le]) (no (fun q => by rw [e] at q; exact absurd q.2.1 (by decide)))
          · rw [plF, if_pos ⟨c, bz_t c3, by omega⟩] at h9
            exact b59 _ _ _ _ _ _ (wk _ _ _ _ _ _ _ _ (by simp [al_le]) h9)
  have h9 := loop 4095 1 rfl (Nat.le_refl 1)
  rw [plF_1 h1] at h9
  exact b0 _ _ _ _ _ _ h9
theorem X_plot {a b : Int32} {S : SG} {I : II} {J : JJ} {Q : QT} (hC : CI S I J) (k1 : ∀ m w, 1 ≤ m → m ≤ 12 → w < 2 → a = nI m → b = nI w → PX I J Q S (.int (if w = 0 then nI (plC m) else nI (plS m)))) (k2 : ((∀ m, 1 ≤ m → m ≤ 12 → ¬ a = nI m) ∨ ing 2 b) → PX I J Q (fnd 0 S) (.int (-1000000001))) : CT m_X11_plot 0 [.ref 0, .int a, .int b] 90 al_R0 I J Q := by
  refine r_X11_plot (by decide) (fun F wk b0 b20 b27 b41 b54 b60 => ?_)
  have h20 : ((∀ m, 1 ≤ m → m ≤ 12 → ¬ a = nI m) ∨ ing 2 b) → F 20 [some (.ref 0), some (.int a), some (.int b)] [] 90 al_R0 I J := fun q => b20 _ _ _ _ _ _ (cx_finding hC (k := 0) (by decide) (by decide +kernel) (k2 q))
  refine b0 _ _ _ _ _ _ (And.intro (fun c => h20 (Or.inl ?_)) (fun c => And.intro (fun c2 => h20 (Or.inl ?_)) (fun c2 => And.intro (fun c3 => h20 (Or.inr ?_)) (fun c3 => And.intro (fun c4 => b27 _ _ _ _ _ _ ?_) (fun c4 => h20 (Or.inr ?_))))))
  · rintro m m1 m2 rfl
    rw [nI_ltI (by omega) (by omega)] at c
    omega
  · rintro m m1 m2 rfl
    rw [nI_ltI (by omega) (by omega)] at c2
    omega
  · rintro q hq rfl
    exact nI_pos (by omega) c3
  · rw [ix_lt (by decide)] at c
    rw [in_lt (by decide)] at c2
    rw [i0_lt] at c3
    rw [ix_le (by decide)] at c4
    obtain ⟨m, m1, m2, e⟩ : ∃ m, 1 ≤ m ∧ m ≤ 12 ∧ a = nI m := ⟨a.toInt.toNat, by omega, by omega, i_of (by omega) (by omega)⟩
    obtain ⟨w, w1, e2⟩ : ∃ w, w < 2 ∧ b = nI w := ⟨b.toInt.toNat, by omega, i_of (by omega) (by omega)⟩
    have p1 := k1 m w m1 m2 w1 e e2
    subst e e2
    have h41 : ∀ I' : II, CI S I' J → f74 I J I' J → I' 72 m = nI (plC m) → I' 73 m = nI (plS m) → F 41 [some (.ref 0), some (.int (nI m)), some (.int (nI w))] [] 90 al_R0 I' J := fun I' g1 g2 g3 g4 => by
      refine b41 _ _ _ _ _ _ (And.intro (fun c5 => ?_) (fun c5 => ?_))
      · rw [← nI_0, nI_eq (by omega) (by omega)] at c5
        rw [if_neg c5, ← g4] at p1
        exact b54 _ _ _ _ _ _ (Exists.intro m (And.intro (by omega) (And.intro rfl (b60 _ _ _ _ _ _ (p1 I' J g1 g2)))))
      · rw [← nI_0, nI_eq (by omega) (by omega)] at c5
        rw [if_pos c5, ← g3] at p1
        exact Exists.intro m (And.intro (by omega) (And.intro rfl (b60 _ _ _ _ _ _ (p1 I' J g1 g2))))
    refine Exists.intro m (And.intro (by omega) (And.intro rfl (And.intro (fun c5 => ?_) (fun c5 => ?_))))
    · rcases hC.2.2.2.1 m m1 m2 with q | ⟨q1, q2⟩
      · exact absurd q c5
      · exact h41 I hC (f74.rf I J) q1 q2
    · refine ca_findPlot m1 m2 (h41 _ ?_ (fun p hp => ⟨by rw [al_up_row (by omega), al_up_row (by omega)], rfl⟩) (by rw [al_up_p (by decide), al_up_s]) al_up_s)
      have hk : ∀ p, p ≠ 72 → p ≠ 73 → al_up (al_up I 72 m (nI (plC m))) 73 m (nI (plS m)) p = I p ∧ J p = J p := fun p p1 p2 => ⟨by rw [al_up_row p2, al_up_row p1], rfl⟩
      obtain ⟨h1, h2, h3, h4, h5, h6, h7, h8⟩ := hC
      refine ⟨h1.keep (fun p q1 q2 => hk p (by omega) (by omega)), h2.keep (hk 39 (by omega) (by omega)).1, h3.keep (hk 38 (by omega) (by omega)).1 (hk 44 (by omega) (by omega)).1, fun n n1 n2 => ?_, h5.keep (hk 0 (by omega) (by omega)).1 (fun p q1 q2 => hk p (by omega) (by omega)), h6.keep (hk 45 (by omega) (by omega)).1 (hk 61 (by omega) (by omega)).1, h7.keep (fun p q1 q2 => hk p (by omega) (by omega)), h8.keep (hk 71 (by omega) (by omega)).1⟩
      rw [al_up_p (show (72 : Nat) ≠ 73 by decide)]
      by_cases en : n = m
      · subst en
        rw [al_up_s, al_up_s]
        exact Or.inr ⟨rfl, rfl⟩
      · rw [al_up_j en, al_up_j en, al_up_p (show (73 : Nat) ≠ 72 by decide)]
        exact h4 n n1 n2
  · rintro q hq rfl
    rw [nI_leI (by omega) (by omega)] at c4
    omega
