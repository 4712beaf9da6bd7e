/-! THE REFERENCE: what is seen; what counts -/
theorem nb_pred : ∀ n : Nat, 0 < n → ∃ k, n.testBit k = true ∧ ∀ j, (n - 1).testBit j = (if j < k then true else if j = k then false else n.testBit j) ∧ (j < k → n.testBit j = false) := by
  intro n
  induction n using Nat.strongRecOn with
  | ind n ih =>
    intro hn
    by_cases ho : n % 2 = 1
    · refine ⟨0, by simp [Nat.testBit_zero, ho], fun j => ?_⟩
      cases j with
      | zero => simp; omega
      | succ j =>
        refine ⟨?_, by omega⟩
        rw [if_neg (by omega), if_neg (by omega), Nat.testBit_succ, Nat.testBit_succ]
        congr 1; omega
    · obtain ⟨k, h1, h2⟩ := ih (n / 2) (by omega) (by omega)
      refine ⟨k + 1, by rw [Nat.testBit_succ]; exact h1, fun j => ?_⟩
      cases j with
      | zero => simp; omega
      | succ j =>
        rw [Nat.testBit_succ, Nat.testBit_succ, show (n - 1) / 2 = n / 2 - 1 by omega]
        have := h2 j
        constructor
        · rw [this.1]
          simp
        · intro h; exact this.2 (by omega)
theorem gb_low {x : Int64} (h : ¬ x = 0) : ∃ k, k < 64 ∧ gb x k = true ∧ ∀ j, gb (x &&& (x - lN 1)) j = (gb x j && decide (¬ j = k)) := by
  have hn : 0 < x.toBitVec.toNat := by
    rcases Nat.eq_zero_or_pos x.toBitVec.toNat with e | e
    · exact absurd (Int64.toBitVec_inj.mp (BitVec.eq_of_toNat_eq (by rw [e]; rfl))) h
    · exact e
  obtain ⟨k, h1, h2⟩ := nb_pred _ hn
  have hx := x.toBitVec.isLt
  have hs : (x - lN 1).toBitVec.toNat = x.toBitVec.toNat - 1 := by
    rw [Int64.toBitVec_sub, BitVec.toNat_sub]
    rw [show (lN 1).toBitVec.toNat = 1 by decide]
    omega
  refine ⟨k, ?_, h1, fun j => ?_⟩
  · rcases Nat.lt_or_ge k 64 with g | g
    · exact g
    · rw [Nat.testBit_lt_two_pow (Nat.lt_of_lt_of_le hx (Nat.pow_le_pow_right (by omega) g))] at h1
      exact absurd h1 (by decide)
  · unfold gb
    rw [Int64.toBitVec_and, BitVec.getLsbD_and]
    show (x.toBitVec.getLsbD j && (x - lN 1).toBitVec.toNat.testBit j) = (x.toBitVec.getLsbD j && decide (¬ j = k))
    rw [hs, (h2 j).1]
    by_cases e1 : j < k
    · have e2 : x.toBitVec.getLsbD j = false := (h2 j).2 e1
      rw [e2, Bool.false_and, Bool.false_and]
    · rw [if_neg e1]
      by_cases e3 : j = k
      · rw [if_pos e3]; simp [e3]
      · rw [if_neg e3]
        show (x.toBitVec.getLsbD j && x.toBitVec.getLsbD j) = _
        simp [e3]

theorem cnt_rm {P P' : Nat → Bool} {k : Nat} (hk : P k = true) (hP : ∀ j, P' j = (P j && decide (¬ j = k))) : ∀ {n : Nat}, k < n → cnt P n = cnt P' n + 1
  | 0, h => absurd h (by omega)
  | n + 1, h => by
    by_cases e : k = n
    · subst e
      rw [cnt_yes hk, cnt_no (P := P') (by rw [hP]; simp), cnt_cong (P := P) (P' := P') (fun j hj => by rw [hP, decide_eq_true (show ¬ j = k by omega), Bool.and_true])]
    · have ih := cnt_rm hk hP (n := n) (by omega)
      have en : P' n = P n := by rw [hP, decide_eq_true (show ¬ n = k by omega), Bool.and_true]
      cases q : P n with
      | false => rw [cnt_no q, cnt_no (en.trans q)]; exact ih
      | true => rw [cnt_yes q, cnt_yes (en.trans q), ih]
theorem ma_bits {x : Int64} {R : RR} {I : II} {J : JJ} {Q : QT} (kq : Q (some (.int (nI (cnt (gb x) 64)))) 90 R I J) : CT m_X12_bits 0 [.long x] 90 R I J Q := by
  refine r_X12_bits (by decide) (fun F wk b0 b4 b22 => ?_)
  have loop : ∀ (m n : Nat) (y : Int64), cnt (gb y) 64 = m → n + m = cnt (gb x) 64 → F 4 [some (.long x), none, some (.int (nI n)), some (.long y), none] [] 90 R I J := by
    intro m
    induction m with
    | zero =>
      intro n y hy hn
      have e : y = lN 0 := by
        rw [lN_0]
        refine Classical.byContradiction (fun hne => ?_)
        obtain ⟨k, h1, h2, h3⟩ := gb_low hne
        have := cnt_rm h2 h3 h1
        omega
      refine b4 _ _ _ _ _ _ (br_t (by rw [lg_cmp_eq]; exact e) (b22 _ _ _ _ _ _ ?_))
      rw [show n = cnt (gb x) 64 by omega]
      exact kq
    | succ m ih =>
      intro n y hy hn
      have e : ¬ y = lN 0 := fun g => by
        rw [g, lN_0, cnt_none (fun j _ => gb_0 j)] at hy
        omega
      obtain ⟨k, h1, h2, h3⟩ := gb_low (x := y) (by rw [lN_0] at e; exact e)
      have h4 := cnt_rm h2 h3 h1
      have h9 := ih (n + 1) (y &&& (y - lN 1)) (by omega) (by omega)
      rw [nI_s n] at h9
      exact b4 _ _ _ _ _ _ (br_f (by rw [lg_cmp_eq]; exact e) h9)
  exact b0 _ _ _ _ _ _ (loop _ 0 x rfl (by omega))
def kS (I : II) (J : JJ) (I' : II) (J' : JJ) : Prop := (∀ q, q ≠ 74 → I' q = I q) ∧ (∀ j, j ≠ 5 → I' 74 j = I 74 j) ∧ ∀ q, q ≠ 78 → J' q = J q
theorem kS.rf (I : II) (J : JJ) : kS I J I J := ⟨fun _ _ => rfl, fun _ _ => rfl, fun _ _ => rfl⟩
theorem kS.tr {I I' I'' : II} {J J' J'' : JJ} (h1 : kS I J I' J') (h2 : kS I' J' I'' J'') : kS I J I'' J'' := ⟨fun q hq => (h2.1 q hq).trans (h1.1 q hq), fun j hj => (h2.2.1 j hj).trans (h1.2.1 j hj), fun q hq => (h2.2.2 q hq).trans (h1.2.2 q hq)⟩
theorem kS.k {I I' : II} {J J' : JJ} (h : kS I J I' J') : k74 I J I' J' := fun p hp => ⟨h.1 p (by omega), h.2.2 p (by omega)⟩
theorem kS.T {T : TW} {b : Nat} {I I' : II} {J J' : JJ} (h : kS I J I' J') (hb : b ≠ 74) (hT : MTn b T I) : MTn b T I' := hT.keep (h.1 b hb)
theorem kS.M {S : SG} {I I' : II} {J J' : JJ} (h : kS I J I' J') (hM : MI S I J) (hf : mfd S.1.1 I' J') : MI S I' J' := by
  obtain ⟨h1, h2, h3, h4, h5, h6⟩ := hM
  exact ⟨h.T (by decide) h1, hf, h3.keep (h.2.1 2 (by decide)) (h.1 76 (by decide)), h4.keep (h.2.1 10 (by decide)) (h.1 81 (by decide)), h5.keep (h.1 86 (by decide)) (h.1 87 (by decide)) (h.2.2 88 (by decide)), h6.keep (h.1 77 (by decide))⟩
theorem kS.P {S : SG} {v : Value} {I I' : II} {J J' : JJ} {Q : QT} (h : kS I J I' J') (hM : MI S I J) (hf : mfd S.1.1 I' J') (kq : PM I J Q S v) : Q (some v) 90 al_R0 I' J' := kq I' J' (h.M hM hf) h.k
set_option maxHeartbeats 1000000 in
theorem ma_findSeen {c : Nat → Nat} {I : II} {J : JJ} {Q : QT} (hsq : sqr I 75 c) (hcd : cdo c) (kq : ∀ J' : JJ, (∀ q, q ≠ 78 → J' q = J q) → (∀ p, p < 81 → ∀ q, q < 64 → gb (J' 78 p) q = sen c p q) → Q none 90 al_R0 (al_up I 74 5 (nI 1)) J') : CT m_X12_findSeen 0 [.ref 74] 90 al_R0 I J Q := by
  refine r_X12_findSeen (by decide) (fun F wk b0 b2 b25 b63 b64 b72 b78 => ?_)
  have outer : ∀ (d p : Nat) (K : JJ), p + d = 81 → (∀ q, q ≠ 78 → K q = J q) → (∀ p', p' < p → ∀ q, q < 64 → gb (K 78 p') q = sen c p' q) → F 2 [some (.ref 74), some (.int (nI p)), none] [] 90 al_R0 I K := by
    intro d
    induction d with
    | zero =>
      intro p K hp h1 h2
      obtain rfl : p = 81 := by omega
      exact b2 _ _ _ _ _ _ (br_t (nI_le (by omega) (by omega)) (b78 _ _ _ _ _ _ (And.intro (Or.inr nI_1') (kq K h1 h2))))
    | succ d ih =>
      intro p K hp h1 h2
      have next : ∀ (o : Option Value) (K' : JJ), (∀ q, q ≠ 78 → K' q = J q) → (∀ p', p' < p + 1 → ∀ q, q < 64 → gb (K' 78 p') q = sen c p' q) → F 72 [some (.ref 74), some (.int (nI p)), o] [] 90 al_R0 I K' := fun o K' g1 g2 => by
        have h9 := ih (p + 1) K' (by omega) g1 g2
        rw [nI_s p] at h9
        exact b72 _ _ _ _ _ _ (wk _ _ _ _ _ _ _ _ (by simp [al_le]) h9)
      have inner : ∀ (e q : Nat) (K' : JJ), q + e = 64 → (∀ x, x ≠ 78 → K' x = J x) → (∀ p', p' < p → ∀ s, s < 64 → gb (K' 78 p') s = sen c p' s) → (∀ s, s < 64 → gb (K' 78 p) s = (decide (s < q) && sen c p s)) → F 25 [some (.ref 74), some (.int (nI p)), some (.int (nI q))] [] 90 al_R0 I K' := by
        intro e
        induction e with
        | zero =>
          intro q K' hq g1 g2 g3
          obtain rfl : q = 64 := by omega
          refine b25 _ _ _ _ _ _ (br_t (nI_le (by omega) (by omega)) (next _ K' g1 (fun p' hp' s hs => ?_)))
          rcases Nat.lt_or_ge p' p with w | w
          · exact g2 p' w s hs
          · obtain rfl : p' = p := by omega
            rw [g3 s hs, decide_eq_true hs, Bool.true_and]
        | succ e ihe =>
          intro q K' hq g1 g2 g3
          have fin : ∀ v : Int64, (∀ s, s < 64 → gb v s = (decide (s = q) && sen c p q)) → F 64 [some (.ref 74), some (.int (nI p)), some (.int (nI q))] [.long v, .long (K' 78 p), .int (nI p), .ref 78] 90 al_R0 I K' := fun v hvv => by
            have h9 := ihe (q + 1) (al_up K' 78 p (K' 78 p ||| v)) (by omega) (fun x hx => by rw [al_up_row hx]; exact g1 x hx) (fun p' hp' s hs => by rw [al_up_j (by omega)]; exact g2 p' hp' s hs) (fun s hs => by
              rw [al_up_s, gb_or, g3 s hs, hvv s hs]
              by_cases e1 : s = q
              · subst e1; simp
              · rw [decide_eq_false e1, Bool.false_and, Bool.or_false]
                congr 1
                rw [decide_eq_decide]
                omega)
            rw [nI_s q] at h9
            exact b64 _ _ _ _ _ _ (Exists.intro p (And.intro (by omega) (And.intro rfl h9)))
          have no : sen c p q = false → F 63 [some (.ref 74), some (.int (nI p)), some (.int (nI q))] [.long (K' 78 p), .int (nI p), .ref 78] 90 al_R0 I K' := fun hn => b63 _ _ _ _ _ _ (fin (lN 0) (fun s hs => by rw [lN_0, gb_0, hn, Bool.and_false]))
          have hcq := hcd q (by omega)
          refine b25 _ _ _ _ _ _ (br_f (nI_ge (by omega) (by omega)) (Exists.intro p (And.intro (by omega) (And.intro rfl (Exists.intro q (And.intro (by omega) (And.intro rfl (And.intro (fun c1 => no ?_) (fun c1 => ma_isClear hsq hcd (by omega) (by omega) (And.intro (fun c2 => no ?_) (fun c2 => ?_)))))))))))
          · rw [hsq q (by omega), nI_eq (by omega) (by omega)] at c1
            unfold sen
            rw [decide_eq_false c1, Bool.false_and]
          · unfold sen
            rw [bz_f c2, Bool.and_false]
          · rw [hsq q (by omega), nI_eq (by omega) (by omega)] at c1
            have es : sen c p q = true := by
              unfold sen
              rw [decide_eq_true c1, bz_t c2, Bool.and_true]
            exact fin _ (fun s hs => by rw [gb_bits q (by omega) s hs, es, Bool.and_true])
      have k1 : ∀ q, q ≠ 78 → al_up K 78 p (lN 0) q = J q := fun q hq => by rw [al_up_row hq]; exact h1 q hq
      have k2 : ∀ p', p' < p → ∀ s, s < 64 → gb (al_up K 78 p (lN 0) 78 p') s = sen c p' s := fun p' hp' s hs => by rw [al_up_j (by omega)]; exact h2 p' hp' s hs
      refine b2 _ _ _ _ _ _ (br_f (nI_ge (by omega) (by omega)) (Exists.intro p (And.intro (by omega) (And.intro rfl (ma_isOpen hsq (by omega) (And.intro (fun c1 => ?_) (fun c1 => ?_)))))))
      · refine next _ _ k1 (fun p' hp' s hs => ?_)
        rcases Nat.lt_or_ge p' p with w | w
        · exact k2 p' w s hs
        · obtain rfl : p' = p := by omega
          rw [al_up_s, lN_0, gb_0, opn_sen (by omega) (bz_f c1) hs]
      · exact inner 64 0 _ rfl k1 k2 (fun s hs => by rw [al_up_s, lN_0, gb_0, decide_eq_false (by omega), Bool.false_and])
  exact b0 _ _ _ _ _ _ (outer 81 0 J rfl (fun _ _ => rfl) (fun p' hp' => by omega))
theorem ma_seenAt {p : Nat} {c : Nat → Nat} {I : II} {J : JJ} {Q : QT} (hsq : sqr I 75 c) (hcd : cdo c) (hf : mfd c I J) (hp : p < 81) (kq : ∀ (I' : II) (J' : JJ), kS I J I' J' → mfd c I' J' → (∀ q, q < 64 → gb (J' 78 p) q = sen c p q) → Q (some (.long (J' 78 p))) 90 al_R0 I' J') : CT m_X12_seenAt 0 [.ref 74, .int (nI p)] 90 al_R0 I J Q := by
  refine r_X12_seenAt (by decide) (fun F wk b0 b11 => ?_)
  rcases hf with h | ⟨h, hb⟩
  · refine b0 _ _ _ _ _ _ (br_v (by rw [h]; exact nI_0) (ma_findSeen hsq hcd (fun J' g1 g2 => ?_)))
    exact b11 _ _ _ _ _ _ (Exists.intro p (And.intro hp (And.intro rfl (kq _ J' ⟨fun q hq => al_up_row hq, fun j hj => al_up_j hj, g1⟩ (Or.inr ⟨al_up_s, g2⟩) (g2 p hp)))))
  · refine b0 _ _ _ _ _ _ (br_u (by rw [h]; decide +kernel) (b11 _ _ _ _ _ _ (Exists.intro p (And.intro hp (And.intro rfl (kq I J (kS.rf I J) (Or.inr ⟨h, hb⟩) (hb p hp)))))))
theorem nsn_of {c : Nat → Nat} {p : Nat} {x : Int64} (h : ∀ q, q < 64 → gb x q = sen c p q) : cnt (gb x) 64 = nsn c p := cnt_cong h
theorem lw_bit : ∀ h, h < 6 → ∀ m, m < 64 → nI m &&& ((nI 1 <<< (nI h &&& 31)) - nI 1) = nI (m % 2 ^ h) := by decide +kernel
theorem orN_mod {P : Nat → Bool} {h : Nat} : ∀ {n : Nat}, h ≤ n → orN P n % 2 ^ h = orN P h
  | 0, hn => by
    obtain rfl : h = 0 := by omega
    rfl
  | n + 1, hn => by
    by_cases e : h = n + 1
    · subst e
      exact Nat.mod_eq_of_lt (orN_lt P _)
    · have ih := orN_mod (P := P) (h := h) (n := n) (by omega)
      rw [orN, show n = h + (n - h) by omega, Nat.pow_add, ← Nat.mul_assoc, Nat.mul_comm _ (2 ^ h), Nat.mul_assoc, Nat.add_mul_mod_self_left, show h + (n - h) = n by omega]
      exact ih
theorem orb_low {P : Nat → Bool} {h n : Nat} (hn : n ≤ 6) (hh : h < n) : (orb P n &&& ((nI 1 <<< (nI h &&& 31)) - nI 1) = 0) ↔ anyb P h = false := by
  have l1 := orN_lt P n
  have l2 : 2 ^ n ≤ 2 ^ 6 := Nat.pow_le_pow_right (by decide) hn
  have l3 := orN_lt P h
  have l4 : 2 ^ h ≤ 2 ^ 6 := Nat.pow_le_pow_right (by decide) (by omega)
  rw [orb_N P hn, lw_bit h (by omega) _ (by omega), orN_mod (by omega), ← nI_0, nI_eq (by omega) (by decide), orN_0]
  constructor
  · exact fun g => anyb_no g
  · intro g j hj
    cases e : P j with
    | false => rfl
    | true => rw [anyb_yes hj e] at g; exact absurd g (by decide)
set_option maxHeartbeats 1000000 in
theorem ma_countOf {h p : Nat} {T : TW} {I : II} {J : JJ} {Q : QT} (hT : MTn 75 T I) (hv : VT T) (hf : mfd T.1 I J) (hh : h < T.2.1) (hp : p < 81) (kq : ∀ (I' : II) (J' : JJ), kS I J I' J' → mfd T.1 I' J' → Q (some (.int (nI (cp T h p)))) 90 al_R0 I' J') : CT m_X12_countOf 0 [.ref 74, .int (nI h), .int (nI p)] 90 al_R0 I J Q := by
  have h6 := hv.1
  refine r_X12_countOf (by decide) (fun F wk b0 b20 b24 b32 b41 b50 b51 b71 b72 b87 b89 b132 b135 b138 b141 b146 b155 => ?_)
  unfold cp cof at kq
  have zero : ∀ o : Int32, (nsn T.1 p = 0 ∨ rnd T h p = true ∨ shp T.1 h p = 0) → F 20 [some (.ref 74), some (.int (nI h)), some (.int (nI p)), some (.int o), none, none, none, none] [] 90 al_R0 I J := fun o hz => by
    have h9 := kq I J (kS.rf I J) hf
    rw [if_pos hz] at h9
    exact b20 _ _ _ _ _ _ (b32 _ _ _ _ _ _ (br_v nI_0 h9))
  refine b0 _ _ _ _ _ _ (ma_cornerOf hT.1 hv.cdo (by omega) hp (And.intro (fun c1 => zero _ (Or.inr (Or.inr ?_))) (fun c1 => ma_isRounded hT (by omega) (hv.rc hh).1 (hv.rc hh).2 (And.intro (fun c2 => b24 _ _ _ _ _ _ ?_) (fun c2 => zero _ (Or.inr (Or.inl (bz_t c2))))))))
  · have := cor_no c1
    simpa [cor] using this
  · have c1 : ¬ shp T.1 h p = 0 := by
      have := cor_yes c1
      simpa [cor] using this
    have c2 := bz_f c2
    refine ma_seenAt hT.1 hv.cdo hf hp (fun I' J' g1 g2 g3 => ma_bits ?_)
    rw [nsn_of g3]
    have kq := kq I' J' g1 g2
    have hT := g1.T (by decide) hT
    have hns := nsn_le T.1 p
    have hs4 := shp_lt T.1 h p
    generalize nsn T.1 p = ns at *
    refine b32 _ _ _ _ _ _ (And.intro (fun c3 => ?_) (fun c3 => ?_))
    · rw [← nI_0, nI_eq (by omega) (by decide)] at c3
      rw [if_neg (fun g => g.elim (fun g => c3 g) (fun g => g.elim (fun g => absurd (c2.symm.trans g) (by decide)) (fun g => c1 g)))] at kq
      have hkd := hv.kd hh
      obtain ⟨ov, hov⟩ : ∃ x : Nat, x = if decide (shp T.1 h p = 1) = true then 2 else 1 := ⟨_, rfl⟩
      obtain ⟨sv, hsv⟩ : ∃ x : Nat, x = if anyb (fun g => cor T.1 g p) h = true then 0 else 1 := ⟨_, rfl⟩
      obtain ⟨dv, hdv⟩ : ∃ x : Nat, x = ov + if 5 ≤ ns then 1 else 0 := ⟨_, rfl⟩
      have ov2 : ov ≤ 2 := by rw [hov]; split <;> omega
      have dv2 : dv ≤ 3 := by rw [hdv]; split <;> omega
      have h89 : F 89 [some (.ref 74), some (.int (nI h)), some (.int (nI p)), some (.int (nI (shp T.1 h p))), some (.int (nI ns)), some (.int (nI ov)), some (.int (nI sv)), none] [.int (nI dv)] 90 al_R0 I' J' := by
        refine b89 _ _ _ _ _ _ (ma_houseIs (f := 0) hT (by omega) (by omega) ?_)
        rw [hkd.2]
        have hk6 := hkd.1
        generalize kdN T h = kd at *
        rcases (show kd = 0 ∨ kd = 1 ∨ kd = 2 ∨ kd = 3 ∨ kd = 4 ∨ kd = 5 by omega) with rfl | rfl | rfl | rfl | rfl | rfl
        · exact br_f (by decide +kernel) (br_f (by decide +kernel) (br_f (by decide +kernel) (br_f (by decide +kernel) (br_f (by decide +kernel) (b155 _ _ _ _ _ _ kq)))))
        · rw [show wgh 1 (decide (shp T.1 h p = 1)) (anyb (fun g => cor T.1 g p) h) ns = ov from hov.symm] at kq
          exact br_t (by decide +kernel) (b132 _ _ _ _ _ _ kq)
        · rw [show wgh 2 (decide (shp T.1 h p = 1)) (anyb (fun g => cor T.1 g p) h) ns = sv from hsv.symm] at kq
          exact br_f (by decide +kernel) (br_t (by decide +kernel) (b135 _ _ _ _ _ _ kq))
        · rw [show wgh 3 (decide (shp T.1 h p = 1)) (anyb (fun g => cor T.1 g p) h) ns = dv by rw [hdv, hov]; rfl] at kq
          exact br_f (by decide +kernel) (br_f (by decide +kernel) (br_t (by decide +kernel) (b138 _ _ _ _ _ _ kq)))
        · rw [show wgh 4 (decide (shp T.1 h p = 1)) (anyb (fun g => cor T.1 g p) h) ns = 2 * sv by rw [hsv]; rfl, ← pk_mul] at kq
          exact br_f (by decide +kernel) (br_f (by decide +kernel) (br_f (by decide +kernel) (br_t (by decide +kernel) (b141 _ _ _ _ _ _ kq))))
        · rw [show wgh 5 (decide (shp T.1 h p = 1)) (anyb (fun g => cor T.1 g p) h) ns = dv - 2 by rw [hdv, hov]; rfl, show nI (dv - 2) = if nI 0 < nI dv - nI 2 then nI dv - nI 2 else nI 0 by
            apply Int32.toInt_inj.mp
            rw [t_max (nT (by omega)) (i_sub (by omega) (by omega)), nT (by omega)]
            omega] at kq
          exact br_f (by decide +kernel) (br_f (by decide +kernel) (br_f (by decide +kernel) (br_f (by decide +kernel) (br_t (by decide +kernel) (b146 _ _ _ _ _ _ kq)))))
      have h72 : F 72 [some (.ref 74), some (.int (nI h)), some (.int (nI p)), some (.int (nI (shp T.1 h p))), some (.int (nI ns)), some (.int (nI ov)), none, none] [.int (nI sv)] 90 al_R0 I' J' := by
        refine b72 _ _ _ _ _ _ (And.intro (fun c4 => b87 _ _ _ _ _ _ ?_) (fun c4 => ?_))
        · rw [nI_ltI (by omega) (by omega)] at c4
          rw [hdv, if_neg (by omega), Nat.add_zero] at h89
          exact h89
        · rw [nI_ltI (by omega) (by omega)] at c4
          rw [hdv, if_pos (by omega), ← nI_add] at h89
          exact h89
      have h51 : F 51 [some (.ref 74), some (.int (nI h)), some (.int (nI p)), some (.int (nI (shp T.1 h p))), some (.int (nI ns)), none, none, none] [.int (nI ov)] 90 al_R0 I' J' := by
        refine b51 _ _ _ _ _ _ (ma_whoseIs hT.1 hv.cdo hp hv.1 hT.2.2.2 (And.intro (fun c4 => b71 _ _ _ _ _ _ ?_) (fun c4 => ?_)))
        · have c4 := (orb_low (P := fun h => cor T.1 h p) hv.1 hh).mp c4
          rw [hsv, if_neg (by rw [c4]; decide)] at h72
          exact h72
        · have c4 : anyb (fun g => cor T.1 g p) h = true := by
            cases e : anyb (fun g => cor T.1 g p) h with
            | true => rfl
            | false => exact absurd ((orb_low (P := fun h => cor T.1 h p) hv.1 hh).mpr e) c4
          rw [hsv, if_pos c4] at h72
          exact h72
      refine b41 _ _ _ _ _ _ (And.intro (fun c4 => b50 _ _ _ _ _ _ ?_) (fun c4 => ?_))
      · rw [nI_eq (by omega) (by omega)] at c4
        rw [hov, if_neg (by rw [decide_eq_true_eq]; exact c4)] at h51
        exact h51
      · rw [nI_eq (by omega) (by omega)] at c4
        rw [hov, if_pos (by rw [decide_eq_true_eq]; exact c4)] at h51
        exact h51
    · rw [← nI_0, nI_eq (by omega) (by decide)] at c3
      rw [if_pos (Or.inl c3)] at kq
      exact kq
theorem ma_allCounts {h : Nat} {T : TW} {I : II} {J : JJ} {Q : QT} (hT : MTn 75 T I) (hv : VT T) (hf : mfd T.1 I J) (hh : h < T.2.1) (kq : ∀ (I' : II) (J' : JJ), kS I J I' J' → mfd T.1 I' J' → Q (some (.int (nI (cts T h)))) 90 al_R0 I' J') : CT m_X12_allCounts 0 [.ref 74, .int (nI h)] 90 al_R0 I J Q := by
  refine r_X12_allCounts (by decide) (fun F wk b0 b4 b25 => ?_)
  have loop : ∀ (d p : Nat) (I' : II) (J' : JJ), p + d = 81 → kS I J I' J' → mfd T.1 I' J' → F 4 [some (.ref 74), some (.int (nI h)), some (.int (nI (sm (cp T h) p))), some (.int (nI p))] [] 90 al_R0 I' J' := by
    intro d
    induction d with
    | zero =>
      intro p I' J' hp g1 g2
      obtain rfl : p = 81 := by omega
      exact b4 _ _ _ _ _ _ (br_t (nI_le (by omega) (by omega)) (b25 _ _ _ _ _ _ (kq I' J' g1 g2)))
    | succ d ih =>
      intro p I' J' hp g1 g2
      refine b4 _ _ _ _ _ _ (br_f (nI_ge (by omega) (by omega)) (ma_countOf (g1.T (by decide) hT) hv g2 hh (by omega) (fun I'' J'' w1 w2 => ?_)))
      have h9 := ih (p + 1) I'' J'' (by omega) (g1.tr w1) w2
      rw [sm, nI_s p, ← nI_add] at h9
      exact h9
  exact b0 _ _ _ _ _ _ (loop 81 0 I J rfl (kS.rf I J) hf)
theorem ma_taxOf {h : Nat} {T : TW} {I : II} {J : JJ} {Q : QT} (hT : MTn 75 T I) (hv : VT T) (hf : mfd T.1 I J) (hh : h < T.2.1) (kq : ∀ (I' : II) (J' : JJ), kS I J I' J' → mfd T.1 I' J' → Q (some (.int (nI (rtN T h * cts T h)))) 90 al_R0 I' J') : CT m_X12_taxOf 0 [.ref 74, .int (nI h)] 90 al_R0 I J Q := by
  have h6 := hv.1
  refine r_X12_taxOf (by decide) (fun F wk b0 => b0 _ _ _ _ _ _ (ma_houseIs (f := 1) hT (by omega) (by omega) (ma_allCounts hT hv hf hh (fun I' J' g1 g2 => ?_))))
  dsimp only [al_pu, o_iload, o_lload, o_aload, o_istore, o_astore, o_lstore, o_iinc, o_ic, o_lc, o_sc, o_iadd, o_isub, o_imul, o_iand, o_ior, o_ixor, o_ishl, o_ishr, o_ladd, o_lsub, o_land, o_lor, o_lxor, o_lshl, o_lshr, o_i2l, o_l2i, o_lcmp, o_dup, o_dup2, o_pop, o_getI, o_getJ, o_getR, o_putI, o_putZ, o_putJ, o_iald, o_zald, o_lald, o_aald, o_iast, o_zast, o_last, o_alen, o_cpyI, o_cpyJ, o_iret, o_zret, o_lret, o_aret, o_vret, o_idiv, o_irem, o_ineg, o_ifeq, o_ifne, o_iflt, o_ifge, o_ifgt, o_ifle, o_iceq, o_icne, o_iclt, o_icge, o_icgt, o_icle, al_gL, al_sL, al_sJ, al_gd]
  rw [(hv.rt hh).2.2, pk_mul]
  exact kq I' J' g1 g2
