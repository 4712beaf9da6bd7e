/-! THE REFERENCE'S SHEETS -/
theorem MI.sheet {S : SG} {B : SH} {I I' : II} {J J' : JJ} (hM : MI S I J) (hB : msh I' J' B) (hk : ∀ p, p ≠ 86 → p ≠ 87 → I' p = I p) (hj : ∀ p, p ≠ 88 → p ≠ 89 → J' p = J p) : MI (sB S B) I' J' := by
  obtain ⟨h1, h2, h3, h4, h5, h6⟩ := hM
  have h74 := hk 74 (by decide) (by decide)
  exact ⟨h1.keep (hk 75 (by decide) (by decide)), h2.keep (by rw [h74]) (hj 78 (by decide) (by decide)), h3.keep (by rw [h74]) (hk 76 (by decide) (by decide)), h4.keep (by rw [h74]) (hk 81 (by decide) (by decide)), hB, h6.keep (hk 77 (by decide) (by decide))⟩
theorem M_sheet1 {a b d : Int32} {s n : Nat} {S : SG} {I : II} {J : JJ} {Q : QT} (hM : MI S I J) (hs : s < 4) (hn : n ≤ 40) (ea : a = nI s) (hb : bok b) (ed : d = nI n) (kq : PM I J Q (sB S (shn S.2.2.2.2.1 s b (if b = nI 0 then nI 0 else nI n))) (.int (if b = nI 0 then nI 0 else nI n))) : CT m_X12_sheet 0 [.ref 74, .int a, .int b, .int d] 90 al_R0 I J Q := by
  subst ea ed
  have hB := hM.2.2.2.2.1
  refine r_X12_sheet (by decide) (fun F wk b0 b29 b36 b48 b61 b81 b82 b86 b112 => ?_)
  obtain ⟨z, hz⟩ : ∃ z : Int32, z = if b = nI 0 then nI 0 else nI n := ⟨_, rfl⟩
  rw [← hz] at kq
  have loop : ∀ (e k : Nat) (J' : JJ), k + e = 40 → (∀ p, p ≠ 88 → J' p = J p) → (∀ j, J' 88 j = if 40 * s ≤ j ∧ j < 40 * s + k then lN 0 else J 88 j) → F 86 [some (.ref 74), some (.int (nI s)), some (.int b), some (.int (nI n)), some (.int (nI k))] [] 90 al_R0 (al_up (al_up I 86 s b) 87 s z) J' := by
    intro e
    induction e with
    | zero =>
      intro k J' hk g1 g2
      obtain rfl : k = 40 := by omega
      refine b86 _ _ _ _ _ _ (br_t (nI_le (by omega) (by omega)) (b112 _ _ _ _ _ _ (Exists.intro s (And.intro hs (And.intro rfl ?_)))))
      have hm : msh (al_up (al_up I 86 s b) 87 s z) J' (shn S.2.2.2.2.1 s b z) := fun t ht => by
        obtain ⟨q1, q2, q3⟩ := hB t ht
        show _ = ups S.2.2.2.2.1.1 s b t ∧ _ = ups S.2.2.2.2.1.2.1 s z t ∧ ∀ k, k < 40 → _ = if t = s then lN 0 else S.2.2.2.2.1.2.2 t k
        by_cases e : t = s
        · subst e
          rw [al_up_p (by decide), al_up_s, al_up_s, ups_s, ups_s]
          refine ⟨rfl, rfl, fun k hk => ?_⟩
          rw [if_pos rfl, g2, if_pos (by omega)]
        · rw [al_up_j e, al_up_j e, al_up_j e, al_up_j e, ups_n e, ups_n e]
          refine ⟨q1, q2, fun k hk => ?_⟩
          rw [if_neg e, g2, if_neg (by omega)]
          exact q3 k hk
      have h9 := kq _ J' (hM.sheet hm (fun p p1 p2 => by rw [al_up_row p2, al_up_row p1]) (fun p p1 _ => g1 p p1)) (fun p hp => ⟨by rw [al_up_row (by omega), al_up_row (by omega)], g1 p (by omega)⟩)
      show Q (some (.int (al_up (al_up I 86 s b) 87 s z 87 s))) 90 al_R0 _ J'
      rw [al_up_s]
      exact h9
    | succ e ih =>
      intro k J' hk g1 g2
      have h9 := ih (k + 1) (al_up J' 88 (40 * s + k) (lN 0)) (by omega) (fun p hp => by rw [al_up_row hp]; exact g1 p hp) (fun j => by
        by_cases e : j = 40 * s + k
        · rw [e, al_up_s, if_pos (by omega)]
        · rw [al_up_j e, g2]
          by_cases c : 40 * s ≤ j ∧ j < 40 * s + k
          · rw [if_pos c, if_pos (by omega)]
          · rw [if_neg c, if_neg (by omega)])
      rw [nI_s k] at h9
      exact b86 _ _ _ _ _ _ (br_f (nI_ge (by omega) (by omega)) (Exists.intro (40 * s + k) (And.intro (by omega) (And.intro (by rw [pk_mul, nI_add]) h9))))
  have h82 : F 82 [some (.ref 74), some (.int (nI s)), some (.int b), some (.int (nI n)), none] [.int z, .int (nI s), .ref 87] 90 al_R0 (al_up I 86 s b) J := b82 _ _ _ _ _ _ (Exists.intro s (And.intro hs (And.intro rfl (loop 40 0 J rfl (fun _ _ => rfl) (fun j => by rw [if_neg (by omega)])))))
  have h36 : F 36 [some (.ref 74), some (.int (nI s)), some (.int b), some (.int (nI n)), none] [] 90 al_R0 I J := by
    refine b36 _ _ _ _ _ _ (br_t (nI_pos' (by omega)) (b48 _ _ _ _ _ _ (br_t (nI_le (by omega) (by omega)) (b61 _ _ _ _ _ _ (Exists.intro s (And.intro hs (And.intro rfl (And.intro (fun c => b81 _ _ _ _ _ _ ?_) (fun c => ?_)))))))))
    · rw [hz, if_neg (by rw [nI_0]; exact c)] at h82
      exact h82
    · rw [hz, if_pos (by rw [nI_0]; exact c)] at h82
      exact h82
  refine b0 _ _ _ _ _ _ (mq_t hs (br_f n10 (And.intro (fun _ => h36) (fun n0 => And.intro (fun _ => h36) (fun n8 => And.intro (fun _ => h36) (fun n16 => And.intro (fun _ => h36) (fun n64 => ?_)))))))
  rcases hb with g | g | g | g
  · exact absurd (g.trans nI_0) n0
  · exact absurd g n8
  · exact absurd g n16
  · exact absurd g n64
theorem M_sheet2 {a b d : Int32} {S : SG} {I : II} {J : JJ} {Q : QT} (hM : MI S I J) (hg : ing 4 a ∨ ¬ bok b) (kq : PM I J Q (fnd 0 S) (.int (-1000000001))) : CT m_X12_sheet 0 [.ref 74, .int a, .int b, .int d] 90 al_R0 I J Q := by
  refine r_X12_sheet (by decide) (fun F wk b0 b29 b36 b48 b61 b81 b82 b86 b112 => b0 _ _ _ _ _ _ ?_)
  have h29 : F 29 [some (.ref 74), some (.int a), some (.int b), some (.int d), none] [] 90 al_R0 I J := b29 _ _ _ _ _ _ (ma_finding hM (k := 0) (by decide) (by decide +kernel) kq)
  rcases ing_or 4 (by decide) a with g | ⟨q, hq, e⟩
  · exact mq_f g (br_t nI_0 h29)
  · subst e
    rcases hg with g | g
    · exact absurd rfl (g q hq)
    · exact mq_t hq (br_f n10 (br_f (fun e => g (Or.inl (e.trans nI_0.symm))) (br_f (fun e => g (Or.inr (Or.inl e))) (br_f (fun e => g (Or.inr (Or.inr (Or.inl e)))) (br_f (fun e => g (Or.inr (Or.inr (Or.inr e)))) h29)))))
theorem M_sheet3 {a b d : Int32} {s : Nat} {S : SG} {I : II} {J : JJ} {Q : QT} (hM : MI S I J) (hs : s < 4) (ea : a = nI s) (hb : bok b) (hd : d < 0) (kq : PM I J Q (fnd 6 S) (.int (-1000000007))) : CT m_X12_sheet 0 [.ref 74, .int a, .int b, .int d] 90 al_R0 I J Q := by
  subst ea
  refine r_X12_sheet (by decide) (fun F wk b0 b29 b36 b48 b61 b81 b82 b86 b112 => ?_)
  have h36 : F 36 [some (.ref 74), some (.int (nI s)), some (.int b), some (.int d), none] [] 90 al_R0 I J := b36 _ _ _ _ _ _ (br_f (Int32.not_le.mpr hd) (ma_finding hM (k := 6) (by decide) (by decide +kernel) kq))
  refine b0 _ _ _ _ _ _ (mq_t hs (br_f n10 (And.intro (fun _ => h36) (fun n0 => And.intro (fun _ => h36) (fun n8 => And.intro (fun _ => h36) (fun n16 => And.intro (fun _ => h36) (fun n64 => ?_)))))))
  rcases hb with g | g | g | g
  · exact absurd (g.trans nI_0) n0
  · exact absurd g n8
  · exact absurd g n16
  · exact absurd g n64
theorem M_sheet4 {a b d : Int32} {s : Nat} {S : SG} {I : II} {J : JJ} {Q : QT} (hM : MI S I J) (hs : s < 4) (ea : a = nI s) (hb : bok b) (hd : nI 40 < d) (kq : PM I J Q (fnd 0 S) (.int (-1000000001))) : CT m_X12_sheet 0 [.ref 74, .int a, .int b, .int d] 90 al_R0 I J Q := by
  subst ea
  refine r_X12_sheet (by decide) (fun F wk b0 b29 b36 b48 b61 b81 b82 b86 b112 => ?_)
  have hd0 : 0 ≤ d := by
    rw [in_lt (by decide)] at hd
    rw [i0_le]
    omega
  have h36 : F 36 [some (.ref 74), some (.int (nI s)), some (.int b), some (.int d), none] [] 90 al_R0 I J := b36 _ _ _ _ _ _ (br_t hd0 (b48 _ _ _ _ _ _ (br_f (Int32.not_le.mpr hd) (ma_finding hM (k := 0) (by decide) (by decide +kernel) kq))))
  refine b0 _ _ _ _ _ _ (mq_t hs (br_f n10 (And.intro (fun _ => h36) (fun n0 => And.intro (fun _ => h36) (fun n8 => And.intro (fun _ => h36) (fun n16 => And.intro (fun _ => h36) (fun n64 => ?_)))))))
  rcases hb with g | g | g | g
  · exact absurd (g.trans nI_0) n0
  · exact absurd g n8
  · exact absurd g n16
  · exact absurd g n64
theorem ma_cutTo {v : Int64} {w : Int32} {R : RR} {I : II} {J : JJ} {Q : QT} (kq : Q (some (.long (fit w v))) 90 R I J) : CT m_X12_cutTo 0 [.long v, .int w] 90 R I J Q := by
  refine r_X12_cutTo (by decide) (fun F wk b0 b13 b26 b27 => ?_)
  unfold fit at kq
  refine b0 _ _ _ _ _ _ (And.intro (fun c => b13 _ _ _ _ _ _ (And.intro (fun c2 => b26 _ _ _ _ _ _ (b27 _ _ _ _ _ _ ?_)) (fun c2 => b27 _ _ _ _ _ _ ?_))) (fun c => b27 _ _ _ _ _ _ ?_))
  · rw [if_neg c, if_neg c2] at kq
    exact kq
  · rw [if_neg c, if_pos c2] at kq
    exact kq
  · rw [if_pos c] at kq
    exact kq
theorem M_write1 {a b : Int32} {v : Int64} {s i : Nat} {S : SG} {I : II} {J : JJ} {Q : QT} (hM : MI S I J) (hV : VS S) (hs : s < 4) (hi : i < szN S.2.2.2.2.1 s) (ea : a = nI s) (eb : b = nI i) (hw : ¬ S.2.2.2.2.1.1 s = nI 0) (kq : PM I J Q (sB S (shw S.2.2.2.2.1 s i (fit (S.2.2.2.2.1.1 s) v))) (.long (S.2.2.2.2.1.2.2 s i))) : CT m_X12_write 0 [.ref 74, .int a, .int b, .long v] 90 al_R0 I J Q := by
  subst ea eb
  have hB := hM.2.2.2.2.1
  obtain ⟨q1, q2, q3⟩ := hB s hs
  obtain ⟨z1, z2⟩ := hV.2.2.2.sz hs
  have hcc : nI 40 * nI s + nI i = nI (40 * s + i) := by rw [pk_mul, nI_add]
  refine r_X12_write (by decide) (fun F wk b0 b15 b33 b57 => b0 _ _ _ _ _ _ (mq_t hs (br_u n10 (b15 _ _ _ _ _ _ (Exists.intro s (And.intro hs (And.intro rfl (br_u (by rw [q1, ← nI_0]; exact hw) (b33 _ _ _ _ _ _ (Exists.intro s (And.intro hs (And.intro rfl (mw_t (by rw [nT (by omega), nT (by omega)]; omega) (by rw [q2, z2, nT (by omega), i_sub (by omega) (by omega)]; omega) (br_u n10 (b57 _ _ _ _ _ _ (Exists.intro (40 * s + i) (And.intro (by omega) (And.intro hcc (Exists.intro s (And.intro hs (And.intro rfl (ma_cutTo (Exists.intro (40 * s + i) (And.intro (by omega) (And.intro hcc ?_)))))))))))))))))))))))))
  have hm : msh I (al_up J 88 (40 * s + i) (fit (I 86 s) v)) (shw S.2.2.2.2.1 s i (fit (S.2.2.2.2.1.1 s) v)) := fun t ht => by
    obtain ⟨p1, p2, p3⟩ := hB t ht
    refine ⟨p1, p2, fun k hk => ?_⟩
    show _ = al_up S.2.2.2.2.1.2.2 s i (fit (S.2.2.2.2.1.1 s) v) t k
    by_cases e : t = s
    · subst e
      by_cases e2 : k = i
      · subst e2; rw [al_up_s, al_up_s, q1]
      · rw [al_up_j (by omega), al_up_j e2]; exact p3 k hk
    · rw [al_up_j (by omega), al_up_p e]; exact p3 k hk
  have h9 := kq I _ (hM.sheet hm (fun _ _ _ => rfl) (fun p p1 _ => al_up_row p1)) (fun p hp => ⟨rfl, al_up_row (by omega)⟩)
  rw [← q3 i (by omega)] at h9
  exact h9
theorem M_write2 {a b : Int32} {v : Int64} {S : SG} {I : II} {J : JJ} {Q : QT} (hM : MI S I J) (hV : VS S) (hg : ing 4 a ∨ ∃ s, s < 4 ∧ a = nI s ∧ ¬ S.2.2.2.2.1.1 s = nI 0 ∧ ing (szN S.2.2.2.2.1 s) b) (kq : PM I J Q (fnd 0 S) (.long (Int32.toInt64 (-1000000001)))) : CT m_X12_write 0 [.ref 74, .int a, .int b, .long v] 90 al_R0 I J Q := by
  have hB := hM.2.2.2.2.1
  refine r_X12_write (by decide) (fun F wk b0 b15 b33 b57 => b0 _ _ _ _ _ _ ?_)
  rcases hg with g | ⟨s, hs, rfl, hw, g⟩
  · exact mq_f g (br_v nI_0 (ma_finding hM (k := 0) (by decide) (by decide +kernel) kq))
  · obtain ⟨q1, q2, q3⟩ := hB s hs
    obtain ⟨z1, z2⟩ := hV.2.2.2.sz hs
    have g := ing_of g (by omega)
    exact mq_t hs (br_u n10 (b15 _ _ _ _ _ _ (Exists.intro s (And.intro hs (And.intro rfl (br_u (by rw [q1, ← nI_0]; exact hw) (b33 _ _ _ _ _ _ (Exists.intro s (And.intro hs (And.intro rfl (mw_f (by rw [q2, z2, nT (by omega), i_sub (by omega) (by omega)]; omega) (br_v nI_0 (ma_finding hM (k := 0) (by decide) (by decide +kernel) kq)))))))))))))
theorem M_write3 {a b : Int32} {v : Int64} {s : Nat} {S : SG} {I : II} {J : JJ} {Q : QT} (hM : MI S I J) (hs : s < 4) (ea : a = nI s) (hw : S.2.2.2.2.1.1 s = nI 0) (kq : PM I J Q (fnd 5 S) (.long (Int32.toInt64 (-1000000006)))) : CT m_X12_write 0 [.ref 74, .int a, .int b, .long v] 90 al_R0 I J Q := by
  subst ea
  obtain ⟨q1, q2, q3⟩ := hM.2.2.2.2.1 s hs
  exact r_X12_write (by decide) (fun F wk b0 b15 b33 b57 => b0 _ _ _ _ _ _ (mq_t hs (br_u n10 (b15 _ _ _ _ _ _ (Exists.intro s (And.intro hs (And.intro rfl (br_v (by rw [q1, hw, nI_0]) (ma_finding hM (k := 5) (by decide) (by decide +kernel) kq)))))))))
theorem lg_sm {a b c : Int32} : c.toInt64 < a.toInt64 + b.toInt64 ↔ c.toInt < a.toInt + b.toInt := by
  have h1 := Int32.toInt_lt a
  have h2 := Int32.toInt_lt b
  have h3 := Int32.le_toInt a
  have h4 := Int32.le_toInt b
  rw [Int64.lt_iff_toInt_lt, Int64.toInt_add, Int32.toInt_toInt64, Int32.toInt_toInt64, Int32.toInt_toInt64, Int.bmod_eq_of_le_mul_two (by omega) (by omega)]
set_option maxHeartbeats 1000000 in
theorem M_copy {f g n : Int32} {s t : Nat} {S : SG} {I : II} {J : JJ} {Q : QT} (hM : MI S I J) (hV : VS S) (hs : s < 4) (ht : t < 4) (k1 : ∀ f' g' n', ¬ S.2.2.2.2.1.1 s = nI 0 → ¬ S.2.2.2.2.1.1 t = nI 0 → S.2.2.2.2.1.1 s = S.2.2.2.2.1.1 t → f = nI f' → g = nI g' → n = nI n' → f' + n' ≤ szN S.2.2.2.2.1 s → g' + n' ≤ szN S.2.2.2.2.1 t → PM I J Q (sB S (S.2.2.2.2.1.1, S.2.2.2.2.1.2.1, al_cpy S.2.2.2.2.1.2.2 s t f' g' n')) (.int n)) (k3 : (S.2.2.2.2.1.1 s = nI 0 ∨ S.2.2.2.2.1.1 t = nI 0) → PM I J Q (fnd 5 S) (.int (-1000000006))) (k4 : ¬ S.2.2.2.2.1.1 s = nI 0 → ¬ S.2.2.2.2.1.1 t = nI 0 → ¬ S.2.2.2.2.1.1 s = S.2.2.2.2.1.1 t → PM I J Q (fnd 2 S) (.int (-1000000003))) (k5 : ¬ S.2.2.2.2.1.1 s = nI 0 → ¬ S.2.2.2.2.1.1 t = nI 0 → S.2.2.2.2.1.1 s = S.2.2.2.2.1.1 t → ¬ (0 ≤ f.toInt ∧ 0 ≤ n.toInt ∧ 0 ≤ g.toInt ∧ f.toInt + n.toInt ≤ szN S.2.2.2.2.1 s ∧ g.toInt + n.toInt ≤ szN S.2.2.2.2.1 t) → PM I J Q (fnd 0 S) (.int (-1000000001))) : CT m_X12_copy 0 [.ref 74, .int (nI s), .int f, .int (nI t), .int g, .int n] 90 al_R0 I J Q := by
  have hB := hM.2.2.2.2.1
  obtain ⟨q1, q2, q3⟩ := hB s hs
  obtain ⟨p1, p2, p3⟩ := hB t ht
  obtain ⟨z1, z2⟩ := hV.2.2.2.sz hs
  obtain ⟨y1, y2⟩ := hV.2.2.2.sz ht
  refine r_X12_copy (by decide) (fun F wk b0 b14 b21 b39 b47 b69 b118 b125 b128 b162 b165 b200 => b0 _ _ _ _ _ _ (mq_t hs (br_f n10 (mq_t ht (br_u n10 (b21 _ _ _ _ _ _ ?_))))))
  have h39 : (S.2.2.2.2.1.1 s = nI 0 ∨ S.2.2.2.2.1.1 t = nI 0) → F 39 [some (.ref 74), some (.int (nI s)), some (.int f), some (.int (nI t)), some (.int g), some (.int n), none] [] 90 al_R0 I J := fun h => b39 _ _ _ _ _ _ (ma_finding hM (k := 5) (by decide) (by decide +kernel) (k3 h))
  refine Exists.intro s (And.intro hs (And.intro rfl (And.intro (fun c => h39 (Or.inl ?_)) (fun c => Exists.intro t (And.intro ht (And.intro rfl (And.intro (fun c2 => b47 _ _ _ _ _ _ ?_) (fun c2 => h39 (Or.inr ?_)))))))))
  · rw [← q1, nI_0]; exact c
  · have c : ¬ S.2.2.2.2.1.1 s = nI 0 := by rw [← q1, nI_0]; exact c
    have c2 : ¬ S.2.2.2.2.1.1 t = nI 0 := by rw [← p1, nI_0]; exact c2
    refine Exists.intro s (And.intro hs (And.intro rfl (Exists.intro t (And.intro ht (And.intro rfl (And.intro (fun c3 => b69 _ _ _ _ _ _ ?_) (fun c3 => ma_finding hM (k := 2) (by decide) (by decide +kernel) (k4 c c2 ?_))))))))
    · have c3 : S.2.2.2.2.1.1 s = S.2.2.2.2.1.1 t := by rw [← q1, ← p1]; exact c3
      have h118 : ¬ (0 ≤ f.toInt ∧ 0 ≤ n.toInt ∧ 0 ≤ g.toInt ∧ f.toInt + n.toInt ≤ szN S.2.2.2.2.1 s ∧ g.toInt + n.toInt ≤ szN S.2.2.2.2.1 t) → F 118 [some (.ref 74), some (.int (nI s)), some (.int f), some (.int (nI t)), some (.int g), some (.int n), none] [] 90 al_R0 I J := fun h => b118 _ _ _ _ _ _ (ma_finding hM (k := 0) (by decide) (by decide +kernel) (k5 c c2 c3 h))
      refine And.intro (fun d1 => h118 (by rw [i0_lt] at d1; omega)) (fun d1 => And.intro (fun d2 => h118 (by rw [i0_lt] at d2; omega)) (fun d2 => And.intro (fun d3 => h118 (by rw [i0_lt] at d3; omega)) (fun d3 => ?_)))
      rw [i0_lt] at d1 d2 d3
      refine Exists.intro s (And.intro hs (And.intro rfl (And.intro (fun d4 => h118 ?_) (fun d4 => Exists.intro t (And.intro ht (And.intro rfl (And.intro (fun d5 => b125 _ _ _ _ _ _ ?_) (fun d5 => h118 ?_))))))))
      · rw [lg_cmp_gt, lg_sm, q2, z2, nT (by omega)] at d4
        omega
      · rw [lg_cmp_gt, lg_sm, q2, z2, nT (by omega)] at d4
        rw [lg_cmp_le, ← Int64.not_lt, lg_sm, p2, y2, nT (by omega)] at d5
        have ef : f = nI f.toInt.toNat := i_of (by omega) (by omega)
        have eg : g = nI g.toInt.toNat := i_of (by omega) (by omega)
        have en : n = nI n.toInt.toNat := i_of (by omega) (by omega)
        have kk := k1 f.toInt.toNat g.toInt.toNat n.toInt.toNat c c2 c3 ef eg en (by omega) (by omega)
        have l1 : f.toInt.toNat + n.toInt.toNat ≤ 40 := by omega
        have l2 : g.toInt.toNat + n.toInt.toNat ≤ 40 := by omega
        clear k1 k3 k4 k5 h118 d1 d2 d3 d4 d5
        generalize f.toInt.toNat = f' at *
        generalize g.toInt.toNat = g' at *
        generalize n.toInt.toNat = n' at *
        subst ef eg en
        have loop2 : ∀ (J1 : JJ), (∀ j, j < n' → J1 89 j = J 88 (40 * s + f' + j)) → (∀ p, p ≠ 88 → p ≠ 89 → J1 p = J p) → ∀ (e k : Nat) (J' : JJ), k + e = n' → J' 89 = J1 89 → (∀ p, p ≠ 88 → p ≠ 89 → J' p = J p) → (∀ j, J' 88 j = if 40 * t + g' ≤ j ∧ j < 40 * t + g' + k then J 88 (40 * s + f' + (j - (40 * t + g'))) else J 88 j) → F 165 [some (.ref 74), some (.int (nI s)), some (.int (nI f')), some (.int (nI t)), some (.int (nI g')), some (.int (nI n')), some (.int (nI k))] [] 90 al_R0 I J' := by
          intro J1 hJ1 hJ2 e
          induction e with
          | zero =>
            intro k J' hk g1 g2 g3
            obtain rfl : k = n' := by omega
            refine b165 _ _ _ _ _ _ (br_t (nI_le (by omega) (by omega)) (b200 _ _ _ _ _ _ (kk I J' (hM.sheet (fun x hx => ?_) (fun _ _ _ => rfl) g2) (fun p hp => ⟨rfl, g2 p (by omega) (by omega)⟩))))
            obtain ⟨u1, u2, u3⟩ := hB x hx
            refine ⟨u1, u2, fun j hj => ?_⟩
            show _ = al_cpy S.2.2.2.2.1.2.2 s t f' g' k x j
            unfold al_cpy
            rw [g3]
            by_cases ex : x = t
            · subst ex
              rw [if_pos rfl]
              by_cases ej : g' ≤ j ∧ j < g' + k
              · rw [if_pos ej, if_pos (by omega), show 40 * s + f' + (40 * x + j - (40 * x + g')) = 40 * s + (f' + (j - g')) by omega]
                exact q3 _ (by omega)
              · rw [if_neg ej, if_neg (by omega)]
                exact u3 j hj
            · rw [if_neg ex, if_neg (by omega)]
              exact u3 j hj
          | succ e ih =>
            intro k J' hk g1 g2 g3
            have h9 := ih (k + 1) (al_up J' 88 (40 * t + g' + k) (J' 89 k)) (by omega) (by rw [al_up_row (by decide)]; exact g1) (fun p a1 a2 => by rw [al_up_row a1]; exact g2 p a1 a2) (fun j => by
              by_cases ej : j = 40 * t + g' + k
              · rw [ej, al_up_s, if_pos (by omega), g1, hJ1 k (by omega), show 40 * t + g' + k - (40 * t + g') = k by omega]
              · rw [al_up_j ej, g3]
                by_cases cc : 40 * t + g' ≤ j ∧ j < 40 * t + g' + k
                · rw [if_pos cc, if_pos (by omega)]
                · rw [if_neg cc, if_neg (by omega)])
            rw [nI_s k] at h9
            exact b165 _ _ _ _ _ _ (br_f (nI_ge (by omega) (by omega)) (Exists.intro k (And.intro (by omega) (And.intro rfl (Exists.intro (40 * t + g' + k) (And.intro (by omega) (And.intro (by rw [pk_mul, nI_add, nI_add]) h9)))))))
        have loop1 : ∀ (e k : Nat) (J' : JJ), k + e = n' → (∀ p, p ≠ 89 → J' p = J p) → (∀ j, j < k → J' 89 j = J 88 (40 * s + f' + j)) → F 128 [some (.ref 74), some (.int (nI s)), some (.int (nI f')), some (.int (nI t)), some (.int (nI g')), some (.int (nI n')), some (.int (nI k))] [] 90 al_R0 I J' := by
          intro e
          induction e with
          | zero =>
            intro k J' hk g1 g2
            obtain rfl : k = n' := by omega
            exact b128 _ _ _ _ _ _ (br_t (nI_le (by omega) (by omega)) (b162 _ _ _ _ _ _ (loop2 J' g2 (fun p _ a => g1 p a) k 0 J' (by omega) rfl (fun p _ a => g1 p a) (fun j => by rw [if_neg (by omega), g1 88 (by decide)]))))
          | succ e ih =>
            intro k J' hk g1 g2
            have h9 := ih (k + 1) (al_up J' 89 k (J' 88 (40 * s + f' + k))) (by omega) (fun p hp => by rw [al_up_row hp]; exact g1 p hp) (fun j hj => by
              by_cases ej : j = k
              · rw [ej, al_up_s, g1 88 (by decide)]
              · rw [al_up_j ej]; exact g2 j (by omega))
            rw [nI_s k] at h9
            exact b128 _ _ _ _ _ _ (br_f (nI_ge (by omega) (by omega)) (Exists.intro (40 * s + f' + k) (And.intro (by omega) (And.intro (by rw [pk_mul, nI_add, nI_add]) (Exists.intro k (And.intro (by omega) (And.intro rfl h9)))))))
        exact loop1 n' 0 J (by omega) (fun _ _ => rfl) (fun j hj => absurd hj (by omega))
      · rw [lg_cmp_le, ← Int64.not_lt, lg_sm, p2, y2, nT (by omega)] at d5
        omega
    · rw [q1, p1] at c3
      exact c3
  · rw [← p1, nI_0]; exact c2
theorem M_copy2 {a f b g n : Int32} {S : SG} {I : II} {J : JJ} {Q : QT} (hM : MI S I J) (hg : ing 4 a ∨ ing 4 b) (kq : PM I J Q (fnd 0 S) (.int (-1000000001))) : CT m_X12_copy 0 [.ref 74, .int a, .int f, .int b, .int g, .int n] 90 al_R0 I J Q := by
  refine r_X12_copy (by decide) (fun F wk b0 b14 b21 b39 b47 b69 b118 b125 b128 b162 b165 b200 => b0 _ _ _ _ _ _ ?_)
  have h14 : F 14 [some (.ref 74), some (.int a), some (.int f), some (.int b), some (.int g), some (.int n), none] [] 90 al_R0 I J := b14 _ _ _ _ _ _ (ma_finding hM (k := 0) (by decide) (by decide +kernel) kq)
  rcases ing_or 4 (by decide) a with w | ⟨q, hq, e⟩
  · exact mq_f w (br_t nI_0 h14)
  · subst e
    rcases hg with w | w
    · exact absurd rfl (w q hq)
    · exact mq_t hq (br_f n10 (mq_f w (br_v nI_0 h14)))
theorem l100 : (100 : Int64).toInt = 100 := by decide +kernel
set_option maxHeartbeats 1000000 in
theorem M_lays1 {a b : Int32} {s q : Nat} {S : SG} {I : II} {J : JJ} {Q : QT} (hM : MI S I J) (hV : VS S) (hs : s < 4) (hq : q < 64) (ea : a = nI s) (eb : b = nI q) (hw : ¬ S.2.2.2.2.1.1 s = nI 0) (kq : PM I J Q (sT S (lyo S.1 (S.2.2.2.2.1.2.2 s) q (min (szN S.2.2.2.2.1 s) (64 - q))).1) (.int (nI (lyo S.1 (S.2.2.2.2.1.2.2 s) q (min (szN S.2.2.2.2.1 s) (64 - q))).2))) : CT m_X12_lays 0 [.ref 74, .int a, .int b] 90 al_R0 I J Q := by
  subst ea eb
  have h6 := hV.1.1
  have hB := hM.2.2.2.2.1
  obtain ⟨q1, q2, q3⟩ := hB s hs
  obtain ⟨z1, z2⟩ := hV.2.2.2.sz hs
  refine r_X12_lays (by decide) (fun F wk b0 b14 b31 b45 b50 b126 b132 => b0 _ _ _ _ _ _ (mq_t hs (br_u n10 (b14 _ _ _ _ _ _ (Exists.intro s (And.intro hs (And.intro rfl (br_u (by rw [q1, ← nI_0]; exact hw) (b31 _ _ _ _ _ _ (ms_t hq (br_u n10 (b45 _ _ _ _ _ _ ?_))))))))))))
  generalize hwv : S.2.2.2.2.1.2.2 s = v at *
  generalize hz : szN S.2.2.2.2.1 s = z at *
  have loop : ∀ (d i : Nat) (I' : II), i + d = min z (64 - q) → kN I J I' J → MTn 75 (lyo S.1 v q i).1 I' → mfd (lyo S.1 v q i).1.1 I' J → F 50 [some (.ref 74), some (.int (nI s)), some (.int (nI q)), some (.int (nI (lyo S.1 v q i).2)), some (.int (nI i)), none, none, none] [] 90 al_R0 I' J := by
    intro d
    induction d with
    | zero =>
      intro i I' hi g1 g2 g3
      have q2' : I' 87 s = nI z := by rw [g1.1 87 (by decide) (by decide), q2, z2]
      have h132 : F 132 [some (.ref 74), some (.int (nI s)), some (.int (nI q)), some (.int (nI (lyo S.1 v q i).2)), some (.int (nI i)), none, none, none] [] 90 al_R0 I' J := by
        rw [show min z (64 - q) = i by omega] at kq
        exact b132 _ _ _ _ _ _ (g1.P hM g2 g3 kq)
      refine b50 _ _ _ _ _ _ (Exists.intro s (And.intro hs (And.intro rfl (And.intro (fun _ => h132) (fun c => br_t ?_ h132)))))
      rw [q2', nI_leI (by omega) (by omega)] at c
      rw [nI_add]
      exact nI_le (by omega) (by omega)
    | succ d ih =>
      intro i I' hi g1 g2 g3
      have q2' : I' 87 s = nI z := by rw [g1.1 87 (by decide) (by decide), q2, z2]
      obtain ⟨w1, w2⟩ := lyo_2 S.1 v q i
      have hVi := VT_lyo hV.1 v q i
      have e8 : I' 75 142 = nI S.1.2.1 := by rw [g2.2.2.2, w1]
      have no : vlv S.1.2.1 (v i) = false → F 126 [some (.ref 74), some (.int (nI s)), some (.int (nI q)), some (.int (nI (lyo S.1 v q i).2)), some (.int (nI i)), none, none, none] [] 90 al_R0 I' J := fun hvl => by
        have he : lyo S.1 v q (i + 1) = lyo S.1 v q i := by rw [lyo, if_neg (by rw [hvl]; decide)]
        have h9 := ih (i + 1) I' (by omega) g1 (by rw [he]; exact g2) (by rw [he]; exact g3)
        rw [he, nI_s i] at h9
        exact b126 _ _ _ _ _ _ h9
      refine b50 _ _ _ _ _ _ (Exists.intro s (And.intro hs (And.intro rfl (br_f (by rw [q2']; exact nI_ge (by omega) (by omega)) (br_f (by rw [nI_add]; exact nI_ge (by omega) (by omega)) (Exists.intro (40 * s + i) (And.intro (by omega) (And.intro (by rw [pk_mul, nI_add]) ?_))))))))
      have e88 : J 88 (40 * s + i) = v i := q3 i (by omega)
      dsimp only [o_iload, o_lload, o_aload, o_istore, o_astore, o_lstore, o_iinc, o_ic, o_lc, o_sc, o_iadd, o_isub, o_imul, o_iand, o_ior, o_ixor, o_ishl, o_ishr, o_ladd, o_lsub, o_land, o_lor, o_lxor, o_lshl, o_lshr, o_i2l, o_l2i, o_lcmp, o_dup, o_dup2, o_pop, o_getI, o_getJ, o_getR, o_putI, o_putZ, o_putJ, o_iald, o_zald, o_lald, o_aald, o_iast, o_zast, o_last, o_alen, o_cpyI, o_cpyJ, o_iret, o_zret, o_lret, o_aret, o_vret, o_idiv, o_irem, o_ineg, o_ifeq, o_ifne, o_iflt, o_ifge, o_ifgt, o_ifle, o_iceq, o_icne, o_iclt, o_icge, o_icgt, o_icle, al_gL, al_sL, al_sJ, al_gd]
      rw [e88]
      refine And.intro (fun c3 => ?_) (fun c3 => And.intro (fun c4 => ?_) (fun c4 => ?_))
      · rw [lg_cmp_lt, Int64.lt_iff_toInt_lt, lN_0, Int64.toInt_zero] at c3
        exact wk _ _ _ _ _ _ _ _ (by simp [al_le]) (no (by simp [vlv]; omega))
      · rw [lg_cmp_ge, Int64.le_iff_toInt_le, l100] at c4
        refine wk _ _ _ _ _ _ _ _ (by simp [al_le]) (no ?_)
        have : vokb S.1.2.1 (v i).toInt.toNat = false := by
          cases hq9 : vokb S.1.2.1 (v i).toInt.toNat with
          | false => rfl
          | true =>
            rw [vokb_iff] at hq9
            unfold vok at hq9
            omega
        unfold vlv
        rw [this, Bool.and_false]
      · rw [lg_cmp_lt, Int64.lt_iff_toInt_lt, lN_0, Int64.toInt_zero] at c3
        rw [lg_cmp_ge, Int64.le_iff_toInt_le, l100] at c4
        have ev : v i = lN (v i).toInt.toNat := l_of (by omega) (by omega)
        have ei : (v i).toInt32 = nI (v i).toInt.toNat := by rw [ev, lN_i, ← ev]
        have hx16 : (v i).toInt.toNat < 100 := by omega
        have hnn : 0 ≤ (v i).toInt := by omega
        rw [ei]
        by_cases hx : vok S.1.2.1 (v i).toInt.toNat
        · have hvl : vlv S.1.2.1 (v i) = true := by
            unfold vlv
            rw [vokb_iff.mpr hx]
            simp [hnn]
          have he : lyo S.1 v q (i + 1) = ((ups (lyo S.1 v q i).1.1 (q + i) (v i).toInt.toNat, S.1.2), (lyo S.1 v q i).2 + 1) := by rw [lyo, if_pos hvl]
          refine mv_t h6 e8 hx (br_f n10 ?_)
          dsimp only [o_iload, o_lload, o_aload, o_istore, o_astore, o_lstore, o_iinc, o_ic, o_lc, o_sc, o_iadd, o_isub, o_imul, o_iand, o_ior, o_ixor, o_ishl, o_ishr, o_ladd, o_lsub, o_land, o_lor, o_lxor, o_lshl, o_lshr, o_i2l, o_l2i, o_lcmp, o_dup, o_dup2, o_pop, o_getI, o_getJ, o_getR, o_putI, o_putZ, o_putJ, o_iald, o_zald, o_lald, o_aald, o_iast, o_zast, o_last, o_alen, o_cpyI, o_cpyJ, o_iret, o_zret, o_lret, o_aret, o_vret, o_idiv, o_irem, o_ineg, o_ifeq, o_ifne, o_iflt, o_ifge, o_ifgt, o_ifle, o_iceq, o_icne, o_iclt, o_icge, o_icgt, o_icle, al_gL, al_sL, al_sJ, al_gd]
          rw [ei, nI_add]
          refine ma_stands g2 g3 hVi.cdo (by omega) hx16 (fun I2 p1 p2 p3 => ?_)
          have h9 := ih (i + 1) I2 (by omega) (g1.tr p1) (by rw [he, ← w1]; exact p2) (by rw [he]; exact p3)
          rw [he, nI_s i, nI_s (lyo S.1 v q i).2] at h9
          exact b126 _ _ _ _ _ _ (wk _ _ _ _ _ _ _ _ (by simp [al_le]) h9)
        · refine mv_f h6 e8 (fun x hx2 ex => hx ?_) (br_t nI_0 (wk _ _ _ _ _ _ _ _ (by simp [al_le]) (no ?_)))
          · rw [nI_eq (by omega) (by unfold vok at hx2; omega)] at ex
            rw [ex]; exact hx2
          · have : vokb S.1.2.1 (v i).toInt.toNat = false := by
              cases hq9 : vokb S.1.2.1 (v i).toInt.toNat with
              | false => rfl
              | true => exact absurd (vokb_iff.mp hq9) hx
            unfold vlv
            rw [this, Bool.and_false]
  exact loop (min z (64 - q)) 0 I (by omega) (kN.rf I J) hM.1 hM.2.1
theorem M_lays2 {a b : Int32} {S : SG} {I : II} {J : JJ} {Q : QT} (hM : MI S I J) (hg : ing 4 a ∨ ∃ s, s < 4 ∧ a = nI s ∧ ¬ S.2.2.2.2.1.1 s = nI 0 ∧ ing 64 b) (kq : PM I J Q (fnd 0 S) (.int (-1000000001))) : CT m_X12_lays 0 [.ref 74, .int a, .int b] 90 al_R0 I J Q := by
  refine r_X12_lays (by decide) (fun F wk b0 b14 b31 b45 b50 b126 b132 => b0 _ _ _ _ _ _ ?_)
  rcases hg with g | ⟨s, hs, rfl, hw, g⟩
  · exact mq_f g (br_v nI_0 (ma_finding hM (k := 0) (by decide) (by decide +kernel) kq))
  · obtain ⟨q1, q2, q3⟩ := hM.2.2.2.2.1 s hs
    exact mq_t hs (br_u n10 (b14 _ _ _ _ _ _ (Exists.intro s (And.intro hs (And.intro rfl (br_u (by rw [q1, ← nI_0]; exact hw) (b31 _ _ _ _ _ _ (ms_f g (br_v nI_0 (ma_finding hM (k := 0) (by decide) (by decide +kernel) kq))))))))))
theorem M_lays3 {a b : Int32} {s : Nat} {S : SG} {I : II} {J : JJ} {Q : QT} (hM : MI S I J) (hs : s < 4) (ea : a = nI s) (hw : S.2.2.2.2.1.1 s = nI 0) (kq : PM I J Q (fnd 5 S) (.int (-1000000006))) : CT m_X12_lays 0 [.ref 74, .int a, .int b] 90 al_R0 I J Q := by
  subst ea
  obtain ⟨q1, q2, q3⟩ := hM.2.2.2.2.1 s hs
  exact r_X12_lays (by decide) (fun F wk b0 b14 b31 b45 b50 b126 b132 => b0 _ _ _ _ _ _ (mq_t hs (br_u n10 (b14 _ _ _ _ _ _ (Exists.intro s (And.intro hs (And.intro rfl (br_v (by rw [q1, hw, nI_0]) (ma_finding hM (k := 5) (by decide) (by decide +kernel) kq)))))))))
theorem M_read1 {a b : Int32} {s h : Nat} {S : SG} {I : II} {J : JJ} {Q : QT} (hM : MI S I J) (hV : VS S) (hs : s < 4) (hh : h < S.1.2.1) (ea : a = nI s) (eb : b = nI h) (hw : ¬ S.2.2.2.2.1.1 s = nI 0) (kq : PM I J Q S (.int (rdv S.1.1 h (S.2.2.2.2.1.2.2 s) (szN S.2.2.2.2.1 s)))) : CT m_X12_read 0 [.ref 74, .int a, .int b] 90 al_R0 I J Q := by
  subst ea eb
  have h6 := hV.1.1
  have hB := hM.2.2.2.2.1
  have hsq := hM.1.1
  have hcd := hV.1.cdo
  obtain ⟨q1, q2, q3⟩ := hB s hs
  obtain ⟨z1, z2⟩ := hV.2.2.2.sz hs
  have p1 := hM.go kq
  refine r_X12_read (by decide) (fun F wk b0 b14 b31 b46 b48 b89 b93 b99 b117 b125 => b0 _ _ _ _ _ _ (mq_t hs (br_u n10 (b14 _ _ _ _ _ _ (Exists.intro s (And.intro hs (And.intro rfl (br_u (by rw [q1, ← nI_0]; exact hw) (b31 _ _ _ _ _ _ (mh_t h6 hM.1.2.2.2 hh (br_u n10 (b46 _ _ _ _ _ _ ?_))))))))))))
  generalize S.2.2.2.2.1.2.2 s = v at *
  generalize szN S.2.2.2.2.1 s = z at *
  rw [z2] at q2
  unfold rdv at p1
  have loop : ∀ d i : Nat, i + d = z → fnx (rdP S.1.1 h v) 0 z = fnx (rdP S.1.1 h v) i d → F 48 [some (.ref 74), some (.int (nI s)), some (.int (nI h)), some (.int (nI i)), none] [] 90 al_R0 I J := by
    intro d
    induction d with
    | zero =>
      intro i hi he
      obtain rfl : i = z := by omega
      rw [he, show fnx (rdP S.1.1 h v) i 0 = i from rfl, if_neg (by omega)] at p1
      have hl := ithc_le S.1.1 h i
      refine b48 _ _ _ _ _ _ (Exists.intro s (And.intro hs (And.intro rfl (br_t (by rw [q2]; exact nI_le (by omega) (by omega)) (b99 _ _ _ _ _ _ (Exists.intro s (And.intro hs (And.intro rfl ?_))))))))
      rw [q2]
      refine ma_ithOf hsq hcd (by omega) (by omega) ?_
      by_cases c : ithc S.1.1 h i < 81
      · rw [if_pos c] at p1 ⊢
        refine br_t (nI_pos' (by omega)) (b117 _ _ _ _ _ _ (Exists.intro s (And.intro hs (And.intro rfl ?_))))
        dsimp only [o_iload, o_lload, o_aload, o_istore, o_astore, o_lstore, o_iinc, o_ic, o_lc, o_sc, o_iadd, o_isub, o_imul, o_iand, o_ior, o_ixor, o_ishl, o_ishr, o_ladd, o_lsub, o_land, o_lor, o_lxor, o_lshl, o_lshr, o_i2l, o_l2i, o_lcmp, o_dup, o_dup2, o_pop, o_getI, o_getJ, o_getR, o_putI, o_putZ, o_putJ, o_iald, o_zald, o_lald, o_aald, o_iast, o_zast, o_last, o_alen, o_cpyI, o_cpyJ, o_iret, o_zret, o_lret, o_aret, o_vret, o_idiv, o_irem, o_ineg, o_ifeq, o_ifne, o_iflt, o_ifge, o_ifgt, o_ifle, o_iceq, o_icne, o_iclt, o_icge, o_icgt, o_icle, al_gL, al_sL, al_sJ, al_gd]
        rw [q2]
        exact b125 _ _ _ _ _ _ p1
      · rw [if_neg c] at p1 ⊢
        exact br_f (by decide +kernel) (b125 _ _ _ _ _ _ p1)
    | succ d ih =>
      intro i hi he
      have hl := ithc_le S.1.1 h i
      have h89 : ∀ o : Int32, rdP S.1.1 h v i = true → F 89 [some (.ref 74), some (.int (nI s)), some (.int (nI h)), some (.int (nI i)), some (.int o)] [] 90 al_R0 I J := fun o q => by
        rw [he, fnx_yes q, if_pos (by omega)] at p1
        exact b89 _ _ _ _ _ _ p1
      refine b48 _ _ _ _ _ _ (Exists.intro s (And.intro hs (And.intro rfl (br_f (by rw [q2]; exact nI_ge (by omega) (by omega)) (ma_ithOf hsq hcd (by omega) (by omega) ?_)))))
      by_cases c : ithc S.1.1 h i < 81
      · rw [if_pos c]
        refine br_f (nI_pos (by omega)) (Exists.intro (40 * s + i) (And.intro (by omega) (And.intro (by rw [pk_mul, nI_add]) ?_)))
        have e88 : J 88 (40 * s + i) = v i := q3 i (by omega)
        dsimp only [o_iload, o_lload, o_aload, o_istore, o_astore, o_lstore, o_iinc, o_ic, o_lc, o_sc, o_iadd, o_isub, o_imul, o_iand, o_ior, o_ixor, o_ishl, o_ishr, o_ladd, o_lsub, o_land, o_lor, o_lxor, o_lshl, o_lshr, o_i2l, o_l2i, o_lcmp, o_dup, o_dup2, o_pop, o_getI, o_getJ, o_getR, o_putI, o_putZ, o_putJ, o_iald, o_zald, o_lald, o_aald, o_iast, o_zast, o_last, o_alen, o_cpyI, o_cpyJ, o_iret, o_zret, o_lret, o_aret, o_vret, o_idiv, o_irem, o_ineg, o_ifeq, o_ifne, o_iflt, o_ifge, o_ifgt, o_ifle, o_iceq, o_icne, o_iclt, o_icge, o_icgt, o_icle, al_gL, al_sL, al_sJ, al_gd]
        rw [e88, nI_l (by omega)]
        refine And.intro (fun c4 => b93 _ _ _ _ _ _ ?_) (fun c4 => ?_)
        · rw [lg_cmp_eq] at c4
          have h10 := ih (i + 1) (by omega) (by rw [he, fnx_no (by simp [rdP, c4]; omega)])
          rw [nI_s i] at h10
          exact wk _ _ _ _ _ _ _ _ (by simp [al_le]) h10
        · rw [lg_cmp_eq] at c4
          exact h89 _ (by simp [rdP, c4])
      · rw [if_neg c]
        exact br_t m1_lt (h89 _ (by simp [rdP]; omega))
  exact loop z 0 (by omega) rfl
theorem M_read2 {a b : Int32} {S : SG} {I : II} {J : JJ} {Q : QT} (hM : MI S I J) (hV : VS S) (hg : ing 4 a ∨ ∃ s, s < 4 ∧ a = nI s ∧ ¬ S.2.2.2.2.1.1 s = nI 0 ∧ ing S.1.2.1 b) (kq : PM I J Q (fnd 0 S) (.int (-1000000001))) : CT m_X12_read 0 [.ref 74, .int a, .int b] 90 al_R0 I J Q := by
  have h6 := hV.1.1
  refine r_X12_read (by decide) (fun F wk b0 b14 b31 b46 b48 b89 b93 b99 b117 b125 => b0 _ _ _ _ _ _ ?_)
  rcases hg with g | ⟨s, hs, rfl, hw, g⟩
  · exact mq_f g (br_v nI_0 (ma_finding hM (k := 0) (by decide) (by decide +kernel) kq))
  · obtain ⟨q1, q2, q3⟩ := hM.2.2.2.2.1 s hs
    exact mq_t hs (br_u n10 (b14 _ _ _ _ _ _ (Exists.intro s (And.intro hs (And.intro rfl (br_u (by rw [q1, ← nI_0]; exact hw) (b31 _ _ _ _ _ _ (mh_f h6 hM.1.2.2.2 g (br_v nI_0 (ma_finding hM (k := 0) (by decide) (by decide +kernel) kq))))))))))
theorem M_read3 {a b : Int32} {s : Nat} {S : SG} {I : II} {J : JJ} {Q : QT} (hM : MI S I J) (hs : s < 4) (ea : a = nI s) (hw : S.2.2.2.2.1.1 s = nI 0) (kq : PM I J Q (fnd 5 S) (.int (-1000000006))) : CT m_X12_read 0 [.ref 74, .int a, .int b] 90 al_R0 I J Q := by
  subst ea
  obtain ⟨q1, q2, q3⟩ := hM.2.2.2.2.1 s hs
  exact r_X12_read (by decide) (fun F wk b0 b14 b31 b46 b48 b89 b93 b99 b117 b125 => b0 _ _ _ _ _ _ (mq_t hs (br_u n10 (b14 _ _ _ _ _ _ (Exists.intro s (And.intro hs (And.intro rfl (br_v (by rw [q1, hw, nI_0]) (ma_finding hM (k := 5) (by decide) (by decide +kernel) kq)))))))))
