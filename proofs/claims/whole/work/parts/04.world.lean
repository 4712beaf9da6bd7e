/-! WHAT HOLDS OF THE MACHINE: Strings, classes, locals, the world -/
def al_len : List Nat := [6, 6, 4, 4, 3, 7, 6, 4, 3, 4, 4, 2, 2]
def al_byt : List (List Int32) := [[103, 114, 111, 117, 110, 100], [115, 116, 114, 101, 101, 116], [115, 104, 101, 100], [116, 114, 101, 101], [108, 97, 119], [111, 117, 116, 119, 97, 114, 100], [115, 104, 97, 114, 101, 100], [100, 101, 97, 114], [111, 108, 100], [102, 114, 101, 101], [114, 105, 99, 104], [111, 110], [116, 111]]
def al_sr : List (String × Nat × String × Nat) := [("CornerTax$TownText", 48, "rich", 10), ("CornerTax$TownText", 102, "ground", 0), ("CornerTax$TownText", 104, "street", 1), ("CornerTax$TownText", 106, "shed", 2), ("CornerTax$TownText", 108, "tree", 3), ("CornerTax$Dear", 7, "dear", 7), ("CornerTax$Free", 7, "free", 9), ("CornerTax$Old", 7, "old", 8), ("CornerTax$Outward", 7, "outward", 5), ("CornerTax$Shared", 7, "shared", 6), ("CornerTax$Law", 7, "law", 4), ("CornerTax$TownText", 68, "on", 11), ("CornerTax$TownText", 87, "to", 12), ("CornerTaxModel", 35, "ground", 0), ("CornerTaxModel", 37, "street", 1), ("CornerTaxModel", 39, "shed", 2), ("CornerTaxModel", 41, "tree", 3), ("CornerTaxModel", 47, "law", 4), ("CornerTaxModel", 49, "outward", 5), ("CornerTaxModel", 51, "shared", 6), ("CornerTaxModel", 53, "dear", 7), ("CornerTaxModel", 55, "old", 8), ("CornerTaxModel", 57, "free", 9), ("CornerTaxModel", 270, "to", 12), ("CornerTaxModel", 287, "on", 11), ("CornerTaxModel", 289, "rich", 10)]
def al_Str (t : TH) (U : State) (H : Heap) : Prop := ∀ i, i < 13 → va_O "java/lang/String" (th_K t i) (al_A t) U H ∧ va_OF "java/lang/String" "coder" "B" (.int 0) (th_K t i) (al_A t) U H ∧ va_OF "java/lang/String" "value" "[B" (.ref (th_V t i)) (th_K t i) (al_A t) U H ∧ va_T .byte (th_V t i) (al_len.getD i 0) (fun j => .int ((al_byt.getD i []).getD j 0)) (al_A t) U H
def al_Ref (t : TH) (U : State) : Prop := ∀ q ∈ al_sr, vk_R q.1 q.2.1 q.2.2.1 (th_K t q.2.2.2) U
def al_lawN : List String := [RX5, RX6, RX0, RX4, RX1]
def al_arN : List String := [RX3, RX2, RX7, "java/lang/String"]
def al_St (t : TH) (U : State) (H : Heap) : Prop := va_K (th_D t) vwCl (al_tys t) U ∧ al_Str t U H ∧ al_Ref t U ∧ va_Z "java/lang/String" "COMPACT_STRINGS" "Z" (.int 1) (al_A t) U H ∧ (va_Z "jdk/internal/util/Preconditions" "SIOOBE_FORMATTER" "Ljava/util/function/BiFunction;" .null (al_A t) U H ∨ va_Z "jdk/internal/util/Preconditions" "SIOOBE_FORMATTER" "Ljava/util/function/BiFunction;" (.ref (th_f t)) (al_A t) U H) ∧ (∀ Cv ∈ al_lawN, va_Nw (.castable Cv RX3) U) ∧ ∀ Cn ∈ al_arN, va_AO Cn U
theorem al_St.kept {t : TH} {U : State} {H H1 : Heap} (h : al_St t U H) (hq : ∀ a : Nat, a < H.size → ¬ al_A t a → H1[a]? = H[a]?) : al_St t U H1 :=
  ⟨h.1, fun i hi => ⟨(h.2.1 i hi).1.kept hq, (h.2.1 i hi).2.1.kept hq, (h.2.1 i hi).2.2.1.kept hq, (h.2.1 i hi).2.2.2.kept hq⟩, h.2.2.1, h.2.2.2.1.kept hq, h.2.2.2.2.1.elim (fun q => Or.inl (q.kept hq)) (fun q => Or.inr (q.kept hq)), h.2.2.2.2.2⟩
theorem al_St.warm {t : TH} {s U : State} {H : Heap} (hW : s.WarmedH U.vm) (h : al_St t s H) : al_St t U H :=
  ⟨va_K.moved hW.alike h.1, fun i hi => ⟨va_O.moved hW.alike (h.2.1 i hi).1, va_OF.moved hW.alike (h.2.1 i hi).2.1, va_OF.moved hW.alike (h.2.1 i hi).2.2.1, va_T.moved hW.alike (h.2.1 i hi).2.2.2⟩, fun q hq => vk_R.warm hW (h.2.2.1 q hq), va_Z.moved hW.alike h.2.2.2.1, h.2.2.2.2.1.elim (fun q => Or.inl (va_Z.moved hW.alike q)) (fun q => Or.inr (va_Z.moved hW.alike q)), fun Cv hC => va_Nw.warmC hW (h.2.2.2.2.2.1 Cv hC), fun Cn hC => (h.2.2.2.2.2.2 Cn hC).moved hW.alike⟩
theorem al_St.same {t : TH} {s U : State} {H : Heap} (hv : U.vm = s.vm) (h : al_St t s H) : al_St t U H := by
  have ha : s.vm.Alike U.vm := by rw [hv]; exact Vm.Alike.refl _
  exact ⟨va_K.moved ha h.1, fun i hi => ⟨va_O.moved ha (h.2.1 i hi).1, va_OF.moved ha (h.2.1 i hi).2.1, va_OF.moved ha (h.2.1 i hi).2.2.1, va_T.moved ha (h.2.1 i hi).2.2.2⟩, fun q hq => vk_R.same hv (h.2.2.1 q hq), va_Z.moved ha h.2.2.2.1, h.2.2.2.2.1.elim (fun q => Or.inl (va_Z.moved ha q)) (fun q => Or.inr (va_Z.moved ha q)), fun Cv hC => va_Nw.same rfl hv.symm (h.2.2.2.2.2.1 Cv hC), fun Cn hC => (h.2.2.2.2.2.2 Cn hC).moved ha⟩
def al_Wd (t : TH) (n : Nat) (R : RR) (I : II) (J : JJ) (U : State) : Prop := (n < 90 → U.heap.size = th_b t + n) ∧ th_b t ≤ U.heap.size ∧ va_P (th_D t) vwCl (al_ws t n R I J) U.heap ∧ al_St t U U.heap
def al_pr (t : TH) : Nat → List (Option Value) → List (Nat × Value)
  | _, [] => []
  | k, none :: L => al_pr t (k + 1) L
  | k, some v :: L => (k, al_tr t v) :: al_pr t (k + 1) L
def al_rl (t : TH) (ls : Array Slot) (nL : Nat) (L : List (Option Value)) : Prop := lv_has ls nL (al_pr t 0 L)
theorem al_pr_get (t : TH) : ∀ (L : List (Option Value)) (k i : Nat) (v : Value), L[i]? = some (some v) → (k + i, al_tr t v) ∈ al_pr t k L
  | [], k, i, v, h => by simp at h
  | none :: L, k, 0, v, h => by simp at h
  | some w :: L, k, 0, v, h => by
    simp at h
    subst h
    exact List.mem_cons_self
  | none :: L, k, i + 1, v, h => by
    rw [List.getElem?_cons_succ] at h
    have := al_pr_get t L (k + 1) i v h
    rw [show k + (i + 1) = k + 1 + i by omega]
    exact this
  | some w :: L, k, i + 1, v, h => by
    rw [List.getElem?_cons_succ] at h
    have := al_pr_get t L (k + 1) i v h
    rw [show k + (i + 1) = k + 1 + i by omega]
    exact List.mem_cons_of_mem _ this
theorem al_pr_mem (t : TH) : ∀ (L : List (Option Value)) (k : Nat) (q : Nat × Value), q ∈ al_pr t k L → ∃ i v, L[i]? = some (some v) ∧ q = (k + i, al_tr t v)
  | [], k, q, h => by simp [al_pr] at h
  | none :: L, k, q, h => by
    obtain ⟨i, v, h1, h2⟩ := al_pr_mem t L (k + 1) q h
    exact ⟨i + 1, v, by rw [List.getElem?_cons_succ]; exact h1, by rw [h2, show k + 1 + i = k + (i + 1) by omega]⟩
  | some w :: L, k, q, h => by
    rcases List.mem_cons.mp h with rfl | h
    · exact ⟨0, w, rfl, rfl⟩
    · obtain ⟨i, v, h1, h2⟩ := al_pr_mem t L (k + 1) q h
      exact ⟨i + 1, v, by rw [List.getElem?_cons_succ]; exact h1, by rw [h2, show k + 1 + i = k + (i + 1) by omega]⟩
theorem al_rl.at {t : TH} {ls : Array Slot} {nL : Nat} {L : List (Option Value)} (h : al_rl t ls nL L) {i : Nat} {v : Value} (hi : L[i]? = some (some v)) : ls[i]? = some (.val (al_tr t v)) := by
  have := h.2.2 _ (al_pr_get t L 0 i v hi)
  simpa using this
theorem al_gL_of : ∀ {L : List (Option Value)} {i : Nat} {k : Value → Prop}, al_gL L i k → ∃ v, L[i]? = some (some v) ∧ k v
  | [], _, _, h => h.elim
  | none :: _, 0, _, h => h.elim
  | some v :: _, 0, _, h => ⟨v, rfl, h⟩
  | none :: L, i + 1, k, h => by
    obtain ⟨v, h1, h2⟩ := al_gL_of (L := L) (i := i) (k := k) h
    exact ⟨v, by rw [List.getElem?_cons_succ]; exact h1, h2⟩
  | some w :: L, i + 1, k, h => by
    obtain ⟨v, h1, h2⟩ := al_gL_of (L := L) (i := i) (k := k) h
    exact ⟨v, by rw [List.getElem?_cons_succ]; exact h1, h2⟩
theorem al_gd_of {a : Option Value} {i : Nat} {k : Option Value → Prop} (h : al_gd a i k) : ∃ a', k a' ∧ ∀ w, a' = some w → a = some w ∧ ¬ (i = 0 ∧ w.category = 2) := by
  cases i with
  | succ i => exact ⟨a, h, fun w hw => ⟨hw, by omega⟩⟩
  | zero =>
    cases a with
    | none => exact ⟨none, h, fun w hw => by cases hw⟩
    | some v =>
      cases v with
      | long x => exact ⟨none, h, fun w hw => by cases hw⟩
      | double x => exact ⟨none, h, fun w hw => by cases hw⟩
      | int x => exact ⟨_, h, fun w hw => by cases hw; exact ⟨rfl, by simp [Value.category]⟩⟩
      | float x => exact ⟨_, h, fun w hw => by cases hw; exact ⟨rfl, by simp [Value.category]⟩⟩
      | null => exact ⟨_, h, fun w hw => by cases hw; exact ⟨rfl, by simp [Value.category]⟩⟩
      | ref x => exact ⟨_, h, fun w hw => by cases hw; exact ⟨rfl, by simp [Value.category]⟩⟩
      | retAddr x => exact ⟨_, h, fun w hw => by cases hw; exact ⟨rfl, by simp [Value.category]⟩⟩
theorem al_sL_of : ∀ {L : List (Option Value)} {i : Nat} {v : Value} {k : List (Option Value) → Prop}, al_sL L i v k → ∃ L', k L' ∧ ∀ j w, L'[j]? = some (some w) → (j = i ∧ w = v) ∨ (j ≠ i ∧ L[j]? = some (some w) ∧ ¬ (j + 1 = i ∧ w.category = 2))
  | [], _, _, _, h => h.elim
  | a :: L, 0, v, k, h => by
    refine ⟨some v :: L, h, fun j w hj => ?_⟩
    cases j with
    | zero => simp at hj; exact Or.inl ⟨rfl, hj.symm⟩
    | succ j => exact Or.inr ⟨by omega, by rw [List.getElem?_cons_succ] at hj ⊢; exact hj, by omega⟩
  | a :: L, i + 1, v, k, h => by
    obtain ⟨a', h1, h2⟩ := al_gd_of (a := a) (i := i) (k := fun a' => al_sL L i v (fun L' => k (a' :: L'))) h
    obtain ⟨L', h3, h4⟩ := al_sL_of (L := L) (i := i) (v := v) (k := fun L' => k (a' :: L')) h1
    refine ⟨a' :: L', h3, fun j w hj => ?_⟩
    cases j with
    | zero =>
      simp at hj
      obtain ⟨e1, e2⟩ := h2 w hj
      exact Or.inr ⟨by omega, by rw [e1]; rfl, by rintro ⟨q1, q2⟩; exact e2 ⟨by omega, q2⟩⟩
    | succ j =>
      rw [List.getElem?_cons_succ] at hj
      rcases h4 j w hj with ⟨e1, e2⟩ | ⟨e1, e2, e3⟩
      · exact Or.inl ⟨by omega, e2⟩
      · exact Or.inr ⟨by omega, by rw [List.getElem?_cons_succ]; exact e2, by rintro ⟨q1, q2⟩; exact e3 ⟨by omega, q2⟩⟩
theorem al_sJ_of : ∀ {L : List (Option Value)} {i : Nat} {v : Value} {k : List (Option Value) → Prop}, al_sJ L i v k → ∃ L', k L' ∧ ∀ j w, L'[j]? = some (some w) → (j = i ∧ w = v) ∨ (j ≠ i ∧ j ≠ i + 1 ∧ L[j]? = some (some w) ∧ ¬ (j + 1 = i ∧ w.category = 2))
  | [], _, _, _, h => by simp [al_sJ] at h
  | [a], 0, v, k, h => by simp [al_sJ] at h
  | a :: b :: L, 0, v, k, h => by
    refine ⟨some v :: none :: L, h, fun j w hj => ?_⟩
    match j, hj with
    | 0, hj => simp at hj; exact Or.inl ⟨rfl, hj.symm⟩
    | 1, hj => simp at hj
    | j + 2, hj => exact Or.inr ⟨by omega, by omega, by rw [List.getElem?_cons_succ, List.getElem?_cons_succ] at hj ⊢; exact hj, by omega⟩
  | a :: L, i + 1, v, k, h => by
    obtain ⟨a', h1, h2⟩ := al_gd_of (a := a) (i := i) (k := fun a' => al_sJ L i v (fun L' => k (a' :: L'))) (by
      cases L with
      | nil => exact h
      | cons b L => exact h)
    obtain ⟨L', h3, h4⟩ := al_sJ_of (L := L) (i := i) (v := v) (k := fun L' => k (a' :: L')) h1
    refine ⟨a' :: L', h3, fun j w hj => ?_⟩
    cases j with
    | zero =>
      simp at hj
      obtain ⟨e1, e2⟩ := h2 w hj
      exact Or.inr ⟨by omega, by omega, by rw [e1]; rfl, by rintro ⟨q1, q2⟩; exact e2 ⟨by omega, q2⟩⟩
    | succ j =>
      rw [List.getElem?_cons_succ] at hj
      rcases h4 j w hj with ⟨e1, e2⟩ | ⟨e1, e0, e2, e3⟩
      · exact Or.inl ⟨by omega, e2⟩
      · exact Or.inr ⟨by omega, by omega, by rw [List.getElem?_cons_succ]; exact e2, by rintro ⟨q1, q2⟩; exact e3 ⟨by omega, q2⟩⟩
theorem al_rl.st1 {t : TH} {ls ls' : Array Slot} {nL i : Nat} {L L' : List (Option Value)} {v : Value} (hl : lv_has ls' nL ((i, al_tr t v) :: (al_pr t 0 L).filter (fun q => !(q.1 == i) && !(q.1 + 1 == i && q.2.category == 2)))) (h : ∀ j w, L'[j]? = some (some w) → (j = i ∧ w = v) ∨ (j ≠ i ∧ L[j]? = some (some w) ∧ ¬ (j + 1 = i ∧ w.category = 2))) : al_rl t ls' nL L' := by
  refine ⟨hl.1, hl.2.1, fun q hq => ?_⟩
  obtain ⟨j, w, h1, rfl⟩ := al_pr_mem t L' 0 q hq
  rcases h j w h1 with ⟨rfl, rfl⟩ | ⟨e1, e2, e3⟩
  · have := hl.2.2 _ List.mem_cons_self
    simpa using this
  · have h2 := al_pr_get t L 0 j w e2
    refine hl.2.2 _ (List.mem_cons_of_mem _ (List.mem_filter.mpr ⟨h2, ?_⟩))
    have e4 : (al_tr t w).category = w.category := al_tr_cat t w
    simp only [Nat.zero_add, e4]
    simp only [Bool.and_eq_true, Bool.not_eq_true', beq_eq_false_iff_ne, ne_eq, Bool.and_eq_false_iff]
    refine ⟨e1, ?_⟩
    by_cases q1 : j + 1 = i
    · exact Or.inr (fun q2 => e3 ⟨q1, q2⟩)
    · exact Or.inl q1
theorem al_rl.st2 {t : TH} {ls ls' : Array Slot} {nL i : Nat} {L L' : List (Option Value)} {v : Value} (hl : lv_has ls' nL ((i, al_tr t v) :: (al_pr t 0 L).filter (fun q => !(q.1 == i) && (!(q.1 == i + 1) && !(q.1 + 1 == i && q.2.category == 2))))) (h : ∀ j w, L'[j]? = some (some w) → (j = i ∧ w = v) ∨ (j ≠ i ∧ j ≠ i + 1 ∧ L[j]? = some (some w) ∧ ¬ (j + 1 = i ∧ w.category = 2))) : al_rl t ls' nL L' := by
  refine ⟨hl.1, hl.2.1, fun q hq => ?_⟩
  obtain ⟨j, w, h1, rfl⟩ := al_pr_mem t L' 0 q hq
  rcases h j w h1 with ⟨rfl, rfl⟩ | ⟨e1, e0, e2, e3⟩
  · have := hl.2.2 _ List.mem_cons_self
    simpa using this
  · have h2 := al_pr_get t L 0 j w e2
    refine hl.2.2 _ (List.mem_cons_of_mem _ (List.mem_filter.mpr ⟨h2, ?_⟩))
    have e4 : (al_tr t w).category = w.category := al_tr_cat t w
    simp only [Nat.zero_add, e4]
    simp only [Bool.and_eq_true, Bool.not_eq_true', beq_eq_false_iff_ne, ne_eq, Bool.and_eq_false_iff]
    refine ⟨e1, e0, ?_⟩
    by_cases q1 : j + 1 = i
    · exact Or.inr (fun q2 => e3 ⟨q1, q2⟩)
    · exact Or.inl q1
theorem al_le_of : ∀ {L' L : List (Option Value)}, al_le L' L → ∀ (j : Nat) (w : Value), L'[j]? = some (some w) → L[j]? = some (some w)
  | [], _, _, j, w, hj => by simp at hj
  | none :: L', [], h, _, _, _ => h.elim
  | some v :: L', [], h, _, _, _ => h.elim
  | none :: L', a :: L, h, 0, w, hj => by simp at hj
  | none :: L', a :: L, h, j + 1, w, hj => by
    rw [List.getElem?_cons_succ] at hj ⊢
    exact al_le_of (L' := L') (L := L) h j w hj
  | some v :: L', a :: L, h, 0, w, hj => by
    simp at hj
    subst hj
    rw [h.1]
    rfl
  | some v :: L', a :: L, h, j + 1, w, hj => by
    rw [List.getElem?_cons_succ] at hj ⊢
    exact al_le_of (L' := L') (L := L) h.2 j w hj
theorem al_rl.le {t : TH} {ls : Array Slot} {nL : Nat} {L L' : List (Option Value)} (h : al_rl t ls nL L) (hle : al_le L' L) : al_rl t ls nL L' := by
  refine ⟨h.1, h.2.1, fun q hq => ?_⟩
  obtain ⟨j, w, h1, rfl⟩ := al_pr_mem t L' 0 q hq
  exact h.2.2 _ (al_pr_get t L 0 j w (al_le_of hle j w h1))
theorem al_cs_eq (t : TH) : ∀ r : List Value, ((r.map (al_tr t)).map fun v => v.category).sum = al_cs r
  | [] => rfl
  | v :: r => by
    rw [List.map_cons, List.map_cons, List.sum_cons, al_cs_eq t r, al_tr_cat]
    cases v <;> rfl
theorem al_r8_of {r : List Value} {P : Prop} (h : al_r8 r P) : al_cs r ≤ 8 ∧ P := by
  unfold al_r8 at h
  cases e : Nat.ble (al_cs r) 8 with
  | true => rw [e] at h; exact ⟨Nat.le_of_ble_eq_true e, h⟩
  | false => rw [e] at h; exact h.elim
theorem al_rk_of {v : Option Nat} {k : Nat → Prop} (h : al_rk v k) : ∃ q, v = some q ∧ k q := by
  cases v with
  | none => exact h.elim
  | some q => exact ⟨q, rfl, h⟩
theorem al_pop_of : ∀ {m : Nat} {st acc : List Value} {k : List Value → List Value → Prop}, al_pop m st acc k → ∃ as r, st = as.reverse ++ r ∧ as.length = m ∧ k (as ++ acc) r
  | 0, st, acc, k, h => ⟨[], st, by simp, rfl, by simpa [al_pop] using h⟩
  | m + 1, [], acc, k, h => by simp [al_pop] at h
  | m + 1, v :: st, acc, k, h => by
    obtain ⟨as, r, h1, h2, h3⟩ := al_pop_of (m := m) (st := st) (acc := v :: acc) (k := k) h
    exact ⟨as ++ [v], r, by simp [h1], by simp [h2], by simpa using h3⟩
