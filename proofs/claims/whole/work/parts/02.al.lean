/-! THE ABSTRACT MACHINE: states are numbers by place and slot (R: references, I: ints, J: longs); a place is the order of its making. -/
abbrev RR : Type := Nat → Nat → Option Nat
abbrev II : Type := Nat → Nat → Int32
abbrev JJ : Type := Nat → Nat → Int64
abbrev KT : Type := List (Option Value) → List Value → Nat → RR → II → JJ → Prop
abbrev QT : Type := Option Value → Nat → RR → II → JJ → Prop
abbrev FT : Type := Nat → KT
abbrev MD : Type := MethodName × ByteArray × Nat × Option FieldType × Nat × Nat
/-- base, classes' numbers and slots, array classes by kind, the Strings' addresses, their arrays', the script's, a formatter's -/
abbrev TH : Type := Nat × va_G × (Nat → ClassId) × (Nat → Nat) × (Nat → Nat) × Nat × Nat
def th_b (t : TH) : Nat := t.1
def th_D (t : TH) : va_G := t.2.1
def th_c (t : TH) : Nat → ClassId := t.2.2.1
def th_K (t : TH) : Nat → Nat := t.2.2.2.1
def th_V (t : TH) : Nat → Nat := t.2.2.2.2.1
def th_s (t : TH) : Nat := t.2.2.2.2.2.1
def th_f (t : TH) : Nat := t.2.2.2.2.2.2
def al_nth {α : Type} : List α → Nat → α → α
  | [], _, d => d
  | a :: _, 0, _ => a
  | _ :: l, i + 1, d => al_nth l i d
/-- the fields' sorts by class: 0 int, 1 long, 2 reference, 3 boolean -/
def al_ftT : List (List Nat) := [[], [], [0, 0, 0, 0, 2, 0], [], [], [], [], [0, 0, 2], [2, 2, 2, 2, 2, 2, 2, 0], [2, 2, 2, 0, 1, 1], [2, 2, 2, 0, 0, 0, 0, 0], [2, 2, 3, 2, 2, 2, 2, 2, 2], [2, 2, 3, 2, 2, 3, 0, 2, 2, 2, 0, 0, 0, 0, 0, 3, 2, 2, 2, 2, 0, 0, 2, 2, 2, 2]]
def al_ft (ci : Nat) : List Nat := al_nth al_ftT ci []
/-- what is made, in the order of its making: an object of a class, or an array of a sort (0 int, 1 long, 2 boolean, 3 Law, 4 House, 5 Sheet, 6 String) and its length -/
def al_town : List (Nat ⊕ (Nat × Nat)) := [.inl 9, .inr (0, 64), .inr (4, 6), .inl 2, .inr (0, 8), .inl 2, .inr (0, 8), .inl 2, .inr (0, 8), .inl 2, .inr (0, 8), .inl 2, .inr (0, 8), .inl 2, .inr (0, 8)]
def al_skT : List (Nat ⊕ (Nat × Nat)) := [.inl 11, .inr (3, 6), .inl 3, .inl 5, .inl 6, .inl 0, .inl 4, .inl 1,
  .inl 9, .inr (0, 64), .inr (4, 6), .inl 2, .inr (0, 8), .inl 2, .inr (0, 8), .inl 2, .inr (0, 8), .inl 2, .inr (0, 8), .inl 2, .inr (0, 8), .inl 2, .inr (0, 8),
  .inl 9, .inr (0, 64), .inr (4, 6), .inl 2, .inr (0, 8), .inl 2, .inr (0, 8), .inl 2, .inr (0, 8), .inl 2, .inr (0, 8), .inl 2, .inr (0, 8), .inl 2, .inr (0, 8),
  .inl 8, .inr (0, 81), .inr (0, 64), .inr (0, 64), .inr (1, 64), .inr (1, 64), .inr (0, 64),
  .inl 10,
  .inl 9, .inr (0, 64), .inr (4, 6), .inl 2, .inr (0, 8), .inl 2, .inr (0, 8), .inl 2, .inr (0, 8), .inl 2, .inr (0, 8), .inl 2, .inr (0, 8), .inl 2, .inr (0, 8),
  .inr (0, 120),
  .inr (5, 4), .inl 7, .inr (1, 40), .inl 7, .inr (1, 40), .inl 7, .inr (1, 40), .inl 7, .inr (1, 40),
  .inr (0, 7), .inr (0, 13), .inr (0, 13),
  .inl 12, .inr (0, 143), .inr (0, 143), .inr (0, 8), .inr (1, 81), .inr (0, 64), .inr (2, 81), .inr (0, 120), .inr (6, 4), .inr (6, 6), .inr (0, 360), .inr (1, 120), .inr (0, 4), .inr (0, 4), .inr (1, 160), .inr (1, 40)]
def al_sk (p : Nat) : Nat ⊕ (Nat × Nat) := al_nth al_skT p (.inl 100)
def al_szp (p : Nat) : Nat := match al_sk p with
  | .inl ci => (al_ft ci).length
  | .inr a => a.2
def al_sz : Nat → Nat
  | 0 => 0
  | n + 1 => al_sz n + al_szp n
def al_cls (n p : Nat) : Option Nat := match Nat.blt p n with
  | true => (match al_sk p with
    | .inl ci => some ci
    | .inr _ => none)
  | false => none
def al_ark (n p : Nat) : Option (Nat × Nat) := match Nat.blt p n with
  | true => (match al_sk p with
    | .inl _ => none
    | .inr a => some a)
  | false => none
def al_eqb (a b : Nat) (P : Prop) : Prop := match Nat.beq a b with
  | true => P
  | false => False
def al_isC (n p ci : Nat) (P : Prop) : Prop := match al_cls n p with
  | some c => al_eqb c ci P
  | none => False
def al_isA (n p ak : Nat) (P : Nat → Prop) : Prop := match al_ark n p with
  | some a => al_eqb a.1 ak (P a.2)
  | none => False
theorem al_eqb_of {a b : Nat} {P : Prop} (h : al_eqb a b P) : a = b ∧ P := by
  unfold al_eqb at h
  cases e : Nat.beq a b with
  | true => rw [e] at h; exact ⟨Nat.eq_of_beq_eq_true e, h⟩
  | false => rw [e] at h; exact h.elim
theorem al_eqb_in {a : Nat} {P : Prop} (h : P) : al_eqb a a P := by
  unfold al_eqb
  rw [show Nat.beq a a = true from Nat.beq_refl a]
  exact h
theorem al_isC_of {n p ci : Nat} {P : Prop} (h : al_isC n p ci P) : al_cls n p = some ci ∧ P := by
  unfold al_isC at h
  cases e : al_cls n p with
  | none => rw [e] at h; exact h.elim
  | some c =>
    rw [e] at h
    obtain ⟨e1, h2⟩ := al_eqb_of h
    exact ⟨by rw [e1], h2⟩
theorem al_isC_in {n p ci : Nat} {P : Prop} (h : al_cls n p = some ci) (hP : P) : al_isC n p ci P := by
  unfold al_isC
  rw [h]
  exact al_eqb_in hP
theorem al_isA_of {n p ak : Nat} {P : Nat → Prop} (h : al_isA n p ak P) : ∃ len, al_ark n p = some (ak, len) ∧ P len := by
  unfold al_isA at h
  cases e : al_ark n p with
  | none => rw [e] at h; exact h.elim
  | some a =>
    rw [e] at h
    obtain ⟨a1, len⟩ := a
    obtain ⟨h1, h2⟩ := al_eqb_of h
    dsimp only at h1 h2
    exact ⟨len, by rw [h1], h2⟩
theorem al_isA_in {n p ak len : Nat} {P : Nat → Prop} (h : al_ark n p = some (ak, len)) (hP : P len) : al_isA n p ak P := by
  unfold al_isA
  rw [h]
  exact al_eqb_in hP
theorem al_cls_of {n p ci : Nat} (h : al_cls n p = some ci) : p < n ∧ al_sk p = .inl ci := by
  unfold al_cls at h
  cases e : Nat.blt p n with
  | false => rw [e] at h; cases h
  | true =>
    rw [e] at h
    refine ⟨by simpa [Nat.blt_eq] using e, ?_⟩
    cases e2 : al_sk p with
    | inl c => rw [e2] at h; cases h; rfl
    | inr c => rw [e2] at h; cases h
theorem al_ark_of {n p : Nat} {a : Nat × Nat} (h : al_ark n p = some a) : p < n ∧ al_sk p = .inr a := by
  unfold al_ark at h
  cases e : Nat.blt p n with
  | false => rw [e] at h; cases h
  | true =>
    rw [e] at h
    refine ⟨by simpa [Nat.blt_eq] using e, ?_⟩
    cases e2 : al_sk p with
    | inl c => rw [e2] at h; cases h
    | inr c => rw [e2] at h; cases h; rfl
/-- addresses: places below 1000 lie from the base on; 1000 is the script; 2000 and on the Strings -/
def al_ad (t : TH) (k : Nat) : Nat := if k < 1000 then th_b t + k else if k = 1000 then th_s t else if k < 3000 then th_K t (k - 2000) else if k < 4000 then th_V t (k - 3000) else th_f t
def al_tr (t : TH) (v : Value) : Value := match v with
  | .ref k => .ref (al_ad t k)
  | .int x => .int x
  | .long x => .long x
  | .float x => .float x
  | .double x => .double x
  | .null => .null
  | .retAddr x => .retAddr x
theorem al_tr_cat (t : TH) (v : Value) : (al_tr t v).category = v.category := by cases v <;> rfl
def al_up {α : Type} (f : Nat → Nat → α) (p j : Nat) (v : α) : Nat → Nat → α := fun q r => if q = p then (if r = j then v else f q r) else f q r
theorem al_up_s {α : Type} {f : Nat → Nat → α} {p j : Nat} {v : α} : al_up f p j v p j = v := by simp [al_up]
theorem al_up_p {α : Type} {f : Nat → Nat → α} {p j q r : Nat} {v : α} (h : q ≠ p) : al_up f p j v q r = f q r := by simp [al_up, h]
theorem al_up_j {α : Type} {f : Nat → Nat → α} {p j q r : Nat} {v : α} (h : r ≠ j) : al_up f p j v q r = f q r := by simp [al_up, h]
theorem al_up_row {α : Type} {f : Nat → Nat → α} {p j q : Nat} {v : α} (h : q ≠ p) : al_up f p j v q = f q := by funext r; exact al_up_p h
/-- a value of a field -/
def al_fv (t : TH) (R : RR) (I : II) (J : JJ) (p ty k : Nat) : Value := match ty with
  | 1 => .long (J p k)
  | 2 => va_rf ((R p k).map (al_ad t))
  | _ => .int (I p k)
def al_fs (t : TH) (R : RR) (I : II) (J : JJ) (p : Nat) : List Nat → Nat → List Value
  | [], _ => []
  | y :: ys, k => al_fv t R I J p y k :: al_fs t R I J p ys (k + 1)
def al_ar (t : TH) (R : RR) (I : II) (J : JJ) (p ak len : Nat) : vp_A := (len, match ak with
  | 0 => .inl (I p)
  | 1 => .inr (.inl (J p))
  | 2 => .inl (I p)
  | _ => .inr (.inr (.inr (.inr (fun j => (R p j).map (al_ad t))))))
def al_ce (t : TH) (R : RR) (I : II) (J : JJ) (p : Nat) : va_E := match al_sk p with
  | .inl ci => .inr (ci, al_fs t R I J p (al_ft ci) 0)
  | .inr a => .inl (th_c t a.1, al_ar t R I J p a.1 a.2)
def al_ws (t : TH) (n : Nat) (R : RR) (I : II) (J : JJ) : va_W := (List.range n).map (fun p => (th_b t + p, al_ce t R I J p))
def al_A (t : TH) : Nat → Prop := fun q => th_b t ≤ q
def al_tys (t : TH) : List (ClassId × FieldType) := [(th_c t 0, .int), (th_c t 1, .long), (th_c t 2, .boolean), (th_c t 3, .object RX3), (th_c t 4, .object RX2), (th_c t 5, .object RX7), (th_c t 6, .object "java/lang/String")]
theorem al_fs_get (t : TH) (R : RR) (I : II) (J : JJ) (p : Nat) : ∀ (f : List Nat) (k j : Nat), (al_fs t R I J p f k)[j]? = (f[j]?).map (fun y => al_fv t R I J p y (k + j))
  | [], k, j => by simp [al_fs]
  | y :: ys, k, 0 => by simp [al_fs]
  | y :: ys, k, j + 1 => by
    rw [al_fs, List.getElem?_cons_succ, List.getElem?_cons_succ, al_fs_get t R I J p ys (k + 1) j, show k + 1 + j = k + (j + 1) by omega]
theorem al_fs_len (t : TH) (R : RR) (I : II) (J : JJ) (p : Nat) : ∀ (f : List Nat) (k : Nat), (al_fs t R I J p f k).length = f.length
  | [], _ => rfl
  | y :: ys, k => by simp [al_fs, al_fs_len t R I J p ys (k + 1)]
theorem al_ws_get (t : TH) (n : Nat) (R : RR) (I : II) (J : JJ) {p : Nat} (h : p < n) : (al_ws t n R I J)[p]? = some (th_b t + p, al_ce t R I J p) := by
  simp [al_ws, h]
theorem al_ws_some {t : TH} {n : Nat} {R : RR} {I : II} {J : JJ} {p : Nat} {q : Nat × va_E} (h : (al_ws t n R I J)[p]? = some q) : p < n ∧ q = (th_b t + p, al_ce t R I J p) := by
  unfold al_ws at h
  by_cases hp : p < n
  · rw [List.getElem?_map, List.getElem?_range hp] at h
    exact ⟨hp, (Option.some.inj h).symm⟩
  · rw [List.getElem?_eq_none (by simp; omega)] at h
    cases h
theorem al_ws_D (t : TH) (n : Nat) (R : RR) (I : II) (J : JJ) : va_D (al_A t) (al_ws t n R I J) := by
  refine ⟨fun i j p q hi hj e => ?_, fun k q hk => ?_⟩
  · obtain ⟨-, rfl⟩ := al_ws_some hi
    obtain ⟨-, rfl⟩ := al_ws_some hj
    dsimp only at e
    omega
  · obtain ⟨-, rfl⟩ := al_ws_some hk
    exact Nat.le_add_right _ _
theorem al_ws_set {t : TH} {n : Nat} {R R' : RR} {I I' : II} {J J' : JJ} {p : Nat} {x : va_E} (hp : p < n) (hx : al_ce t R' I' J' p = x) (ho : ∀ q, q ≠ p → al_ce t R' I' J' q = al_ce t R I J q) : (al_ws t n R I J).set p (th_b t + p, x) = al_ws t n R' I' J' := by
  apply List.ext_getElem?
  intro k
  by_cases hk : k = p
  · subst hk
    rw [List.getElem?_set_self (by simp [al_ws]; omega), al_ws_get _ _ _ _ _ hp, hx]
  · rw [List.getElem?_set_ne (Ne.symm hk)]
    by_cases hn : k < n
    · rw [al_ws_get _ _ _ _ _ hn, al_ws_get _ _ _ _ _ hn, ho k hk]
    · rw [List.getElem?_eq_none (by simp [al_ws]; omega), List.getElem?_eq_none (by simp [al_ws]; omega)]
/-- a field written: the list of the fields with it set -/
theorem al_fs_set {t : TH} {R R' : RR} {I I' : II} {J J' : JJ} {p : Nat} {v : Value} : ∀ {f : List Nat} {k j ty : Nat}, f[j]? = some ty → al_fv t R' I' J' p ty (k + j) = v → (∀ i y, i ≠ k + j → al_fv t R' I' J' p y i = al_fv t R I J p y i) → (al_fs t R I J p f k).set j v = al_fs t R' I' J' p f k := by
  intro f k j ty hj hv ho
  apply List.ext_getElem?
  intro i
  have hjl : j < f.length := (List.getElem?_eq_some_iff.mp hj).1
  by_cases hi : i = j
  · subst hi
    rw [List.getElem?_set_self (by rw [al_fs_len]; exact hjl), al_fs_get, hj]
    simp [hv]
  · rw [List.getElem?_set_ne (Ne.symm hi), al_fs_get, al_fs_get]
    congr 1
    funext y
    exact (ho (k + i) y (by omega)).symm
theorem al_fs_eq {t : TH} {R R' : RR} {I I' : II} {J J' : JJ} {p : Nat} (f : List Nat) (k : Nat) (hR : R' p = R p) (hI : I' p = I p) (hJ : J' p = J p) : al_fs t R' I' J' p f k = al_fs t R I J p f k := by
  apply List.ext_getElem?
  intro i
  rw [al_fs_get, al_fs_get]
  congr 1
  funext y
  simp only [al_fv, hR, hI, hJ]
theorem al_ce_eq {t : TH} {R R' : RR} {I I' : II} {J J' : JJ} {p : Nat} (hR : R' p = R p) (hI : I' p = I p) (hJ : J' p = J p) : al_ce t R' I' J' p = al_ce t R I J p := by
  unfold al_ce
  cases al_sk p with
  | inl ci => simp only [al_fs_eq (al_ft ci) 0 hR hI hJ]
  | inr a => simp only [al_ar, hR, hI, hJ]
