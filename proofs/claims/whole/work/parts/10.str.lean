/-! OPERATIONS OF THE STRINGS' OWN METHODS; what never runs -/
def al_sv (q : Nat) : Prop := 3000 ≤ q ∧ q < 3013
def o_bad : KT := fun _ _ _ _ _ _ => False
def o_sV (k : KT) : KT := fun L st n R I J => match st with
  | .ref q :: r => al_st q ∧ k L (.ref (q + 1000) :: r) n R I J
  | _ => False
def o_sC (k : KT) : KT := fun L st n R I J => match st with
  | .ref q :: r => al_st q ∧ k L (.int 0 :: r) n R I J
  | _ => False
def o_bl (k : KT) : KT := fun L st n R I J => match st with
  | .ref q :: r => al_sv q ∧ k L (.int (nI (al_len.getD (q - 3000) 0)) :: r) n R I J
  | _ => False
def o_bb (k : KT) : KT := fun L st n R I J => match st with
  | .int i :: .ref q :: r => al_sv q ∧ ∃ j : Nat, j < al_len.getD (q - 3000) 0 ∧ i = nI j ∧ k L (.int ((al_byt.getD (q - 3000) []).getD j 0) :: r) n R I J
  | _ => False
def o_gC (k : KT) : KT := fun L st n R I J => k L (.int 1 :: st) n R I J
def o_gF (k : KT) : KT := fun L st n R I J => k L (.null :: st) n R I J ∧ k L (.ref 4000 :: st) n R I J
def o_nret (ty : FieldType) (Q : QT) : KT := fun _ st n R I J => match st with
  | [.int v] => narrow ty (.int v) = .int v ∧ Q (some (.int v)) n R I J
  | _ => False
theorem al_cast {s : State} {Cv Cn : String} (h : va_Nw (.castable Cv Cn) s) {comp c0 : ClassId} (e1 : s.vm.findClass Cn = some comp) (e2 : s.vm.findClass Cv = some c0) : s.vm.assignable c0 comp = true := by
  obtain ⟨c1, t1, f1, f2, f3⟩ := Cond.castable_spec h
  cases e2.symm.trans f1
  cases e1.symm.trans f2
  exact f3
theorem al_same {s : State} {Cn : String} {comp c0 : ClassId} (e1 : s.vm.findClass Cn = some comp) (e2 : s.vm.findClass Cn = some c0) : s.vm.assignable c0 comp = true := by
  cases e1.symm.trans e2
  exact va_asg _ _
theorem al_sv_of {q : Nat} (h : al_st q) : al_sv (q + 1000) := by
  obtain ⟨h1, h2⟩ := h
  exact ⟨by omega, by omega⟩
theorem al_sv_ad (t : TH) {q : Nat} (h : al_sv q) : al_ad t q = th_V t (q - 3000) ∧ q - 3000 < 13 := by
  obtain ⟨h1, h2⟩ := h
  refine ⟨?_, by omega⟩
  unfold al_ad
  rw [if_neg (by omega), if_neg (by omega), if_neg (by omega), if_pos (by omega)]
theorem al_len13 : ∀ i, i < 13 → al_len.getD i 0 < 2 ^ 31 := by decide +kernel
section ALG
variable {F : FT} {p : Program} {l : Launch} {e : Env} {s : State} {m : MethodId} {args : Array Value} {below : List Frame} {meth : Method} {c : Code} {Rm : Room} {cc : ByteArray} {nL : Nat} {own : String} {t : TH} {fr lo n0 ne : Nat} {Q0 : State → Prop} {k : KT} {pc : Nat}
theorem S_bad (pc : Nat) : al_Ok F o_bad pc := fun _ _ _ _ _ _ h => h.elim
theorem S_i2c (C : al_Cx F p l e s m args below meth c Rm cc nL own t fr lo n0 ne Q0) (hd : decode cc pc = .ok (.i2c, 1)) (h : al_Ok F k (pc + 1)) : al_Ok F (o_i2c k) pc := by
  obtain ⟨rfl, hx, hb, hml, hown, hts, hlk, hSt, hfr, hlo, hce, hsl, hne, h90, hsz⟩ := C
  intro L st n R I J hk H locs ls h1 h2 hz hP hS hL
  match st, hk with
  | .int x :: r, hk => exact lv_i2c hx hb hd rfl (h _ _ _ _ _ _ hk H locs ls h1 h2 hz hP hS hL)
theorem S_sV (C : al_Cx F p l e s m args below meth c Rm cc nL own t fr lo n0 ne Q0) {index : Nat} (hw : Cond.fieldLink own index "java/lang/String" "value" "[B" ∈ al_gt) (hd : decode cc pc = .ok (.getfield index, 3)) (h : al_Ok F k (pc + 3)) : al_Ok F (o_sV k) pc := by
  obtain ⟨rfl, hx, hb, hml, hown, hts, hlk, hSt, hfr, hlo, hce, hsl, hne, h90, hsz⟩ := C
  intro L st n R I J hk H locs ls h1 h2 hz hP hS hL
  match st, hk with
  | .ref q :: r, hk =>
    obtain ⟨hq, hk⟩ := hk
    obtain ⟨ea, h13⟩ := al_str_ad t hq
    obtain ⟨ev, -⟩ := al_sv_ad t (al_sv_of hq)
    have h9 := (h _ _ _ _ _ _ hk H locs ls h1 h2 hz hP hS hL)
    show W p l e Rm s m args below meth c H locs _ _ Q0 (F0 m pc ls (.ref (al_ad t q) :: r.map (al_tr t)))
    rw [ea]
    refine vk_getf (v := .ref (al_ad t (q + 1000))) hx hb (by rw [ev, Nat.add_sub_add_right q 1000 2000]; exact (hSt.2.1 _ h13).2.2.1) hS hown (hts _ hw) (fun _ h9 => h9) hd h9
theorem S_sC (C : al_Cx F p l e s m args below meth c Rm cc nL own t fr lo n0 ne Q0) {index : Nat} (hw : Cond.fieldLink own index "java/lang/String" "coder" "B" ∈ al_gt) (hd : decode cc pc = .ok (.getfield index, 3)) (h : al_Ok F k (pc + 3)) : al_Ok F (o_sC k) pc := by
  obtain ⟨rfl, hx, hb, hml, hown, hts, hlk, hSt, hfr, hlo, hce, hsl, hne, h90, hsz⟩ := C
  intro L st n R I J hk H locs ls h1 h2 hz hP hS hL
  match st, hk with
  | .ref q :: r, hk =>
    obtain ⟨hq, hk⟩ := hk
    obtain ⟨ea, h13⟩ := al_str_ad t hq
    show W p l e Rm s m args below meth c H locs _ _ Q0 (F0 m pc ls (.ref (al_ad t q) :: r.map (al_tr t)))
    rw [ea]
    exact vk_getf hx hb (hSt.2.1 _ h13).2.1 hS hown (hts _ hw) (fun _ h9 => h9) hd (h _ _ _ _ _ _ hk H locs ls h1 h2 hz hP hS hL)
theorem S_bl (C : al_Cx F p l e s m args below meth c Rm cc nL own t fr lo n0 ne Q0) (hd : decode cc pc = .ok (.arraylength, 1)) (h : al_Ok F k (pc + 1)) : al_Ok F (o_bl k) pc := by
  obtain ⟨rfl, hx, hb, hml, hown, hts, hlk, hSt, hfr, hlo, hce, hsl, hne, h90, hsz⟩ := C
  intro L st n R I J hk H locs ls h1 h2 hz hP hS hL
  match st, hk with
  | .ref q :: r, hk =>
    obtain ⟨hq, hk⟩ := hk
    obtain ⟨ea, h13⟩ := al_sv_ad t hq
    show W p l e Rm s m args below meth c H locs _ _ Q0 (F0 m pc ls (.ref (al_ad t q) :: r.map (al_tr t)))
    rw [ea]
    exact va_tlen hx hb (hSt.2.1 _ h13).2.2.2 hS rfl hd (h _ _ _ _ _ _ hk H locs ls h1 h2 hz hP hS hL)
theorem S_bb (C : al_Cx F p l e s m args below meth c Rm cc nL own t fr lo n0 ne Q0) (hd : decode cc pc = .ok (.baload, 1)) (h : al_Ok F k (pc + 1)) : al_Ok F (o_bb k) pc := by
  obtain ⟨rfl, hx, hb, hml, hown, hts, hlk, hSt, hfr, hlo, hce, hsl, hne, h90, hsz⟩ := C
  intro L st n R I J hk H locs ls h1 h2 hz hP hS hL
  match st, hk with
  | .int i :: .ref q :: r, hk =>
    obtain ⟨hq, j, hj, hi, hk⟩ := hk
    obtain ⟨ea, h13⟩ := al_sv_ad t hq
    obtain ⟨hin, hcl⟩ := al_in_of hi hj (al_len13 _ h13)
    show W p l e Rm s m args below meth c H locs _ _ Q0 (F0 m pc ls (.int i :: .ref (al_ad t q) :: r.map (al_tr t)))
    rw [ea]
    exact va_tb hx hb (hSt.2.1 _ h13).2.2.2 hS hin rfl hd (by rw [hcl]; exact (h _ _ _ _ _ _ hk H locs ls h1 h2 hz hP hS hL))
theorem S_gC (C : al_Cx F p l e s m args below meth c Rm cc nL own t fr lo n0 ne Q0) {index : Nat} (hw : Cond.fieldLink own index "java/lang/String" "COMPACT_STRINGS" "Z" ∈ al_gt) (hd : decode cc pc = .ok (.getstatic index, 3)) (h : al_Ok F k (pc + 3)) : al_Ok F (o_gC k) pc := by
  obtain ⟨rfl, hx, hb, hml, hown, hts, hlk, hSt, hfr, hlo, hce, hsl, hne, h90, hsz⟩ := C
  intro L st n R I J hk H locs ls h1 h2 hz hP hS hL
  exact va_gets hx hb hSt.2.2.2.1 hS hown (hts _ hw) (fun _ h9 => h9) hd (h _ _ _ _ _ _ hk H locs ls h1 h2 hz hP hS hL)
theorem S_gF (C : al_Cx F p l e s m args below meth c Rm cc nL own t fr lo n0 ne Q0) {index : Nat} (hw : Cond.fieldLink own index "jdk/internal/util/Preconditions" "SIOOBE_FORMATTER" "Ljava/util/function/BiFunction;" ∈ al_gt) (hd : decode cc pc = .ok (.getstatic index, 3)) (h : al_Ok F k (pc + 3)) : al_Ok F (o_gF k) pc := by
  obtain ⟨rfl, hx, hb, hml, hown, hts, hlk, hSt, hfr, hlo, hce, hsl, hne, h90, hsz⟩ := C
  intro L st n R I J hk H locs ls h1 h2 hz hP hS hL
  rcases hSt.2.2.2.2.1 with hq | hq
  · exact va_gets hx hb hq hS hown (hts _ hw) (fun _ h9 => h9) hd (h _ _ _ _ _ _ hk.1 H locs ls h1 h2 hz hP hS hL)
  · exact va_gets hx hb hq hS hown (hts _ hw) (fun _ h9 => h9) hd (h _ _ _ _ _ _ hk.2 H locs ls h1 h2 hz hP hS hL)
theorem S_nret (C : al_Cx F p l e s m args below meth c Rm cc nL own t fr lo ne ne Q0) {Q : QT} {ty : FieldType} (hQ : Q0 = MQ below (al_post t Q ne) args s (ne - ne) (al_sz ne - al_sz ne) (al_A t)) (hr : meth.sig.returnType = some ty) (hd : decode cc pc = .ok (.ireturn, 1)) : al_Ok F (o_nret ty Q) pc := by
  obtain ⟨rfl, hx, hb, hml, hown, hts, hlk, hSt, hfr, hlo, hce, hsl, hne, h90, hsz⟩ := C
  intro L st n R I J hk H locs ls h1 h2 hz hP hS hL
  obtain rfl : n = ne := by omega
  match st, hk with
  | [.int v], hk =>
    rw [hQ]
    obtain ⟨hv, hk⟩ := hk
    exact W.zret (ty := ty) hx hb hr hv (al_ret (v := some (.int v)) hSt hsz hz hP hS hk) hS.2.2 hd hlk
end ALG
