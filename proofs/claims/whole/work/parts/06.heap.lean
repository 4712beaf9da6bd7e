theorem al_cea {t : TH} {R : RR} {I : II} {J : JJ} {q : Nat} {ak len : Nat} (h : al_sk q = .inr (ak, len)) : al_ce t R I J q = .inl (th_c t ak, al_ar t R I J q ak len) := by simp only [al_ce, h]
theorem al_ceo {t : TH} {R : RR} {I : II} {J : JJ} {q : Nat} {ci : Nat} (h : al_sk q = .inl ci) : al_ce t R I J q = .inr (ci, al_fs t R I J q (al_ft ci) 0) := by simp only [al_ce, h]
theorem al_only {α : Type} {f : Nat → Nat → α} {q j : Nat} {v : α} : ∀ x, x ≠ q → al_up f q j v x = f x := fun _ h => al_up_row h
section ALB
variable {F : FT} {p : Program} {l : Launch} {e : Env} {s : State} {m : MethodId} {args : Array Value} {below : List Frame} {meth : Method} {c : Code} {Rm : Room} {cc : ByteArray} {nL : Nat} {own : String} {t : TH} {fr lo n0 ne : Nat} {Q0 : State → Prop} {k : KT} {pc : Nat}
/-- a field is written (not a final one) -/
theorem al_put {H : Heap} {locs : List Loc} {ls : Array Slot} {cells slots : Nat} {n : Nat} {R R' : RR} {I I' : II} {J J' : JJ} {rest : List Value} (hx : p.tables.exec = Jvm.exec) (hb : c.code = cc) {Cn : String} {T : u_T} {N ci index q j : Nat} (hts : ∀ w ∈ al_gt, w.before args s = true) (hin : ∀ w ∈ u_ws Cn T N, w ∈ al_gt) (ty0 : Nat → FieldType) (hty : ∀ k, k < N → parseFieldDescriptor (T k).2.2.1 = some (ty0 k)) (hnm : ∀ a, a < N → ∀ b, b < N → a ≠ b → (T a).2.1 ≠ (T b).2.1) (hown : s.vm.findClass own = some m.cls) (hK : va_K (th_D t) vwCl (al_tys t) s) (hP : va_P (th_D t) vwCl (al_ws t n R I J) H) (hS0 : va_S (al_A t) s.heap H locs) (hq : al_cls n q = some ci) (hc : vwCl[ci]? = some (Cn, T, N)) (hj : j < N) (hlink : Cond.fieldLink own index (T j).1 (T j).2.1 (T j).2.2.1 ∈ al_gt) (hfin : (T j).2.2.2 = false) {fty : FieldType} {v : Value} (hd0 : parseFieldDescriptor (T j).2.2.1 = some fty) (hn : narrow fty v = v) (hfit : fits fty v = true) (hl : j < (al_ft ci).length)
    (hset : (al_fs t R I J q (al_ft ci) 0).set j v = al_fs t R' I' J' q (al_ft ci) 0) (ho : ∀ x, x ≠ q → R' x = R x ∧ I' x = I x ∧ J' x = J x)
    (hdg : decode cc pc = .ok (.putfield index, 3)) (kk : ∀ (H1 : Heap) (locs1 : List Loc), H1.size = H.size → va_P (th_D t) vwCl (al_ws t n R' I' J') H1 → va_S (al_A t) s.heap H1 locs1 → W p l e Rm s m args below meth c H1 locs1 cells slots Q0 (F0 m (pc + 3) ls rest)) : W p l e Rm s m args below meth c H locs cells slots Q0 (F0 m pc ls (v :: .ref (th_b t + q) :: rest)) := by
  obtain ⟨hqn, hsk⟩ := al_cls_of hq
  have hap := va_apart (own := own) hts hin ty0 hty hnm hK hc
  obtain ⟨r, h1, cell, q1, q2, q3, q4⟩ := hP q _ (al_obj hq)
  have hr : r = (Cn, T, N) := Option.some.inj (h1.symm.trans hc)
  subst hr
  obtain ⟨hSl, hfc, kC, hkC, hkind⟩ := hK.1 ci _ hc
  obtain ⟨cf, kf, fi, f, hi, hsl⟩ := hSl j hj
  have hlay := hts _ (hin _ (u_in_lay hj))
  unfold u_lay at hlay
  rw [if_neg (by rw [hfin]; decide)] at hlay
  have hst := (u_facts hfc hkC (u_lays hts hin hj) hi).1
  have h6 := u_store hfc hkC hkind hlay hi hd0 hn hfit
  refine W.putK hx hb (f := f) ⟨hown, hts _ hlink, ⟨_, _, _, hi⟩, hst⟩ (by rw [q2]; exact h6) q1 q3 (by rw [hsl]; exact k2_hasslot (q4 j hj)) rfl rfl hdg fun H' e1 e2 e3 => ?_
  rw [hsl] at e1 ⊢
  refine kk H' _ e2 (al_upd hP hqn ?_ ho e3) (hS0.put e2 e3 (Nat.le_add_right _ _))
  rw [al_ceo hsk, ← hset]
  exact ⟨_, hc, t_OB.to (V := updV (vp_V (al_fs t R I J q (al_ft ci) 0)) j v) ⟨_, e1, q2, q3, t_set q4 hap hj v⟩ (fun j' _ => vp_updV_set (by rw [al_fs_len]; exact hl) v j')⟩
/-- a final field is written, in a constructor -/
theorem al_putF {H : Heap} {locs : List Loc} {ls : Array Slot} {cells slots : Nat} {n : Nat} {R R' : RR} {I I' : II} {J J' : JJ} {rest : List Value} (hx : p.tables.exec = Jvm.exec) (hb : c.code = cc) {Cn : String} {T : u_T} {N ci index q j : Nat} (hts : ∀ w ∈ al_gt, w.before args s = true) (hin : ∀ w ∈ u_ws Cn T N, w ∈ al_gt) (ty0 : Nat → FieldType) (hty : ∀ k, k < N → parseFieldDescriptor (T k).2.2.1 = some (ty0 k)) (hnm : ∀ a, a < N → ∀ b, b < N → a ≠ b → (T a).2.1 ≠ (T b).2.1) (hown : s.vm.findClass own = some m.cls) (hK : va_K (th_D t) vwCl (al_tys t) s) (hP : va_P (th_D t) vwCl (al_ws t n R I J) H) (hS0 : va_S (al_A t) s.heap H locs) (hq : al_cls n q = some ci) (hc : vwCl[ci]? = some (Cn, T, N)) (hj : j < N) (hlink : Cond.fieldLink own index (T j).1 (T j).2.1 (T j).2.2.1 ∈ al_gt) (hfin : (T j).2.2.2 = true) (hin2 : meth.name = "<init>") (hdecl : (T j).1 = own) {fty : FieldType} {v : Value} (hd0 : parseFieldDescriptor (T j).2.2.1 = some fty) (hn : narrow fty v = v) (hfit : fits fty v = true) (hl : j < (al_ft ci).length)
    (hset : (al_fs t R I J q (al_ft ci) 0).set j v = al_fs t R' I' J' q (al_ft ci) 0) (ho : ∀ x, x ≠ q → R' x = R x ∧ I' x = I x ∧ J' x = J x)
    (hdg : decode cc pc = .ok (.putfield index, 3)) (kk : ∀ (H1 : Heap) (locs1 : List Loc), H1.size = H.size → va_P (th_D t) vwCl (al_ws t n R' I' J') H1 → va_S (al_A t) s.heap H1 locs1 → W p l e Rm s m args below meth c H1 locs1 cells slots Q0 (F0 m (pc + 3) ls rest)) : W p l e Rm s m args below meth c H locs cells slots Q0 (F0 m pc ls (v :: .ref (th_b t + q) :: rest)) := by
  obtain ⟨hqn, hsk⟩ := al_cls_of hq
  have hap := va_apart (own := own) hts hin ty0 hty hnm hK hc
  obtain ⟨r, h1, cell, q1, q2, q3, q4⟩ := hP q _ (al_obj hq)
  have hr : r = (Cn, T, N) := Option.some.inj (h1.symm.trans hc)
  subst hr
  obtain ⟨hSl, hfc, kC, hkC, hkind⟩ := hK.1 ci _ hc
  obtain ⟨cf, kf, fi, f, hi, hsl⟩ := hSl j hj
  have hlay := hts _ (hin _ (u_in_lay hj))
  unfold u_lay at hlay
  rw [if_pos hfin] at hlay
  have hst := (u_facts hfc hkC (u_lays hts hin hj) hi).1
  have hcf : m.cls = cf := by
    obtain ⟨_, _, c', _, _, _, -, -, hf', -, -, -, hown2, -⟩ := Cond.laysFinal_spec hlay
    have e1 : c' = cf := by have := hi.symm.trans hf'; simp at this; exact this.1.symm
    rw [hdecl] at hown2
    rw [← e1]; exact Option.some.inj (hown.symm.trans hown2)
  have h6 := u_fits hfc hkC hkind (Or.inr hlay) hi hd0 hn hfit
  refine W.putFinK hx hb hown (hts _ hlink) hi hst hcf hin2 (by rw [q2]; exact h6) q1 q3 (by rw [hsl]; exact k2_hasslot (q4 j hj)) rfl rfl hdg fun H' e1 e2 e3 => ?_
  rw [hsl] at e1 ⊢
  refine kk H' _ e2 (al_upd hP hqn ?_ ho e3) (hS0.put e2 e3 (Nat.le_add_right _ _))
  rw [al_ceo hsk, ← hset]
  exact ⟨_, hc, t_OB.to (V := updV (vp_V (al_fs t R I J q (al_ft ci) 0)) j v) ⟨_, e1, q2, q3, t_set q4 hap hj v⟩ (fun j' _ => vp_updV_set (by rw [al_fs_len]; exact hl) v j')⟩
theorem S_getI (C : al_Cx F p l e s m args below meth c Rm cc nL own t fr lo n0 ne Q0) {Cn : String} {T : u_T} {N ci index j : Nat} (hin : ∀ w ∈ u_ws Cn T N, w ∈ al_gt) (hc : vwCl[ci]? = some (Cn, T, N)) (hj : j < N) (hf : (al_ft ci)[j]? = some 0) (hw : Cond.fieldLink own index (T j).1 (T j).2.1 (T j).2.2.1 ∈ al_gt) (hd : decode cc pc = .ok (.getfield index, 3)) (h : al_Ok F k (pc + 3)) : al_Ok F (o_getI ci j k) pc := by
  obtain ⟨rfl, hx, hb, hml, hown, hts, hlk, hSt, hfr, hlo, hce, hsl, hne, h90, hsz⟩ := C
  intro L st n R I J hk H locs ls h1 h2 hz hP hS hL
  match st, hk with
  | .ref q :: r, hk =>
    obtain ⟨hq, hk⟩ := al_isC_of hk
    have ea := al_adp t (al_cls_of hq).1 (Nat.le_trans h2 h90)
    show W p l e Rm s m args below meth c H locs _ _ Q0 (F0 m pc ls (.ref (al_ad t q) :: r.map (al_tr t)))
    rw [ea]
    exact va_get (D := th_D t) (ref := (T j).1) (v := .int (I q j)) hx hb hts hin hown hSt.1 hP q (al_obj hq) hc j hj (hts _ hw) (fun _ h9 => h9) (by rw [al_fs_get, hf, Nat.zero_add]; rfl) hd (h _ _ _ _ _ _ hk H locs ls h1 h2 hz hP hS hL)
theorem S_getZ (C : al_Cx F p l e s m args below meth c Rm cc nL own t fr lo n0 ne Q0) {Cn : String} {T : u_T} {N ci index j : Nat} (hin : ∀ w ∈ u_ws Cn T N, w ∈ al_gt) (hc : vwCl[ci]? = some (Cn, T, N)) (hj : j < N) (hf : (al_ft ci)[j]? = some 3) (hw : Cond.fieldLink own index (T j).1 (T j).2.1 (T j).2.2.1 ∈ al_gt) (hd : decode cc pc = .ok (.getfield index, 3)) (h : al_Ok F k (pc + 3)) : al_Ok F (o_getI ci j k) pc := by
  obtain ⟨rfl, hx, hb, hml, hown, hts, hlk, hSt, hfr, hlo, hce, hsl, hne, h90, hsz⟩ := C
  intro L st n R I J hk H locs ls h1 h2 hz hP hS hL
  match st, hk with
  | .ref q :: r, hk =>
    obtain ⟨hq, hk⟩ := al_isC_of hk
    have ea := al_adp t (al_cls_of hq).1 (Nat.le_trans h2 h90)
    show W p l e Rm s m args below meth c H locs _ _ Q0 (F0 m pc ls (.ref (al_ad t q) :: r.map (al_tr t)))
    rw [ea]
    exact va_get (D := th_D t) (ref := (T j).1) (v := .int (I q j)) hx hb hts hin hown hSt.1 hP q (al_obj hq) hc j hj (hts _ hw) (fun _ h9 => h9) (by rw [al_fs_get, hf, Nat.zero_add]; rfl) hd (h _ _ _ _ _ _ hk H locs ls h1 h2 hz hP hS hL)
theorem S_getJ (C : al_Cx F p l e s m args below meth c Rm cc nL own t fr lo n0 ne Q0) {Cn : String} {T : u_T} {N ci index j : Nat} (hin : ∀ w ∈ u_ws Cn T N, w ∈ al_gt) (hc : vwCl[ci]? = some (Cn, T, N)) (hj : j < N) (hf : (al_ft ci)[j]? = some 1) (hw : Cond.fieldLink own index (T j).1 (T j).2.1 (T j).2.2.1 ∈ al_gt) (hd : decode cc pc = .ok (.getfield index, 3)) (h : al_Ok F k (pc + 3)) : al_Ok F (o_getJ ci j k) pc := by
  obtain ⟨rfl, hx, hb, hml, hown, hts, hlk, hSt, hfr, hlo, hce, hsl, hne, h90, hsz⟩ := C
  intro L st n R I J hk H locs ls h1 h2 hz hP hS hL
  match st, hk with
  | .ref q :: r, hk =>
    obtain ⟨hq, hk⟩ := al_isC_of hk
    have ea := al_adp t (al_cls_of hq).1 (Nat.le_trans h2 h90)
    show W p l e Rm s m args below meth c H locs _ _ Q0 (F0 m pc ls (.ref (al_ad t q) :: r.map (al_tr t)))
    rw [ea]
    exact va_get (D := th_D t) (ref := (T j).1) (v := .long (J q j)) hx hb hts hin hown hSt.1 hP q (al_obj hq) hc j hj (hts _ hw) (fun _ h9 => h9) (by rw [al_fs_get, hf, Nat.zero_add]; rfl) hd (h _ _ _ _ _ _ hk H locs ls h1 h2 hz hP hS hL)
theorem S_getR (C : al_Cx F p l e s m args below meth c Rm cc nL own t fr lo n0 ne Q0) {Cn : String} {T : u_T} {N ci index j : Nat} (hin : ∀ w ∈ u_ws Cn T N, w ∈ al_gt) (hc : vwCl[ci]? = some (Cn, T, N)) (hj : j < N) (hf : (al_ft ci)[j]? = some 2) (hw : Cond.fieldLink own index (T j).1 (T j).2.1 (T j).2.2.1 ∈ al_gt) (hd : decode cc pc = .ok (.getfield index, 3)) (h : al_Ok F k (pc + 3)) : al_Ok F (o_getR ci j k) pc := by
  obtain ⟨rfl, hx, hb, hml, hown, hts, hlk, hSt, hfr, hlo, hce, hsl, hne, h90, hsz⟩ := C
  intro L st n R I J hk H locs ls h1 h2 hz hP hS hL
  match st, hk with
  | .ref q :: r, hk =>
    obtain ⟨hq, hk⟩ := al_isC_of hk
    obtain ⟨q2, hR, hk⟩ := al_rk_of hk
    have ea := al_adp t (al_cls_of hq).1 (Nat.le_trans h2 h90)
    show W p l e Rm s m args below meth c H locs _ _ Q0 (F0 m pc ls (.ref (al_ad t q) :: r.map (al_tr t)))
    rw [ea]
    exact va_get (D := th_D t) (ref := (T j).1) (v := .ref (al_ad t q2)) hx hb hts hin hown hSt.1 hP q (al_obj hq) hc j hj (hts _ hw) (fun _ h9 => h9) (by rw [al_fs_get, hf, Nat.zero_add]; show some (va_rf ((R q j).map (al_ad t))) = _; rw [hR]; rfl) hd (h _ _ _ _ _ _ hk H locs ls h1 h2 hz hP hS hL)
theorem S_putI (C : al_Cx F p l e s m args below meth c Rm cc nL own t fr lo n0 ne Q0) {Cn : String} {T : u_T} {N ci index j : Nat} (hin : ∀ w ∈ u_ws Cn T N, w ∈ al_gt) (hc : vwCl[ci]? = some (Cn, T, N)) (hj : j < N) (ty0 : Nat → FieldType) (hty : ∀ k, k < N → parseFieldDescriptor (T k).2.2.1 = some (ty0 k)) (hnm : ∀ a, a < N → ∀ b, b < N → a ≠ b → (T a).2.1 ≠ (T b).2.1) (hf : (al_ft ci)[j]? = some 0) (hfin : (T j).2.2.2 = false) (hd0 : parseFieldDescriptor (T j).2.2.1 = some .int) (hw : Cond.fieldLink own index (T j).1 (T j).2.1 (T j).2.2.1 ∈ al_gt) (hd : decode cc pc = .ok (.putfield index, 3)) (h : al_Ok F k (pc + 3)) : al_Ok F (o_putI ci j k) pc := by
  obtain ⟨rfl, hx, hb, hml, hown, hts, hlk, hSt, hfr, hlo, hce, hsl, hne, h90, hsz⟩ := C
  intro L st n R I J hk H locs ls h1 h2 hz hP hS hL
  match st, hk with
  | .int v :: .ref q :: r, hk =>
    obtain ⟨hq, hk⟩ := al_isC_of hk
    have ea := al_adp t (al_cls_of hq).1 (Nat.le_trans h2 h90)
    show W p l e Rm s m args below meth c H locs _ _ Q0 (F0 m pc ls (.int v :: .ref (al_ad t q) :: r.map (al_tr t)))
    rw [ea]
    refine al_put (R' := R) (I' := al_up I q j v) (J' := J) (v := .int v) hx hb hts hin ty0 hty hnm hown hSt.1 hP hS hq hc hj hw hfin hd0 rfl rfl (List.getElem?_eq_some_iff.mp hf).1 (al_fs_set hf ?_ ?_) (fun x hx9 => ⟨rfl, al_up_row hx9, rfl⟩) hd (fun H1 locs1 z hP hS => h _ _ _ _ _ _ hk H1 locs1 ls h1 h2 (fun h9 => z.trans (hz h9)) hP hS hL)
    · show Value.int (al_up _ q j v q (0 + j)) = _
      rw [Nat.zero_add, al_up_s]
    · intro i y hi
      rw [Nat.zero_add] at hi
      simp only [al_fv, al_up_j hi]
theorem S_putZ (C : al_Cx F p l e s m args below meth c Rm cc nL own t fr lo n0 ne Q0) {Cn : String} {T : u_T} {N ci index j : Nat} (hin : ∀ w ∈ u_ws Cn T N, w ∈ al_gt) (hc : vwCl[ci]? = some (Cn, T, N)) (hj : j < N) (ty0 : Nat → FieldType) (hty : ∀ k, k < N → parseFieldDescriptor (T k).2.2.1 = some (ty0 k)) (hnm : ∀ a, a < N → ∀ b, b < N → a ≠ b → (T a).2.1 ≠ (T b).2.1) (hf : (al_ft ci)[j]? = some 3) (hfin : (T j).2.2.2 = false) (hd0 : parseFieldDescriptor (T j).2.2.1 = some .boolean) (hw : Cond.fieldLink own index (T j).1 (T j).2.1 (T j).2.2.1 ∈ al_gt) (hd : decode cc pc = .ok (.putfield index, 3)) (h : al_Ok F k (pc + 3)) : al_Ok F (o_putZ ci j k) pc := by
  obtain ⟨rfl, hx, hb, hml, hown, hts, hlk, hSt, hfr, hlo, hce, hsl, hne, h90, hsz⟩ := C
  intro L st n R I J hk H locs ls h1 h2 hz hP hS hL
  match st, hk with
  | .int v :: .ref q :: r, hk =>
    obtain ⟨hq, hk⟩ := al_isC_of hk
    obtain ⟨hv, hk⟩ := hk
    have ea := al_adp t (al_cls_of hq).1 (Nat.le_trans h2 h90)
    show W p l e Rm s m args below meth c H locs _ _ Q0 (F0 m pc ls (.int v :: .ref (al_ad t q) :: r.map (al_tr t)))
    rw [ea]
    refine al_put (R' := R) (I' := al_up I q j v) (J' := J) (v := .int v) hx hb hts hin ty0 hty hnm hown hSt.1 hP hS hq hc hj hw hfin hd0 (by rcases hv with rfl | rfl <;> rfl) (by rcases hv with rfl | rfl <;> rfl) (List.getElem?_eq_some_iff.mp hf).1 (al_fs_set hf ?_ ?_) (fun x hx9 => ⟨rfl, al_up_row hx9, rfl⟩) hd (fun H1 locs1 z hP hS => h _ _ _ _ _ _ hk H1 locs1 ls h1 h2 (fun h9 => z.trans (hz h9)) hP hS hL)
    · show Value.int (al_up _ q j v q (0 + j)) = _
      rw [Nat.zero_add, al_up_s]
    · intro i y hi
      rw [Nat.zero_add] at hi
      simp only [al_fv, al_up_j hi]
theorem S_putJ (C : al_Cx F p l e s m args below meth c Rm cc nL own t fr lo n0 ne Q0) {Cn : String} {T : u_T} {N ci index j : Nat} (hin : ∀ w ∈ u_ws Cn T N, w ∈ al_gt) (hc : vwCl[ci]? = some (Cn, T, N)) (hj : j < N) (ty0 : Nat → FieldType) (hty : ∀ k, k < N → parseFieldDescriptor (T k).2.2.1 = some (ty0 k)) (hnm : ∀ a, a < N → ∀ b, b < N → a ≠ b → (T a).2.1 ≠ (T b).2.1) (hf : (al_ft ci)[j]? = some 1) (hfin : (T j).2.2.2 = false) (hd0 : parseFieldDescriptor (T j).2.2.1 = some .long) (hw : Cond.fieldLink own index (T j).1 (T j).2.1 (T j).2.2.1 ∈ al_gt) (hd : decode cc pc = .ok (.putfield index, 3)) (h : al_Ok F k (pc + 3)) : al_Ok F (o_putJ ci j k) pc := by
  obtain ⟨rfl, hx, hb, hml, hown, hts, hlk, hSt, hfr, hlo, hce, hsl, hne, h90, hsz⟩ := C
  intro L st n R I J hk H locs ls h1 h2 hz hP hS hL
  match st, hk with
  | .long v :: .ref q :: r, hk =>
    obtain ⟨hq, hk⟩ := al_isC_of hk
    have ea := al_adp t (al_cls_of hq).1 (Nat.le_trans h2 h90)
    show W p l e Rm s m args below meth c H locs _ _ Q0 (F0 m pc ls (.long v :: .ref (al_ad t q) :: r.map (al_tr t)))
    rw [ea]
    refine al_put (R' := R) (I' := I) (J' := al_up J q j v) (v := .long v) hx hb hts hin ty0 hty hnm hown hSt.1 hP hS hq hc hj hw hfin hd0 rfl rfl (List.getElem?_eq_some_iff.mp hf).1 (al_fs_set hf ?_ ?_) (fun x hx9 => ⟨rfl, rfl, al_up_row hx9⟩) hd (fun H1 locs1 z hP hS => h _ _ _ _ _ _ hk H1 locs1 ls h1 h2 (fun h9 => z.trans (hz h9)) hP hS hL)
    · show Value.long (al_up _ q j v q (0 + j)) = _
      rw [Nat.zero_add, al_up_s]
    · intro i y hi
      rw [Nat.zero_add] at hi
      simp only [al_fv, al_up_j hi]
theorem S_putR (C : al_Cx F p l e s m args below meth c Rm cc nL own t fr lo n0 ne Q0) {Cn : String} {T : u_T} {N ci index j : Nat} (hin : ∀ w ∈ u_ws Cn T N, w ∈ al_gt) (hc : vwCl[ci]? = some (Cn, T, N)) (hj : j < N) (ty0 : Nat → FieldType) (hty : ∀ k, k < N → parseFieldDescriptor (T k).2.2.1 = some (ty0 k)) (hnm : ∀ a, a < N → ∀ b, b < N → a ≠ b → (T a).2.1 ≠ (T b).2.1) {fty : FieldType} (hf : (al_ft ci)[j]? = some 2) (hfin : (T j).2.2.2 = true) (hd0 : parseFieldDescriptor (T j).2.2.1 = some fty) (hft : (∃ nm, fty = .object nm) ∨ ∃ ft, fty = .array ft) (hi0 : meth.name = "<init>") (hdecl : (T j).1 = own) (hw : Cond.fieldLink own index (T j).1 (T j).2.1 (T j).2.2.1 ∈ al_gt) (hd : decode cc pc = .ok (.putfield index, 3)) (h : al_Ok F k (pc + 3)) : al_Ok F (o_putR ci j k) pc := by
  obtain ⟨rfl, hx, hb, hml, hown, hts, hlk, hSt, hfr, hlo, hce, hsl, hne, h90, hsz⟩ := C
  intro L st n R I J hk H locs ls h1 h2 hz hP hS hL
  match st, hk with
  | .ref v :: .ref q :: r, hk =>
    obtain ⟨hq, hk⟩ := al_isC_of hk
    have ea := al_adp t (al_cls_of hq).1 (Nat.le_trans h2 h90)
    show W p l e Rm s m args below meth c H locs _ _ Q0 (F0 m pc ls (.ref (al_ad t v) :: .ref (al_ad t q) :: r.map (al_tr t)))
    rw [ea]
    refine al_putF (R' := al_up R q j (some v)) (I' := I) (J' := J) (v := .ref (al_ad t v)) hx hb hts hin ty0 hty hnm hown hSt.1 hP hS hq hc hj hw hfin hi0 hdecl hd0 (by rcases hft with ⟨nm, rfl⟩ | ⟨ft, rfl⟩ <;> rfl) (by rcases hft with ⟨nm, rfl⟩ | ⟨ft, rfl⟩ <;> rfl) (List.getElem?_eq_some_iff.mp hf).1 (al_fs_set hf ?_ ?_) (fun x hx9 => ⟨al_up_row hx9, rfl, rfl⟩) hd (fun H1 locs1 z hP hS => h _ _ _ _ _ _ hk H1 locs1 ls h1 h2 (fun h9 => z.trans (hz h9)) hP hS hL)
    · show va_rf ((al_up R q j (some v) q (0 + j)).map (al_ad t)) = _
      rw [Nat.zero_add, al_up_s]
      rfl
    · intro i y hi
      rw [Nat.zero_add] at hi
      simp only [al_fv, al_up_j hi]
theorem S_iald (C : al_Cx F p l e s m args below meth c Rm cc nL own t fr lo n0 ne Q0) (hd : decode cc pc = .ok (.iaload, 1)) (h : al_Ok F k (pc + 1)) : al_Ok F (o_iald k) pc := by
  obtain ⟨rfl, hx, hb, hml, hown, hts, hlk, hSt, hfr, hlo, hce, hsl, hne, h90, hsz⟩ := C
  intro L st n R I J hk H locs ls h1 h2 hz hP hS hL
  match st, hk with
  | .int i :: .ref q :: r, hk =>
    dsimp only [o_iald] at hk
    obtain ⟨len, hq, j, hj, hi, hk⟩ := al_isA_of hk
    obtain ⟨hin, hcl⟩ := al_in_of hi hj (al_len_lt hq (Nat.le_trans h2 h90))
    have ea := al_adp t (al_ark_of hq).1 (Nat.le_trans h2 h90)
    show W p l e Rm s m args below meth c H locs _ _ Q0 (F0 m pc ls (.int i :: .ref (al_ad t q) :: r.map (al_tr t)))
    rw [ea]
    exact va_iald hx hb hSt.1 hP q 0 (al_arr hq) rfl hin hd (by rw [hcl]; exact (h _ _ _ _ _ _ hk H locs ls h1 h2 hz hP hS hL))
theorem S_zald (C : al_Cx F p l e s m args below meth c Rm cc nL own t fr lo n0 ne Q0) (hd : decode cc pc = .ok (.baload, 1)) (h : al_Ok F k (pc + 1)) : al_Ok F (o_zald k) pc := by
  obtain ⟨rfl, hx, hb, hml, hown, hts, hlk, hSt, hfr, hlo, hce, hsl, hne, h90, hsz⟩ := C
  intro L st n R I J hk H locs ls h1 h2 hz hP hS hL
  match st, hk with
  | .int i :: .ref q :: r, hk =>
    dsimp only [o_zald] at hk
    obtain ⟨len, hq, j, hj, hi, hk⟩ := al_isA_of hk
    obtain ⟨hin, hcl⟩ := al_in_of hi hj (al_len_lt hq (Nat.le_trans h2 h90))
    have ea := al_adp t (al_ark_of hq).1 (Nat.le_trans h2 h90)
    show W p l e Rm s m args below meth c H locs _ _ Q0 (F0 m pc ls (.int i :: .ref (al_ad t q) :: r.map (al_tr t)))
    rw [ea]
    exact va_zald hx hb hSt.1 hP q 2 (al_arr hq) rfl hin hd (by rw [hcl]; exact (h _ _ _ _ _ _ hk H locs ls h1 h2 hz hP hS hL))
theorem S_lald (C : al_Cx F p l e s m args below meth c Rm cc nL own t fr lo n0 ne Q0) (hd : decode cc pc = .ok (.laload, 1)) (h : al_Ok F k (pc + 1)) : al_Ok F (o_lald k) pc := by
  obtain ⟨rfl, hx, hb, hml, hown, hts, hlk, hSt, hfr, hlo, hce, hsl, hne, h90, hsz⟩ := C
  intro L st n R I J hk H locs ls h1 h2 hz hP hS hL
  match st, hk with
  | .int i :: .ref q :: r, hk =>
    dsimp only [o_lald] at hk
    obtain ⟨len, hq, j, hj, hi, hk⟩ := al_isA_of hk
    obtain ⟨hin, hcl⟩ := al_in_of hi hj (al_len_lt hq (Nat.le_trans h2 h90))
    have ea := al_adp t (al_ark_of hq).1 (Nat.le_trans h2 h90)
    show W p l e Rm s m args below meth c H locs _ _ Q0 (F0 m pc ls (.int i :: .ref (al_ad t q) :: r.map (al_tr t)))
    rw [ea]
    exact va_lald hx hb hSt.1 hP q 1 (al_arr hq) rfl hin hd (by rw [hcl]; exact (h _ _ _ _ _ _ hk H locs ls h1 h2 hz hP hS hL))
theorem S_aald (C : al_Cx F p l e s m args below meth c Rm cc nL own t fr lo n0 ne Q0) {ak : Nat} {Cn : String} (hak : ∀ (t : TH) (R : RR) (I : II) (J : JJ) (q len : Nat), al_ar t R I J q ak len = (len, .inr (.inr (.inr (.inr (fun j => (R q j).map (al_ad t))))))) (hty : ∀ t : TH, (al_tys t)[ak]? = some (th_c t ak, .object Cn)) (hd : decode cc pc = .ok (.aaload, 1)) (h : al_Ok F k (pc + 1)) : al_Ok F (o_aald ak k) pc := by
  obtain ⟨rfl, hx, hb, hml, hown, hts, hlk, hSt, hfr, hlo, hce, hsl, hne, h90, hsz⟩ := C
  intro L st n R I J hk H locs ls h1 h2 hz hP hS hL
  match st, hk with
  | .int i :: .ref q :: r, hk =>
    dsimp only [o_aald] at hk
    obtain ⟨len, hq, j, hj, hi, hk⟩ := al_isA_of hk
    obtain ⟨q2, hR, hk⟩ := al_rk_of hk
    obtain ⟨hin, hcl⟩ := al_in_of hi hj (al_len_lt hq (Nat.le_trans h2 h90))
    have ea := al_adp t (al_ark_of hq).1 (Nat.le_trans h2 h90)
    show W p l e Rm s m args below meth c H locs _ _ Q0 (F0 m pc ls (.int i :: .ref (al_ad t q) :: r.map (al_tr t)))
    rw [ea]
    have har := al_arr (t := t) (R := R) (I := I) (J := J) hq
    rw [hak] at har
    exact va_aldq hx hb hSt.1 hP q ak har (hty t) hin hd (by rw [hcl, hR]; exact (h _ _ _ _ _ _ hk H locs ls h1 h2 hz hP hS hL))
theorem S_iast (C : al_Cx F p l e s m args below meth c Rm cc nL own t fr lo n0 ne Q0) (hd : decode cc pc = .ok (.iastore, 1)) (h : al_Ok F k (pc + 1)) : al_Ok F (o_iast k) pc := by
  obtain ⟨rfl, hx, hb, hml, hown, hts, hlk, hSt, hfr, hlo, hce, hsl, hne, h90, hsz⟩ := C
  intro L st n R I J hk H locs ls h1 h2 hz hP hS hL
  match st, hk with
  | .int v :: .int i :: .ref q :: r, hk =>
    dsimp only [o_iast] at hk
    obtain ⟨len, hq, j, hj, hi, hk⟩ := al_isA_of hk
    obtain ⟨hin, hcl⟩ := al_in_of hi hj (al_len_lt hq (Nat.le_trans h2 h90))
    obtain ⟨hqn, hsk⟩ := al_ark_of hq
    have ea := al_adp t hqn (Nat.le_trans h2 h90)
    show W p l e Rm s m args below meth c H locs _ _ Q0 (F0 m pc ls (.int v :: .int i :: .ref (al_ad t q) :: r.map (al_tr t)))
    rw [ea]
    refine W.iast hx hb (hP q _ (al_arr hq)) ((hSt.1.2 0 _ rfl).1 len (fun j => .int (I q j))) (fun q => by cases q) (by show ¬ (i < 0 ∨ (arrV _ _ _).slots.size ≤ _); rw [arrV_size]; exact hin) rfl rfl hd fun H1 e1 z oq => ?_
    refine h _ _ _ _ _ _ hk H1 _ ls h1 h2 (fun h9 => z.trans (hz h9)) (al_upd (R := R) (I := I) (J := J) hP hqn ?_ (fun x hx9 => ⟨rfl, al_up_row hx9, rfl⟩) oq) (hS.put z oq (Nat.le_add_right _ _)) hL
    rw [al_cea hsk]
    show H1[th_b t + q]? = some (arrV (th_c t 0) len (fun j' => .int (al_up I q j v q j')))
    rw [e1]
    show some ((arrV (th_c t 0) len (fun j' => .int (I q j'))).setSlot _ _) = _
    rw [arrV_store, hcl]
    congr 2
    funext x
    by_cases hxj : x = j
    · subst hxj
      simp [updV, al_up_s]
    · simp [updV, hxj, al_up_j hxj]
theorem S_last (C : al_Cx F p l e s m args below meth c Rm cc nL own t fr lo n0 ne Q0) (hd : decode cc pc = .ok (.lastore, 1)) (h : al_Ok F k (pc + 1)) : al_Ok F (o_last k) pc := by
  obtain ⟨rfl, hx, hb, hml, hown, hts, hlk, hSt, hfr, hlo, hce, hsl, hne, h90, hsz⟩ := C
  intro L st n R I J hk H locs ls h1 h2 hz hP hS hL
  match st, hk with
  | .long v :: .int i :: .ref q :: r, hk =>
    dsimp only [o_last] at hk
    obtain ⟨len, hq, j, hj, hi, hk⟩ := al_isA_of hk
    obtain ⟨hin, hcl⟩ := al_in_of hi hj (al_len_lt hq (Nat.le_trans h2 h90))
    obtain ⟨hqn, hsk⟩ := al_ark_of hq
    have ea := al_adp t hqn (Nat.le_trans h2 h90)
    show W p l e Rm s m args below meth c H locs _ _ Q0 (F0 m pc ls (.long v :: .int i :: .ref (al_ad t q) :: r.map (al_tr t)))
    rw [ea]
    refine W.last hx hb (hP q _ (al_arr hq)) ((hSt.1.2 1 _ rfl).1 len (fun j => .long (J q j))) (fun q => by cases q) (by show ¬ (i < 0 ∨ (arrV _ _ _).slots.size ≤ _); rw [arrV_size]; exact hin) rfl rfl hd fun H1 e1 z oq => ?_
    refine h _ _ _ _ _ _ hk H1 _ ls h1 h2 (fun h9 => z.trans (hz h9)) (al_upd (R := R) (I := I) (J := J) hP hqn ?_ (fun x hx9 => ⟨rfl, rfl, al_up_row hx9⟩) oq) (hS.put z oq (Nat.le_add_right _ _)) hL
    rw [al_cea hsk]
    show H1[th_b t + q]? = some (arrV (th_c t 1) len (fun j' => .long (al_up J q j v q j')))
    rw [e1]
    show some ((arrV (th_c t 1) len (fun j' => .long (J q j'))).setSlot _ _) = _
    rw [arrV_store, hcl]
    congr 2
    funext x
    by_cases hxj : x = j
    · subst hxj
      simp [updV, al_up_s]
    · simp [updV, hxj, al_up_j hxj]
theorem S_zast (C : al_Cx F p l e s m args below meth c Rm cc nL own t fr lo n0 ne Q0) (hd : decode cc pc = .ok (.bastore, 1)) (h : al_Ok F k (pc + 1)) : al_Ok F (o_zast k) pc := by
  obtain ⟨rfl, hx, hb, hml, hown, hts, hlk, hSt, hfr, hlo, hce, hsl, hne, h90, hsz⟩ := C
  intro L st n R I J hk H locs ls h1 h2 hz hP hS hL
  match st, hk with
  | .int v :: .int i :: .ref q :: r, hk =>
    dsimp only [o_zast] at hk
    obtain ⟨len, hq, j, hj, hi, hv, hk⟩ := al_isA_of hk
    obtain ⟨hin, hcl⟩ := al_in_of hi hj (al_len_lt hq (Nat.le_trans h2 h90))
    obtain ⟨hqn, hsk⟩ := al_ark_of hq
    have ea := al_adp t hqn (Nat.le_trans h2 h90)
    show W p l e Rm s m args below meth c H locs _ _ Q0 (F0 m pc ls (.int v :: .int i :: .ref (al_ad t q) :: r.map (al_tr t)))
    rw [ea]
    refine W.zast hx hb (hP q _ (al_arr hq)) ((hSt.1.2 2 _ rfl).1 len (fun j => .int (I q j))) (fun q => by cases q) (by show ¬ (i < 0 ∨ (arrV _ _ _).slots.size ≤ _); rw [arrV_size]; exact hin) rfl rfl hd fun H1 e1 z oq => ?_
    refine h _ _ _ _ _ _ hk H1 _ ls h1 h2 (fun h9 => z.trans (hz h9)) (al_upd (R := R) (I := I) (J := J) hP hqn ?_ (fun x hx9 => ⟨rfl, al_up_row hx9, rfl⟩) oq) (hS.put z oq (Nat.le_add_right _ _)) hL
    rw [show narrow .boolean (.int v) = .int v from by rcases hv with rfl | rfl <;> rfl] at e1
    rw [al_cea hsk]
    show H1[th_b t + q]? = some (arrV (th_c t 2) len (fun j' => .int (al_up I q j v q j')))
    rw [e1]
    show some ((arrV (th_c t 2) len (fun j' => .int (I q j'))).setSlot _ _) = _
    rw [arrV_store, hcl]
    congr 2
    funext x
    by_cases hxj : x = j
    · subst hxj
      simp [updV, al_up_s]
    · simp [updV, hxj, al_up_j hxj]
theorem S_alen (C : al_Cx F p l e s m args below meth c Rm cc nL own t fr lo n0 ne Q0) {ak : Nat} {ty : FieldType} (hty : ∀ t : TH, (al_tys t)[ak]? = some (th_c t ak, ty)) (hd : decode cc pc = .ok (.arraylength, 1)) (h : al_Ok F k (pc + 1)) : al_Ok F (o_alen ak k) pc := by
  obtain ⟨rfl, hx, hb, hml, hown, hts, hlk, hSt, hfr, hlo, hce, hsl, hne, h90, hsz⟩ := C
  intro L st n R I J hk H locs ls h1 h2 hz hP hS hL
  match st, hk with
  | .ref q :: r, hk =>
    dsimp only [o_alen] at hk
    obtain ⟨len, hq, hk⟩ := al_isA_of hk
    have ea := al_adp t (al_ark_of hq).1 (Nat.le_trans h2 h90)
    show W p l e Rm s m args below meth c H locs _ _ Q0 (F0 m pc ls (.ref (al_ad t q) :: r.map (al_tr t)))
    rw [ea]
    exact va_alen (v := nI len) hx hb hSt.1 hP q ak (al_arr hq) (hty t) rfl hd (h _ _ _ _ _ _ hk H locs ls h1 h2 hz hP hS hL)
theorem S_mmax (C : al_Cx F p l e s m args below meth c Rm cc nL own t fr lo n0 ne Q0) {index : Nat} (hw : Cond.methodLink own index Lib.Math.max.name ∈ al_gt) (hw2 : Cond.static Lib.Math.max.name ∈ al_gt) (hw3 : Cond.initialized "java/lang/Math" ∈ al_gt) (hw4 : Cond.code Lib.Math.max.name Lib.Math.max.code 2 (some .int) ∈ al_gt) (hfr1 : 1 ≤ fr) (hlo1 : 21 ≤ lo) (hd : decode cc pc = .ok (.invokestatic index, 3)) (h : al_Ok F k (pc + 3)) : al_Ok F (o_mmax k) pc := by
  obtain ⟨rfl, hx, hb, hml, hown, hts, hlk, hSt, hfr, hlo, hce, hsl, hne, h90, hsz⟩ := C
  intro L st n R I J hk H locs ls h1 h2 hz hP hS hL
  match st, hk with
  | .int y :: .int x :: r, hk =>
    obtain ⟨h8, hk⟩ := al_r8_of hk
    exact va_mmax hx hb (by rw [hml]; exact hL.1.symm) hown (hts _ hw) (hts _ hw2) (hts _ hw3) (hts _ hw4) (by omega) (by rw [al_cs_eq]; omega) (by omega) (by have := al_sz_mono h1; have := al_sz_mono h2; omega) hd (h _ _ _ _ _ _ hk H locs ls h1 h2 hz hP hS hL)
theorem S_mmin (C : al_Cx F p l e s m args below meth c Rm cc nL own t fr lo n0 ne Q0) {index : Nat} (hw : Cond.methodLink own index Lib.Math.min.name ∈ al_gt) (hw2 : Cond.static Lib.Math.min.name ∈ al_gt) (hw3 : Cond.initialized "java/lang/Math" ∈ al_gt) (hw4 : Cond.code Lib.Math.min.name Lib.Math.min.code 2 (some .int) ∈ al_gt) (hfr1 : 1 ≤ fr) (hlo1 : 21 ≤ lo) (hd : decode cc pc = .ok (.invokestatic index, 3)) (h : al_Ok F k (pc + 3)) : al_Ok F (o_mmin k) pc := by
  obtain ⟨rfl, hx, hb, hml, hown, hts, hlk, hSt, hfr, hlo, hce, hsl, hne, h90, hsz⟩ := C
  intro L st n R I J hk H locs ls h1 h2 hz hP hS hL
  match st, hk with
  | .int y :: .int x :: r, hk =>
    obtain ⟨h8, hk⟩ := al_r8_of hk
    exact va_mmin hx hb (by rw [hml]; exact hL.1.symm) hown (hts _ hw) (hts _ hw2) (hts _ hw3) (hts _ hw4) (by omega) (by rw [al_cs_eq]; omega) (by omega) (by have := al_sz_mono h1; have := al_sz_mono h2; omega) hd (h _ _ _ _ _ _ hk H locs ls h1 h2 hz hP hS hL)
theorem S_mabs (C : al_Cx F p l e s m args below meth c Rm cc nL own t fr lo n0 ne Q0) {index : Nat} (hw : Cond.methodLink own index Lib.Math.abs.name ∈ al_gt) (hw2 : Cond.static Lib.Math.abs.name ∈ al_gt) (hw3 : Cond.initialized "java/lang/Math" ∈ al_gt) (hw4 : Cond.code Lib.Math.abs.name Lib.Math.abs.code 1 (some .int) ∈ al_gt) (hfr1 : 1 ≤ fr) (hlo1 : 21 ≤ lo) (hd : decode cc pc = .ok (.invokestatic index, 3)) (h : al_Ok F k (pc + 3)) : al_Ok F (o_mabs k) pc := by
  obtain ⟨rfl, hx, hb, hml, hown, hts, hlk, hSt, hfr, hlo, hce, hsl, hne, h90, hsz⟩ := C
  intro L st n R I J hk H locs ls h1 h2 hz hP hS hL
  match st, hk with
  | .int x :: r, hk =>
    obtain ⟨h8, hk⟩ := al_r8_of hk
    exact va_mabs hx hb (by rw [hml]; exact hL.1.symm) hown (hts _ hw) (hts _ hw2) (hts _ hw3) (hts _ hw4) (by omega) (by rw [al_cs_eq]; omega) (by omega) (by have := al_sz_mono h1; have := al_sz_mono h2; omega) hd (h _ _ _ _ _ _ hk H locs ls h1 h2 hz hP hS hL)
end ALB
