/-! THE FRAME OF ONE METHOD: F pc L st n R I J says that the machine, in a state that holds these, comes to its end -/
def al_F (p : Program) (l : Launch) (e : Env) (s : State) (m : MethodId) (args : Array Value) (below : List Frame) (meth : Method) (c : Code) (Rm : Room) (nL : Nat) (t : TH) (n0 ne : Nat) (Q0 : State → Prop) : FT := fun pc L st n R I J =>
  ∀ (H : Heap) (locs : List Loc) (ls : Array Slot), n0 ≤ n → n ≤ ne → (n < 90 → H.size = th_b t + n) → va_P (th_D t) vwCl (al_ws t n R I J) H → va_S (al_A t) s.heap H locs → al_rl t ls nL L → W p l e Rm s m args below meth c H locs (n - n0) (al_sz n - al_sz n0) Q0 (F0 m pc ls (st.map (al_tr t)))
def al_Cx (F : FT) (p : Program) (l : Launch) (e : Env) (s : State) (m : MethodId) (args : Array Value) (below : List Frame) (meth : Method) (c : Code) (Rm : Room) (cc : ByteArray) (nL : Nat) (own : String) (t : TH) (fr lo n0 ne : Nat) (Q0 : State → Prop) : Prop :=
  F = al_F p l e s m args below meth c Rm nL t n0 ne Q0 ∧ p.tables.exec = Jvm.exec ∧ c.code = cc ∧ c.maxLocals = nL ∧ s.vm.findClass own = some m.cls ∧ (∀ w ∈ al_gt, w.before args s = true) ∧ meth.locks = false ∧ al_St t s s.heap ∧ fr ≤ Rm.frames ∧ lo ≤ Rm.locals ∧ ne - n0 ≤ Rm.cells ∧ al_sz ne - al_sz n0 ≤ Rm.slots ∧ n0 ≤ ne ∧ ne ≤ 90 ∧ th_b t ≤ s.heap.size
def al_Ok (F : FT) (k : KT) (pc : Nat) : Prop := ∀ L st n R I J, k L st n R I J → F pc L st n R I J
theorem al_sz_mono : ∀ {a b : Nat}, a ≤ b → al_sz a ≤ al_sz b := by
  intro a b h
  induction b with
  | zero => rw [Nat.le_zero.mp h]; exact Nat.le_refl _
  | succ b ih =>
    rcases Nat.lt_or_ge a (b + 1) with q | q
    · exact Nat.le_trans (ih (by omega)) (Nat.le_add_right _ _)
    · rw [show a = b + 1 by omega]; exact Nat.le_refl _
theorem al_adp (t : TH) {q n : Nat} (h : q < n) (hn : n ≤ 90) : al_ad t q = th_b t + q := by
  unfold al_ad
  rw [if_pos (by omega)]
theorem al_obj {t : TH} {n : Nat} {R : RR} {I : II} {J : JJ} {q ci : Nat} (hq : al_cls n q = some ci) : (al_ws t n R I J)[q]? = some (th_b t + q, .inr (ci, al_fs t R I J q (al_ft ci) 0)) := by
  obtain ⟨h1, h2⟩ := al_cls_of hq
  rw [al_ws_get _ _ _ _ _ h1]
  simp only [al_ce, h2]
theorem al_arr {t : TH} {n : Nat} {R : RR} {I : II} {J : JJ} {q ak len : Nat} (hq : al_ark n q = some (ak, len)) : (al_ws t n R I J)[q]? = some (th_b t + q, .inl (th_c t ak, al_ar t R I J q ak len)) := by
  obtain ⟨h1, h2⟩ := al_ark_of hq
  rw [al_ws_get _ _ _ _ _ h1]
  simp only [al_ce, h2]
theorem al_upd {t : TH} {n : Nat} {R R' : RR} {I I' : II} {J J' : JJ} {q : Nat} {H H1 : Heap} (hP : va_P (th_D t) vwCl (al_ws t n R I J) H) (hqn : q < n) (hce : va_at (th_D t) vwCl (th_b t + q, al_ce t R' I' J' q) H1) (ho : ∀ x, x ≠ q → R' x = R x ∧ I' x = I x ∧ J' x = J x) (oq : ∀ a : Nat, a ≠ th_b t + q → H1[a]? = H[a]?) : va_P (th_D t) vwCl (al_ws t n R' I' J') H1 := by
  rw [← al_ws_set (R := R) (I := I) (J := J) hqn rfl (fun x hx => al_ce_eq (ho x hx).1 (ho x hx).2.1 (ho x hx).2.2)]
  exact hP.set (al_ws_D t n R I J) (al_ws_get t n R I J hqn) hce oq
theorem al_in_of {i : Int32} {j len : Nat} (h : i = nI j) (hj : j < len) (hl : len < 2 ^ 31) : vp_in i len ∧ i.toNatClampNeg = j := by
  subst h
  exact ⟨vp_in_nI hj hl, nI_clamp (by omega)⟩
theorem al_lens : ∀ p, p < 90 → al_szp p < 2 ^ 31 := by decide +kernel
theorem al_len_lt {n q ak len : Nat} (h : al_ark n q = some (ak, len)) (hn : n ≤ 90) : len < 2 ^ 31 := by
  obtain ⟨h1, h2⟩ := al_ark_of h
  have := al_lens q (by omega)
  simp only [al_szp, h2] at this
  exact this
section ALA
variable {F : FT} {p : Program} {l : Launch} {e : Env} {s : State} {m : MethodId} {args : Array Value} {below : List Frame} {meth : Method} {c : Code} {Rm : Room} {cc : ByteArray} {nL : Nat} {own : String} {t : TH} {fr lo n0 ne : Nat} {Q0 : State → Prop} {k : KT} {pc : Nat}
theorem S_wk (C : al_Cx F p l e s m args below meth c Rm cc nL own t fr lo n0 ne Q0) {L L' : List (Option Value)} {st : List Value} {n : Nat} {R : RR} {I : II} {J : JJ} (hle : al_le L' L) (h : F pc L' st n R I J) : F pc L st n R I J := by
  obtain ⟨rfl, -⟩ := C
  intro H locs ls h1 h2 hz hP hS hL
  exact h H locs ls h1 h2 hz hP hS (hL.le hle)
theorem S_iload_n (C : al_Cx F p l e s m args below meth c Rm cc nL own t fr lo n0 ne Q0) {kk : Fin 4} {i : Nat} (hd : decode cc pc = .ok (.iload_n kk, 1)) (hi : (kk : Nat) = i) (h : al_Ok F k (pc + 1)) : al_Ok F (o_iload i k) pc := by
  obtain ⟨rfl, hx, hb, hml, hown, hts, hlk, hSt, hfr, hlo, hce, hsl, hne, h90, hsz⟩ := C
  intro L st n R I J hk H locs ls h1 h2 hz hP hS hL
  obtain ⟨v, hv, hk⟩ := al_gL_of hk
  cases v with
  | int x => exact lv_iload_n hx hb hd hi (hL.at hv) (h _ _ _ _ _ _ hk H locs ls h1 h2 hz hP hS hL)
  | _ => exact hk.elim
theorem S_iload (C : al_Cx F p l e s m args below meth c Rm cc nL own t fr lo n0 ne Q0) {i : Nat} (hd : decode cc pc = .ok (.iload i, 2)) (h : al_Ok F k (pc + 2)) : al_Ok F (o_iload i k) pc := by
  obtain ⟨rfl, hx, hb, hml, hown, hts, hlk, hSt, hfr, hlo, hce, hsl, hne, h90, hsz⟩ := C
  intro L st n R I J hk H locs ls h1 h2 hz hP hS hL
  obtain ⟨v, hv, hk⟩ := al_gL_of hk
  cases v with
  | int x => exact lv_iload hx hb hd (hL.at hv) (h _ _ _ _ _ _ hk H locs ls h1 h2 hz hP hS hL)
  | _ => exact hk.elim
theorem S_lload_n (C : al_Cx F p l e s m args below meth c Rm cc nL own t fr lo n0 ne Q0) {kk : Fin 4} {i : Nat} (hd : decode cc pc = .ok (.lload_n kk, 1)) (hi : (kk : Nat) = i) (h : al_Ok F k (pc + 1)) : al_Ok F (o_lload i k) pc := by
  obtain ⟨rfl, hx, hb, hml, hown, hts, hlk, hSt, hfr, hlo, hce, hsl, hne, h90, hsz⟩ := C
  intro L st n R I J hk H locs ls h1 h2 hz hP hS hL
  obtain ⟨v, hv, hk⟩ := al_gL_of hk
  cases v with
  | long x => exact lv_lload_n hx hb hd hi (hL.at hv) (h _ _ _ _ _ _ hk H locs ls h1 h2 hz hP hS hL)
  | _ => exact hk.elim
theorem S_lload (C : al_Cx F p l e s m args below meth c Rm cc nL own t fr lo n0 ne Q0) {i : Nat} (hd : decode cc pc = .ok (.lload i, 2)) (h : al_Ok F k (pc + 2)) : al_Ok F (o_lload i k) pc := by
  obtain ⟨rfl, hx, hb, hml, hown, hts, hlk, hSt, hfr, hlo, hce, hsl, hne, h90, hsz⟩ := C
  intro L st n R I J hk H locs ls h1 h2 hz hP hS hL
  obtain ⟨v, hv, hk⟩ := al_gL_of hk
  cases v with
  | long x => exact lv_lload hx hb hd (hL.at hv) (h _ _ _ _ _ _ hk H locs ls h1 h2 hz hP hS hL)
  | _ => exact hk.elim
theorem S_aload_n (C : al_Cx F p l e s m args below meth c Rm cc nL own t fr lo n0 ne Q0) {kk : Fin 4} {i : Nat} (hd : decode cc pc = .ok (.aload_n kk, 1)) (hi : (kk : Nat) = i) (h : al_Ok F k (pc + 1)) : al_Ok F (o_aload i k) pc := by
  obtain ⟨rfl, hx, hb, hml, hown, hts, hlk, hSt, hfr, hlo, hce, hsl, hne, h90, hsz⟩ := C
  intro L st n R I J hk H locs ls h1 h2 hz hP hS hL
  obtain ⟨v, hv, hk⟩ := al_gL_of hk
  cases v with
  | ref x => exact lv_aload_n hx hb hd hi (hL.at hv) (h _ _ _ _ _ _ hk H locs ls h1 h2 hz hP hS hL)
  | _ => exact hk.elim
theorem S_aload (C : al_Cx F p l e s m args below meth c Rm cc nL own t fr lo n0 ne Q0) {i : Nat} (hd : decode cc pc = .ok (.aload i, 2)) (h : al_Ok F k (pc + 2)) : al_Ok F (o_aload i k) pc := by
  obtain ⟨rfl, hx, hb, hml, hown, hts, hlk, hSt, hfr, hlo, hce, hsl, hne, h90, hsz⟩ := C
  intro L st n R I J hk H locs ls h1 h2 hz hP hS hL
  obtain ⟨v, hv, hk⟩ := al_gL_of hk
  cases v with
  | ref x => exact lv_aload hx hb hd (hL.at hv) (h _ _ _ _ _ _ hk H locs ls h1 h2 hz hP hS hL)
  | _ => exact hk.elim
theorem S_istore_n (C : al_Cx F p l e s m args below meth c Rm cc nL own t fr lo n0 ne Q0) {kk : Fin 4} {i : Nat} (hd : decode cc pc = .ok (.istore_n kk, 1)) (hi : (kk : Nat) = i) (hn : i < nL) (h : al_Ok F k (pc + 1)) : al_Ok F (o_istore i k) pc := by
  obtain ⟨rfl, hx, hb, hml, hown, hts, hlk, hSt, hfr, hlo, hce, hsl, hne, h90, hsz⟩ := C
  intro L st n R I J hk H locs ls h1 h2 hz hP hS hL
  match st, hk with
  | .int x :: r, hk =>
    obtain ⟨L', hk, hrel⟩ := al_sL_of hk
    exact lv_istore_n hx hb hd hi hL hn rfl (fun ls' hl => h _ _ _ _ _ _ hk H locs ls' h1 h2 hz hP hS (al_rl.st1 (ls := ls) (v := .int x) hl hrel))
theorem S_istore (C : al_Cx F p l e s m args below meth c Rm cc nL own t fr lo n0 ne Q0) {i : Nat} (hd : decode cc pc = .ok (.istore i, 2)) (hn : i < nL) (h : al_Ok F k (pc + 2)) : al_Ok F (o_istore i k) pc := by
  obtain ⟨rfl, hx, hb, hml, hown, hts, hlk, hSt, hfr, hlo, hce, hsl, hne, h90, hsz⟩ := C
  intro L st n R I J hk H locs ls h1 h2 hz hP hS hL
  match st, hk with
  | .int x :: r, hk =>
    obtain ⟨L', hk, hrel⟩ := al_sL_of hk
    exact lv_istore hx hb hd hL hn rfl (fun ls' hl => h _ _ _ _ _ _ hk H locs ls' h1 h2 hz hP hS (al_rl.st1 (ls := ls) (v := .int x) hl hrel))
theorem S_astore_n (C : al_Cx F p l e s m args below meth c Rm cc nL own t fr lo n0 ne Q0) {kk : Fin 4} {i : Nat} (hd : decode cc pc = .ok (.astore_n kk, 1)) (hi : (kk : Nat) = i) (hn : i < nL) (h : al_Ok F k (pc + 1)) : al_Ok F (o_astore i k) pc := by
  obtain ⟨rfl, hx, hb, hml, hown, hts, hlk, hSt, hfr, hlo, hce, hsl, hne, h90, hsz⟩ := C
  intro L st n R I J hk H locs ls h1 h2 hz hP hS hL
  match st, hk with
  | .ref x :: r, hk =>
    obtain ⟨L', hk, hrel⟩ := al_sL_of hk
    exact lv_astore_n hx hb hd hi hL hn rfl (fun ls' hl => h _ _ _ _ _ _ hk H locs ls' h1 h2 hz hP hS (al_rl.st1 (ls := ls) (v := .ref x) hl hrel))
theorem S_astore (C : al_Cx F p l e s m args below meth c Rm cc nL own t fr lo n0 ne Q0) {i : Nat} (hd : decode cc pc = .ok (.astore i, 2)) (hn : i < nL) (h : al_Ok F k (pc + 2)) : al_Ok F (o_astore i k) pc := by
  obtain ⟨rfl, hx, hb, hml, hown, hts, hlk, hSt, hfr, hlo, hce, hsl, hne, h90, hsz⟩ := C
  intro L st n R I J hk H locs ls h1 h2 hz hP hS hL
  match st, hk with
  | .ref x :: r, hk =>
    obtain ⟨L', hk, hrel⟩ := al_sL_of hk
    exact lv_astore hx hb hd hL hn rfl (fun ls' hl => h _ _ _ _ _ _ hk H locs ls' h1 h2 hz hP hS (al_rl.st1 (ls := ls) (v := .ref x) hl hrel))
theorem S_lstore_n (C : al_Cx F p l e s m args below meth c Rm cc nL own t fr lo n0 ne Q0) {kk : Fin 4} {i : Nat} (hd : decode cc pc = .ok (.lstore_n kk, 1)) (hi : (kk : Nat) = i) (hn : i + 1 < nL) (h : al_Ok F k (pc + 1)) : al_Ok F (o_lstore i k) pc := by
  obtain ⟨rfl, hx, hb, hml, hown, hts, hlk, hSt, hfr, hlo, hce, hsl, hne, h90, hsz⟩ := C
  intro L st n R I J hk H locs ls h1 h2 hz hP hS hL
  match st, hk with
  | .long x :: r, hk =>
    obtain ⟨L', hk, hrel⟩ := al_sJ_of hk
    exact lv_lstore_n hx hb hd hi hL hn rfl (fun ls' hl => h _ _ _ _ _ _ hk H locs ls' h1 h2 hz hP hS (al_rl.st2 (ls := ls) (v := .long x) hl hrel))
theorem S_lstore (C : al_Cx F p l e s m args below meth c Rm cc nL own t fr lo n0 ne Q0) {i : Nat} (hd : decode cc pc = .ok (.lstore i, 2)) (hn : i + 1 < nL) (h : al_Ok F k (pc + 2)) : al_Ok F (o_lstore i k) pc := by
  obtain ⟨rfl, hx, hb, hml, hown, hts, hlk, hSt, hfr, hlo, hce, hsl, hne, h90, hsz⟩ := C
  intro L st n R I J hk H locs ls h1 h2 hz hP hS hL
  match st, hk with
  | .long x :: r, hk =>
    obtain ⟨L', hk, hrel⟩ := al_sJ_of hk
    exact lv_lstore hx hb hd hL hn rfl (fun ls' hl => h _ _ _ _ _ _ hk H locs ls' h1 h2 hz hP hS (al_rl.st2 (ls := ls) (v := .long x) hl hrel))
theorem S_iinc (C : al_Cx F p l e s m args below meth c Rm cc nL own t fr lo n0 ne Q0) {i : Nat} {z : Int} {d : Int32} (hd : decode cc pc = .ok (.iinc i z, 3)) (hz0 : Int32.ofInt z = d) (hn : i < nL) (h : al_Ok F k (pc + 3)) : al_Ok F (o_iinc i d k) pc := by
  obtain ⟨rfl, hx, hb, hml, hown, hts, hlk, hSt, hfr, hlo, hce, hsl, hne, h90, hsz⟩ := C
  intro L st n R I J hk H locs ls h1 h2 hz hP hS hL
  obtain ⟨v, hv, hk⟩ := al_gL_of hk
  cases v with
  | int x =>
    obtain ⟨L', hk, hrel⟩ := al_sL_of hk
    obtain ⟨kp, hkp⟩ := List.getElem?_of_mem (al_pr_get t L 0 i (.int x) hv)
    rw [Nat.zero_add] at hkp
    exact lv_iinc (v := x + d) hx hb hd hL hkp (by rw [hz0]) hn rfl (fun ls' hl => h _ _ _ _ _ _ hk H locs ls' h1 h2 hz hP hS (al_rl.st1 (ls := ls) (v := .int (x + d)) hl hrel))
  | _ => exact hk.elim
theorem S_iconst (C : al_Cx F p l e s m args below meth c Rm cc nL own t fr lo n0 ne Q0) {z : Int} {v : Int32} (hd : decode cc pc = .ok (.iconst z, 1)) (hv : Int32.ofInt z = v) (h : al_Ok F k (pc + 1)) : al_Ok F (o_ic v k) pc := by
  obtain ⟨rfl, hx, hb, hml, hown, hts, hlk, hSt, hfr, hlo, hce, hsl, hne, h90, hsz⟩ := C
  intro L st n R I J hk H locs ls h1 h2 hz hP hS hL
  exact lv_iconst hx hb hd hv (h _ _ _ _ _ _ hk H locs ls h1 h2 hz hP hS hL)
theorem S_bipush (C : al_Cx F p l e s m args below meth c Rm cc nL own t fr lo n0 ne Q0) {z : Int} {v : Int32} (hd : decode cc pc = .ok (.bipush z, 2)) (hv : (Int8.ofInt z).toInt32 = v) (h : al_Ok F k (pc + 2)) : al_Ok F (o_ic v k) pc := by
  obtain ⟨rfl, hx, hb, hml, hown, hts, hlk, hSt, hfr, hlo, hce, hsl, hne, h90, hsz⟩ := C
  intro L st n R I J hk H locs ls h1 h2 hz hP hS hL
  exact lv_bipush hx hb hd hv (h _ _ _ _ _ _ hk H locs ls h1 h2 hz hP hS hL)
theorem S_sipush (C : al_Cx F p l e s m args below meth c Rm cc nL own t fr lo n0 ne Q0) {z : Int} {v : Int32} (hd : decode cc pc = .ok (.sipush z, 3)) (hv : (Int16.ofInt z).toInt32 = v) (h : al_Ok F k (pc + 3)) : al_Ok F (o_ic v k) pc := by
  obtain ⟨rfl, hx, hb, hml, hown, hts, hlk, hSt, hfr, hlo, hce, hsl, hne, h90, hsz⟩ := C
  intro L st n R I J hk H locs ls h1 h2 hz hP hS hL
  exact lv_sipush hx hb hd hv (h _ _ _ _ _ _ hk H locs ls h1 h2 hz hP hS hL)
theorem S_ldc (C : al_Cx F p l e s m args below meth c Rm cc nL own t fr lo n0 ne Q0) {index : Nat} {v : Int32} (hd : decode cc pc = .ok (.ldc index, 2)) (hw : Cond.constant own index v ∈ al_gt) (h : al_Ok F k (pc + 2)) : al_Ok F (o_ic v k) pc := by
  obtain ⟨rfl, hx, hb, hml, hown, hts, hlk, hSt, hfr, hlo, hce, hsl, hne, h90, hsz⟩ := C
  intro L st n R I J hk H locs ls h1 h2 hz hP hS hL
  exact lv_ldc hx hb hown (hts _ hw) hd (h _ _ _ _ _ _ hk H locs ls h1 h2 hz hP hS hL)
theorem S_ldcw (C : al_Cx F p l e s m args below meth c Rm cc nL own t fr lo n0 ne Q0) {index : Nat} {v : Int32} (hd : decode cc pc = .ok (.ldc_w index, 3)) (hw : Cond.constant own index v ∈ al_gt) (h : al_Ok F k (pc + 3)) : al_Ok F (o_ic v k) pc := by
  obtain ⟨rfl, hx, hb, hml, hown, hts, hlk, hSt, hfr, hlo, hce, hsl, hne, h90, hsz⟩ := C
  intro L st n R I J hk H locs ls h1 h2 hz hP hS hL
  exact lv_ldcw hx hb hown (hts _ hw) hd (h _ _ _ _ _ _ hk H locs ls h1 h2 hz hP hS hL)
theorem S_ldc2 (C : al_Cx F p l e s m args below meth c Rm cc nL own t fr lo n0 ne Q0) {index : Nat} {v : Int64} (hd : decode cc pc = .ok (.ldc2_w index, 3)) (hw : Cond.constantLong own index v ∈ al_gt) (h : al_Ok F k (pc + 3)) : al_Ok F (o_lc v k) pc := by
  obtain ⟨rfl, hx, hb, hml, hown, hts, hlk, hSt, hfr, hlo, hce, hsl, hne, h90, hsz⟩ := C
  intro L st n R I J hk H locs ls h1 h2 hz hP hS hL
  exact lv_ldc2 hx hb hown (hts _ hw) hd (h _ _ _ _ _ _ hk H locs ls h1 h2 hz hP hS hL)
theorem S_lconst (C : al_Cx F p l e s m args below meth c Rm cc nL own t fr lo n0 ne Q0) {z : Fin 2} {v : Int64} (hd : decode cc pc = .ok (.lconst z, 1)) (hv : Int64.ofNat (z : Nat) = v) (h : al_Ok F k (pc + 1)) : al_Ok F (o_lc v k) pc := by
  obtain ⟨rfl, hx, hb, hml, hown, hts, hlk, hSt, hfr, hlo, hce, hsl, hne, h90, hsz⟩ := C
  intro L st n R I J hk H locs ls h1 h2 hz hP hS hL
  exact lv_lconst hx hb hd hv (h _ _ _ _ _ _ hk H locs ls h1 h2 hz hP hS hL)
theorem S_ldcS (C : al_Cx F p l e s m args below meth c Rm cc nL own t fr lo n0 ne Q0) {index j : Nat} {tx : String} (hj : j < 13) (hd : decode cc pc = .ok (.ldc index, 2)) (hw : (own, index, tx, j) ∈ al_sr) (h : al_Ok F k (pc + 2)) : al_Ok F (o_sc j k) pc := by
  obtain ⟨rfl, hx, hb, hml, hown, hts, hlk, hSt, hfr, hlo, hce, hsl, hne, h90, hsz⟩ := C
  intro L st n R I J hk H locs ls h1 h2 hz hP hS hL
  have e : al_tr t (.ref (2000 + j)) = .ref (th_K t j) := by
    show Value.ref (al_ad t (2000 + j)) = _
    unfold al_ad
    rw [if_neg (by omega), if_neg (by omega), if_pos (by omega), Nat.add_sub_cancel_left]
  have h9 := h _ _ _ _ _ _ hk H locs ls h1 h2 hz hP hS hL
  rw [List.map_cons, e] at h9
  exact va_ldcS hx hb hown (hSt.2.2.1 _ hw) hd h9
theorem S_iadd (C : al_Cx F p l e s m args below meth c Rm cc nL own t fr lo n0 ne Q0) (hd : decode cc pc = .ok (.iadd, 1)) (h : al_Ok F k (pc + 1)) : al_Ok F (o_iadd k) pc := by
  obtain ⟨rfl, hx, hb, hml, hown, hts, hlk, hSt, hfr, hlo, hce, hsl, hne, h90, hsz⟩ := C
  intro L st n R I J hk H locs ls h1 h2 hz hP hS hL
  match st, hk with
  | .int y :: .int x :: r, hk => exact lv_iadd hx hb hd (h _ _ _ _ _ _ hk H locs ls h1 h2 hz hP hS hL)
theorem S_isub (C : al_Cx F p l e s m args below meth c Rm cc nL own t fr lo n0 ne Q0) (hd : decode cc pc = .ok (.isub, 1)) (h : al_Ok F k (pc + 1)) : al_Ok F (o_isub k) pc := by
  obtain ⟨rfl, hx, hb, hml, hown, hts, hlk, hSt, hfr, hlo, hce, hsl, hne, h90, hsz⟩ := C
  intro L st n R I J hk H locs ls h1 h2 hz hP hS hL
  match st, hk with
  | .int y :: .int x :: r, hk => exact lv_isub hx hb hd (h _ _ _ _ _ _ hk H locs ls h1 h2 hz hP hS hL)
theorem S_imul (C : al_Cx F p l e s m args below meth c Rm cc nL own t fr lo n0 ne Q0) (hd : decode cc pc = .ok (.imul, 1)) (h : al_Ok F k (pc + 1)) : al_Ok F (o_imul k) pc := by
  obtain ⟨rfl, hx, hb, hml, hown, hts, hlk, hSt, hfr, hlo, hce, hsl, hne, h90, hsz⟩ := C
  intro L st n R I J hk H locs ls h1 h2 hz hP hS hL
  match st, hk with
  | .int y :: .int x :: r, hk => exact lv_imul hx hb hd (h _ _ _ _ _ _ hk H locs ls h1 h2 hz hP hS hL)
theorem S_iand (C : al_Cx F p l e s m args below meth c Rm cc nL own t fr lo n0 ne Q0) (hd : decode cc pc = .ok (.iand, 1)) (h : al_Ok F k (pc + 1)) : al_Ok F (o_iand k) pc := by
  obtain ⟨rfl, hx, hb, hml, hown, hts, hlk, hSt, hfr, hlo, hce, hsl, hne, h90, hsz⟩ := C
  intro L st n R I J hk H locs ls h1 h2 hz hP hS hL
  match st, hk with
  | .int y :: .int x :: r, hk => exact lv_iand hx hb hd (h _ _ _ _ _ _ hk H locs ls h1 h2 hz hP hS hL)
theorem S_ior (C : al_Cx F p l e s m args below meth c Rm cc nL own t fr lo n0 ne Q0) (hd : decode cc pc = .ok (.ior, 1)) (h : al_Ok F k (pc + 1)) : al_Ok F (o_ior k) pc := by
  obtain ⟨rfl, hx, hb, hml, hown, hts, hlk, hSt, hfr, hlo, hce, hsl, hne, h90, hsz⟩ := C
  intro L st n R I J hk H locs ls h1 h2 hz hP hS hL
  match st, hk with
  | .int y :: .int x :: r, hk => exact lv_ior hx hb hd (h _ _ _ _ _ _ hk H locs ls h1 h2 hz hP hS hL)
theorem S_ixor (C : al_Cx F p l e s m args below meth c Rm cc nL own t fr lo n0 ne Q0) (hd : decode cc pc = .ok (.ixor, 1)) (h : al_Ok F k (pc + 1)) : al_Ok F (o_ixor k) pc := by
  obtain ⟨rfl, hx, hb, hml, hown, hts, hlk, hSt, hfr, hlo, hce, hsl, hne, h90, hsz⟩ := C
  intro L st n R I J hk H locs ls h1 h2 hz hP hS hL
  match st, hk with
  | .int y :: .int x :: r, hk => exact lv_ixor hx hb hd (h _ _ _ _ _ _ hk H locs ls h1 h2 hz hP hS hL)
theorem S_ishl (C : al_Cx F p l e s m args below meth c Rm cc nL own t fr lo n0 ne Q0) (hd : decode cc pc = .ok (.ishl, 1)) (h : al_Ok F k (pc + 1)) : al_Ok F (o_ishl k) pc := by
  obtain ⟨rfl, hx, hb, hml, hown, hts, hlk, hSt, hfr, hlo, hce, hsl, hne, h90, hsz⟩ := C
  intro L st n R I J hk H locs ls h1 h2 hz hP hS hL
  match st, hk with
  | .int y :: .int x :: r, hk => exact lv_ishl hx hb hd (h _ _ _ _ _ _ hk H locs ls h1 h2 hz hP hS hL)
theorem S_ishr (C : al_Cx F p l e s m args below meth c Rm cc nL own t fr lo n0 ne Q0) (hd : decode cc pc = .ok (.ishr, 1)) (h : al_Ok F k (pc + 1)) : al_Ok F (o_ishr k) pc := by
  obtain ⟨rfl, hx, hb, hml, hown, hts, hlk, hSt, hfr, hlo, hce, hsl, hne, h90, hsz⟩ := C
  intro L st n R I J hk H locs ls h1 h2 hz hP hS hL
  match st, hk with
  | .int y :: .int x :: r, hk => exact lv_ishr hx hb hd (h _ _ _ _ _ _ hk H locs ls h1 h2 hz hP hS hL)
theorem S_iushr (C : al_Cx F p l e s m args below meth c Rm cc nL own t fr lo n0 ne Q0) (hd : decode cc pc = .ok (.iushr, 1)) (h : al_Ok F k (pc + 1)) : al_Ok F (o_iushr k) pc := by
  obtain ⟨rfl, hx, hb, hml, hown, hts, hlk, hSt, hfr, hlo, hce, hsl, hne, h90, hsz⟩ := C
  intro L st n R I J hk H locs ls h1 h2 hz hP hS hL
  match st, hk with
  | .int y :: .int x :: r, hk => exact lv_iushr hx hb hd rfl (h _ _ _ _ _ _ hk H locs ls h1 h2 hz hP hS hL)
theorem S_idiv (C : al_Cx F p l e s m args below meth c Rm cc nL own t fr lo n0 ne Q0) (hd : decode cc pc = .ok (.idiv, 1)) (h : al_Ok F k (pc + 1)) : al_Ok F (o_idiv k) pc := by
  obtain ⟨rfl, hx, hb, hml, hown, hts, hlk, hSt, hfr, hlo, hce, hsl, hne, h90, hsz⟩ := C
  intro L st n R I J hk H locs ls h1 h2 hz hP hS hL
  match st, hk with
  | .int y :: .int x :: r, hk =>
    obtain ⟨hy, hk⟩ := hk
    exact lv_idiv hx hb hd hy (h _ _ _ _ _ _ hk H locs ls h1 h2 hz hP hS hL)
theorem S_irem (C : al_Cx F p l e s m args below meth c Rm cc nL own t fr lo n0 ne Q0) (hd : decode cc pc = .ok (.irem, 1)) (h : al_Ok F k (pc + 1)) : al_Ok F (o_irem k) pc := by
  obtain ⟨rfl, hx, hb, hml, hown, hts, hlk, hSt, hfr, hlo, hce, hsl, hne, h90, hsz⟩ := C
  intro L st n R I J hk H locs ls h1 h2 hz hP hS hL
  match st, hk with
  | .int y :: .int x :: r, hk =>
    obtain ⟨hy, hk⟩ := hk
    exact lv_irem hx hb hd hy (h _ _ _ _ _ _ hk H locs ls h1 h2 hz hP hS hL)
theorem S_ineg (C : al_Cx F p l e s m args below meth c Rm cc nL own t fr lo n0 ne Q0) (hd : decode cc pc = .ok (.ineg, 1)) (h : al_Ok F k (pc + 1)) : al_Ok F (o_ineg k) pc := by
  obtain ⟨rfl, hx, hb, hml, hown, hts, hlk, hSt, hfr, hlo, hce, hsl, hne, h90, hsz⟩ := C
  intro L st n R I J hk H locs ls h1 h2 hz hP hS hL
  match st, hk with
  | .int x :: r, hk => exact lv_ineg hx hb hd (h _ _ _ _ _ _ hk H locs ls h1 h2 hz hP hS hL)
theorem S_i2b (C : al_Cx F p l e s m args below meth c Rm cc nL own t fr lo n0 ne Q0) (hd : decode cc pc = .ok (.i2b, 1)) (h : al_Ok F k (pc + 1)) : al_Ok F (o_i2b k) pc := by
  obtain ⟨rfl, hx, hb, hml, hown, hts, hlk, hSt, hfr, hlo, hce, hsl, hne, h90, hsz⟩ := C
  intro L st n R I J hk H locs ls h1 h2 hz hP hS hL
  match st, hk with
  | .int x :: r, hk => exact lv_i2b hx hb hd rfl (h _ _ _ _ _ _ hk H locs ls h1 h2 hz hP hS hL)
theorem S_i2s (C : al_Cx F p l e s m args below meth c Rm cc nL own t fr lo n0 ne Q0) (hd : decode cc pc = .ok (.i2s, 1)) (h : al_Ok F k (pc + 1)) : al_Ok F (o_i2s k) pc := by
  obtain ⟨rfl, hx, hb, hml, hown, hts, hlk, hSt, hfr, hlo, hce, hsl, hne, h90, hsz⟩ := C
  intro L st n R I J hk H locs ls h1 h2 hz hP hS hL
  match st, hk with
  | .int x :: r, hk => exact lv_i2s hx hb hd rfl (h _ _ _ _ _ _ hk H locs ls h1 h2 hz hP hS hL)
theorem S_ladd (C : al_Cx F p l e s m args below meth c Rm cc nL own t fr lo n0 ne Q0) (hd : decode cc pc = .ok (.ladd, 1)) (h : al_Ok F k (pc + 1)) : al_Ok F (o_ladd k) pc := by
  obtain ⟨rfl, hx, hb, hml, hown, hts, hlk, hSt, hfr, hlo, hce, hsl, hne, h90, hsz⟩ := C
  intro L st n R I J hk H locs ls h1 h2 hz hP hS hL
  match st, hk with
  | .long y :: .long x :: r, hk => exact lv_ladd hx hb hd (h _ _ _ _ _ _ hk H locs ls h1 h2 hz hP hS hL)
theorem S_lsub (C : al_Cx F p l e s m args below meth c Rm cc nL own t fr lo n0 ne Q0) (hd : decode cc pc = .ok (.lsub, 1)) (h : al_Ok F k (pc + 1)) : al_Ok F (o_lsub k) pc := by
  obtain ⟨rfl, hx, hb, hml, hown, hts, hlk, hSt, hfr, hlo, hce, hsl, hne, h90, hsz⟩ := C
  intro L st n R I J hk H locs ls h1 h2 hz hP hS hL
  match st, hk with
  | .long y :: .long x :: r, hk => exact lv_lsub hx hb hd (h _ _ _ _ _ _ hk H locs ls h1 h2 hz hP hS hL)
theorem S_land (C : al_Cx F p l e s m args below meth c Rm cc nL own t fr lo n0 ne Q0) (hd : decode cc pc = .ok (.land, 1)) (h : al_Ok F k (pc + 1)) : al_Ok F (o_land k) pc := by
  obtain ⟨rfl, hx, hb, hml, hown, hts, hlk, hSt, hfr, hlo, hce, hsl, hne, h90, hsz⟩ := C
  intro L st n R I J hk H locs ls h1 h2 hz hP hS hL
  match st, hk with
  | .long y :: .long x :: r, hk => exact lv_land hx hb hd (h _ _ _ _ _ _ hk H locs ls h1 h2 hz hP hS hL)
theorem S_lor (C : al_Cx F p l e s m args below meth c Rm cc nL own t fr lo n0 ne Q0) (hd : decode cc pc = .ok (.lor, 1)) (h : al_Ok F k (pc + 1)) : al_Ok F (o_lor k) pc := by
  obtain ⟨rfl, hx, hb, hml, hown, hts, hlk, hSt, hfr, hlo, hce, hsl, hne, h90, hsz⟩ := C
  intro L st n R I J hk H locs ls h1 h2 hz hP hS hL
  match st, hk with
  | .long y :: .long x :: r, hk => exact lv_lor hx hb hd (h _ _ _ _ _ _ hk H locs ls h1 h2 hz hP hS hL)
theorem S_lxor (C : al_Cx F p l e s m args below meth c Rm cc nL own t fr lo n0 ne Q0) (hd : decode cc pc = .ok (.lxor, 1)) (h : al_Ok F k (pc + 1)) : al_Ok F (o_lxor k) pc := by
  obtain ⟨rfl, hx, hb, hml, hown, hts, hlk, hSt, hfr, hlo, hce, hsl, hne, h90, hsz⟩ := C
  intro L st n R I J hk H locs ls h1 h2 hz hP hS hL
  match st, hk with
  | .long y :: .long x :: r, hk => exact lv_lxor hx hb hd (h _ _ _ _ _ _ hk H locs ls h1 h2 hz hP hS hL)
theorem S_lshl (C : al_Cx F p l e s m args below meth c Rm cc nL own t fr lo n0 ne Q0) (hd : decode cc pc = .ok (.lshl, 1)) (h : al_Ok F k (pc + 1)) : al_Ok F (o_lshl k) pc := by
  obtain ⟨rfl, hx, hb, hml, hown, hts, hlk, hSt, hfr, hlo, hce, hsl, hne, h90, hsz⟩ := C
  intro L st n R I J hk H locs ls h1 h2 hz hP hS hL
  match st, hk with
  | .int y :: .long x :: r, hk => exact lv_lshl hx hb hd rfl (h _ _ _ _ _ _ hk H locs ls h1 h2 hz hP hS hL)
theorem S_lshr (C : al_Cx F p l e s m args below meth c Rm cc nL own t fr lo n0 ne Q0) (hd : decode cc pc = .ok (.lshr, 1)) (h : al_Ok F k (pc + 1)) : al_Ok F (o_lshr k) pc := by
  obtain ⟨rfl, hx, hb, hml, hown, hts, hlk, hSt, hfr, hlo, hce, hsl, hne, h90, hsz⟩ := C
  intro L st n R I J hk H locs ls h1 h2 hz hP hS hL
  match st, hk with
  | .int y :: .long x :: r, hk => exact lv_lshr hx hb hd rfl (h _ _ _ _ _ _ hk H locs ls h1 h2 hz hP hS hL)
theorem S_lushr (C : al_Cx F p l e s m args below meth c Rm cc nL own t fr lo n0 ne Q0) (hd : decode cc pc = .ok (.lushr, 1)) (h : al_Ok F k (pc + 1)) : al_Ok F (o_lushr k) pc := by
  obtain ⟨rfl, hx, hb, hml, hown, hts, hlk, hSt, hfr, hlo, hce, hsl, hne, h90, hsz⟩ := C
  intro L st n R I J hk H locs ls h1 h2 hz hP hS hL
  match st, hk with
  | .int y :: .long x :: r, hk => exact lv_lushr hx hb hd rfl (h _ _ _ _ _ _ hk H locs ls h1 h2 hz hP hS hL)
theorem S_i2l (C : al_Cx F p l e s m args below meth c Rm cc nL own t fr lo n0 ne Q0) (hd : decode cc pc = .ok (.i2l, 1)) (h : al_Ok F k (pc + 1)) : al_Ok F (o_i2l k) pc := by
  obtain ⟨rfl, hx, hb, hml, hown, hts, hlk, hSt, hfr, hlo, hce, hsl, hne, h90, hsz⟩ := C
  intro L st n R I J hk H locs ls h1 h2 hz hP hS hL
  match st, hk with
  | .int x :: r, hk => exact lv_i2l hx hb hd rfl (h _ _ _ _ _ _ hk H locs ls h1 h2 hz hP hS hL)
theorem S_l2i (C : al_Cx F p l e s m args below meth c Rm cc nL own t fr lo n0 ne Q0) (hd : decode cc pc = .ok (.l2i, 1)) (h : al_Ok F k (pc + 1)) : al_Ok F (o_l2i k) pc := by
  obtain ⟨rfl, hx, hb, hml, hown, hts, hlk, hSt, hfr, hlo, hce, hsl, hne, h90, hsz⟩ := C
  intro L st n R I J hk H locs ls h1 h2 hz hP hS hL
  match st, hk with
  | .long x :: r, hk => exact lv_l2i hx hb hd rfl (h _ _ _ _ _ _ hk H locs ls h1 h2 hz hP hS hL)
theorem S_lcmp (C : al_Cx F p l e s m args below meth c Rm cc nL own t fr lo n0 ne Q0) (hd : decode cc pc = .ok (.lcmp, 1)) (h : al_Ok F k (pc + 1)) : al_Ok F (o_lcmp k) pc := by
  obtain ⟨rfl, hx, hb, hml, hown, hts, hlk, hSt, hfr, hlo, hce, hsl, hne, h90, hsz⟩ := C
  intro L st n R I J hk H locs ls h1 h2 hz hP hS hL
  match st, hk with
  | .long y :: .long x :: r, hk => exact W.lcmp hx hb hd (h _ _ _ _ _ _ hk H locs ls h1 h2 hz hP hS hL)
theorem S_dup (C : al_Cx F p l e s m args below meth c Rm cc nL own t fr lo n0 ne Q0) (hd : decode cc pc = .ok (.dup, 1)) (h : al_Ok F k (pc + 1)) : al_Ok F (o_dup k) pc := by
  obtain ⟨rfl, hx, hb, hml, hown, hts, hlk, hSt, hfr, hlo, hce, hsl, hne, h90, hsz⟩ := C
  intro L st n R I J hk H locs ls h1 h2 hz hP hS hL
  match st, hk with
  | .int x :: r, hk => exact lv_dup hx hb hd rfl (h _ _ _ _ _ _ hk H locs ls h1 h2 hz hP hS hL)
  | .ref x :: r, hk => exact lv_dup hx hb hd rfl (h _ _ _ _ _ _ hk H locs ls h1 h2 hz hP hS hL)
theorem S_dup2 (C : al_Cx F p l e s m args below meth c Rm cc nL own t fr lo n0 ne Q0) (hd : decode cc pc = .ok (.dup2, 1)) (h : al_Ok F k (pc + 1)) : al_Ok F (o_dup2 k) pc := by
  obtain ⟨rfl, hx, hb, hml, hown, hts, hlk, hSt, hfr, hlo, hce, hsl, hne, h90, hsz⟩ := C
  intro L st n R I J hk H locs ls h1 h2 hz hP hS hL
  match st, hk with
  | .int x :: .ref y :: r, hk => exact lv_dup2_11 hx hb hd rfl rfl (h _ _ _ _ _ _ hk H locs ls h1 h2 hz hP hS hL)
theorem S_pop (C : al_Cx F p l e s m args below meth c Rm cc nL own t fr lo n0 ne Q0) (hd : decode cc pc = .ok (.pop, 1)) (h : al_Ok F k (pc + 1)) : al_Ok F (o_pop k) pc := by
  obtain ⟨rfl, hx, hb, hml, hown, hts, hlk, hSt, hfr, hlo, hce, hsl, hne, h90, hsz⟩ := C
  intro L st n R I J hk H locs ls h1 h2 hz hP hS hL
  match st, hk with
  | .int x :: r, hk => exact lv_pop hx hb hd rfl (h _ _ _ _ _ _ hk H locs ls h1 h2 hz hP hS hL)
theorem S_ifeq (C : al_Cx F p l e s m args below meth c Rm cc nL own t fr lo n0 ne Q0) {off : Int} {tgt : Nat} (hd : decode cc pc = .ok (.ifCond .eq off, 3)) (ht : (pc : Int) + off = (tgt : Int)) (h : al_Ok F k (pc + 3)) : al_Ok F (o_ifeq (F tgt) k) pc := by
  obtain ⟨rfl, hx, hb, hml, hown, hts, hlk, hSt, hfr, hlo, hce, hsl, hne, h90, hsz⟩ := C
  intro L st n R I J hk H locs ls h1 h2 hz hP hS hL
  match st, hk with
  | .int x :: r, hk => exact lv_if_eq hx hb hd ht (fun q => hk.1 q H locs ls h1 h2 hz hP hS hL) (fun q => h _ _ _ _ _ _ (hk.2 q) H locs ls h1 h2 hz hP hS hL)
theorem S_icmpeq (C : al_Cx F p l e s m args below meth c Rm cc nL own t fr lo n0 ne Q0) {off : Int} {tgt : Nat} (hd : decode cc pc = .ok (.if_icmp .eq off, 3)) (ht : (pc : Int) + off = (tgt : Int)) (h : al_Ok F k (pc + 3)) : al_Ok F (o_iceq (F tgt) k) pc := by
  obtain ⟨rfl, hx, hb, hml, hown, hts, hlk, hSt, hfr, hlo, hce, hsl, hne, h90, hsz⟩ := C
  intro L st n R I J hk H locs ls h1 h2 hz hP hS hL
  match st, hk with
  | .int y :: .int x :: r, hk => exact lv_icmp_eq hx hb hd ht (fun q => hk.1 q H locs ls h1 h2 hz hP hS hL) (fun q => h _ _ _ _ _ _ (hk.2 q) H locs ls h1 h2 hz hP hS hL)
theorem S_ifne (C : al_Cx F p l e s m args below meth c Rm cc nL own t fr lo n0 ne Q0) {off : Int} {tgt : Nat} (hd : decode cc pc = .ok (.ifCond .ne off, 3)) (ht : (pc : Int) + off = (tgt : Int)) (h : al_Ok F k (pc + 3)) : al_Ok F (o_ifne (F tgt) k) pc := by
  obtain ⟨rfl, hx, hb, hml, hown, hts, hlk, hSt, hfr, hlo, hce, hsl, hne, h90, hsz⟩ := C
  intro L st n R I J hk H locs ls h1 h2 hz hP hS hL
  match st, hk with
  | .int x :: r, hk => exact lv_if_ne hx hb hd ht (fun q => hk.1 q H locs ls h1 h2 hz hP hS hL) (fun q => h _ _ _ _ _ _ (hk.2 q) H locs ls h1 h2 hz hP hS hL)
theorem S_icmpne (C : al_Cx F p l e s m args below meth c Rm cc nL own t fr lo n0 ne Q0) {off : Int} {tgt : Nat} (hd : decode cc pc = .ok (.if_icmp .ne off, 3)) (ht : (pc : Int) + off = (tgt : Int)) (h : al_Ok F k (pc + 3)) : al_Ok F (o_icne (F tgt) k) pc := by
  obtain ⟨rfl, hx, hb, hml, hown, hts, hlk, hSt, hfr, hlo, hce, hsl, hne, h90, hsz⟩ := C
  intro L st n R I J hk H locs ls h1 h2 hz hP hS hL
  match st, hk with
  | .int y :: .int x :: r, hk => exact lv_icmp_ne hx hb hd ht (fun q => hk.1 q H locs ls h1 h2 hz hP hS hL) (fun q => h _ _ _ _ _ _ (hk.2 q) H locs ls h1 h2 hz hP hS hL)
theorem S_iflt (C : al_Cx F p l e s m args below meth c Rm cc nL own t fr lo n0 ne Q0) {off : Int} {tgt : Nat} (hd : decode cc pc = .ok (.ifCond .lt off, 3)) (ht : (pc : Int) + off = (tgt : Int)) (h : al_Ok F k (pc + 3)) : al_Ok F (o_iflt (F tgt) k) pc := by
  obtain ⟨rfl, hx, hb, hml, hown, hts, hlk, hSt, hfr, hlo, hce, hsl, hne, h90, hsz⟩ := C
  intro L st n R I J hk H locs ls h1 h2 hz hP hS hL
  match st, hk with
  | .int x :: r, hk => exact lv_if_lt hx hb hd ht (fun q => hk.1 q H locs ls h1 h2 hz hP hS hL) (fun q => h _ _ _ _ _ _ (hk.2 q) H locs ls h1 h2 hz hP hS hL)
theorem S_icmplt (C : al_Cx F p l e s m args below meth c Rm cc nL own t fr lo n0 ne Q0) {off : Int} {tgt : Nat} (hd : decode cc pc = .ok (.if_icmp .lt off, 3)) (ht : (pc : Int) + off = (tgt : Int)) (h : al_Ok F k (pc + 3)) : al_Ok F (o_iclt (F tgt) k) pc := by
  obtain ⟨rfl, hx, hb, hml, hown, hts, hlk, hSt, hfr, hlo, hce, hsl, hne, h90, hsz⟩ := C
  intro L st n R I J hk H locs ls h1 h2 hz hP hS hL
  match st, hk with
  | .int y :: .int x :: r, hk => exact lv_icmp_lt hx hb hd ht (fun q => hk.1 q H locs ls h1 h2 hz hP hS hL) (fun q => h _ _ _ _ _ _ (hk.2 q) H locs ls h1 h2 hz hP hS hL)
theorem S_ifge (C : al_Cx F p l e s m args below meth c Rm cc nL own t fr lo n0 ne Q0) {off : Int} {tgt : Nat} (hd : decode cc pc = .ok (.ifCond .ge off, 3)) (ht : (pc : Int) + off = (tgt : Int)) (h : al_Ok F k (pc + 3)) : al_Ok F (o_ifge (F tgt) k) pc := by
  obtain ⟨rfl, hx, hb, hml, hown, hts, hlk, hSt, hfr, hlo, hce, hsl, hne, h90, hsz⟩ := C
  intro L st n R I J hk H locs ls h1 h2 hz hP hS hL
  match st, hk with
  | .int x :: r, hk => exact lv_if_ge hx hb hd ht (fun q => hk.1 q H locs ls h1 h2 hz hP hS hL) (fun q => h _ _ _ _ _ _ (hk.2 q) H locs ls h1 h2 hz hP hS hL)
theorem S_icmpge (C : al_Cx F p l e s m args below meth c Rm cc nL own t fr lo n0 ne Q0) {off : Int} {tgt : Nat} (hd : decode cc pc = .ok (.if_icmp .ge off, 3)) (ht : (pc : Int) + off = (tgt : Int)) (h : al_Ok F k (pc + 3)) : al_Ok F (o_icge (F tgt) k) pc := by
  obtain ⟨rfl, hx, hb, hml, hown, hts, hlk, hSt, hfr, hlo, hce, hsl, hne, h90, hsz⟩ := C
  intro L st n R I J hk H locs ls h1 h2 hz hP hS hL
  match st, hk with
  | .int y :: .int x :: r, hk => exact lv_icmp_ge hx hb hd ht (fun q => hk.1 q H locs ls h1 h2 hz hP hS hL) (fun q => h _ _ _ _ _ _ (hk.2 q) H locs ls h1 h2 hz hP hS hL)
theorem S_ifgt (C : al_Cx F p l e s m args below meth c Rm cc nL own t fr lo n0 ne Q0) {off : Int} {tgt : Nat} (hd : decode cc pc = .ok (.ifCond .gt off, 3)) (ht : (pc : Int) + off = (tgt : Int)) (h : al_Ok F k (pc + 3)) : al_Ok F (o_ifgt (F tgt) k) pc := by
  obtain ⟨rfl, hx, hb, hml, hown, hts, hlk, hSt, hfr, hlo, hce, hsl, hne, h90, hsz⟩ := C
  intro L st n R I J hk H locs ls h1 h2 hz hP hS hL
  match st, hk with
  | .int x :: r, hk => exact lv_if_gt hx hb hd ht (fun q => hk.1 q H locs ls h1 h2 hz hP hS hL) (fun q => h _ _ _ _ _ _ (hk.2 q) H locs ls h1 h2 hz hP hS hL)
theorem S_icmpgt (C : al_Cx F p l e s m args below meth c Rm cc nL own t fr lo n0 ne Q0) {off : Int} {tgt : Nat} (hd : decode cc pc = .ok (.if_icmp .gt off, 3)) (ht : (pc : Int) + off = (tgt : Int)) (h : al_Ok F k (pc + 3)) : al_Ok F (o_icgt (F tgt) k) pc := by
  obtain ⟨rfl, hx, hb, hml, hown, hts, hlk, hSt, hfr, hlo, hce, hsl, hne, h90, hsz⟩ := C
  intro L st n R I J hk H locs ls h1 h2 hz hP hS hL
  match st, hk with
  | .int y :: .int x :: r, hk => exact lv_icmp_gt hx hb hd ht (fun q => hk.1 q H locs ls h1 h2 hz hP hS hL) (fun q => h _ _ _ _ _ _ (hk.2 q) H locs ls h1 h2 hz hP hS hL)
theorem S_ifle (C : al_Cx F p l e s m args below meth c Rm cc nL own t fr lo n0 ne Q0) {off : Int} {tgt : Nat} (hd : decode cc pc = .ok (.ifCond .le off, 3)) (ht : (pc : Int) + off = (tgt : Int)) (h : al_Ok F k (pc + 3)) : al_Ok F (o_ifle (F tgt) k) pc := by
  obtain ⟨rfl, hx, hb, hml, hown, hts, hlk, hSt, hfr, hlo, hce, hsl, hne, h90, hsz⟩ := C
  intro L st n R I J hk H locs ls h1 h2 hz hP hS hL
  match st, hk with
  | .int x :: r, hk => exact lv_if_le hx hb hd ht (fun q => hk.1 q H locs ls h1 h2 hz hP hS hL) (fun q => h _ _ _ _ _ _ (hk.2 q) H locs ls h1 h2 hz hP hS hL)
theorem S_icmple (C : al_Cx F p l e s m args below meth c Rm cc nL own t fr lo n0 ne Q0) {off : Int} {tgt : Nat} (hd : decode cc pc = .ok (.if_icmp .le off, 3)) (ht : (pc : Int) + off = (tgt : Int)) (h : al_Ok F k (pc + 3)) : al_Ok F (o_icle (F tgt) k) pc := by
  obtain ⟨rfl, hx, hb, hml, hown, hts, hlk, hSt, hfr, hlo, hce, hsl, hne, h90, hsz⟩ := C
  intro L st n R I J hk H locs ls h1 h2 hz hP hS hL
  match st, hk with
  | .int y :: .int x :: r, hk => exact lv_icmp_le hx hb hd ht (fun q => hk.1 q H locs ls h1 h2 hz hP hS hL) (fun q => h _ _ _ _ _ _ (hk.2 q) H locs ls h1 h2 hz hP hS hL)
theorem S_goto (C : al_Cx F p l e s m args below meth c Rm cc nL own t fr lo n0 ne Q0) {off : Int} {tgt : Nat} (hd : decode cc pc = .ok (.goto off, 3)) (ht : (pc : Int) + off = (tgt : Int)) : al_Ok F (F tgt) pc := by
  obtain ⟨rfl, hx, hb, hml, hown, hts, hlk, hSt, hfr, hlo, hce, hsl, hne, h90, hsz⟩ := C
  intro L st n R I J hk H locs ls h1 h2 hz hP hS hL
  exact lv_goto hx hb hd ht (hk H locs ls h1 h2 hz hP hS hL)
end ALA
