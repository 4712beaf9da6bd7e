def al_Wk (F : FT) : Prop := ∀ (pc : Nat) (L L' : List (Option Value)) (st : List Value) (n : Nat) (R : RR) (I : II) (J : JJ), al_le L' L → F pc L' st n R I J → F pc L st n R I J
def al_dv (y : Nat) : Value := match y with
  | 1 => .long 0
  | 2 => .null
  | _ => .int 0
/-- a call of a method of the class above, on any object of a known class -/
def o_cW (μ : MD) (na : Nat) (k : KT) : KT := fun L st n R I J => al_pop na st [] (fun av r => al_hd av (fun q => al_rk (al_cls n q) (fun ci => ci < 13 ∧ al_r8 r (CT μ 0 av n R I J (fun v n' R' I' J' => al_pu v r (fun st' => k L st' n' R' I' J'))))))
theorem al_ws_push {t : TH} {n : Nat} {R : RR} {I : II} {J : JJ} {H H1 : Heap} (hP : va_P (th_D t) vwCl (al_ws t n R I J) H) (hz : H.size = th_b t + n) (o1 : ∀ q : Nat, q < th_b t + n → H1[q]? = H[q]?) (hn : va_at (th_D t) vwCl (th_b t + n, al_ce t R I J n) H1) : va_P (th_D t) vwCl (al_ws t (n + 1) R I J) H1 := by
  intro k q hk
  obtain ⟨h1, rfl⟩ := al_ws_some hk
  by_cases h2 : k = n
  · subst h2
    exact hn
  · exact (hP k _ (al_ws_get t n R I J (by omega))).kept (o1 _ (by show th_b t + k < _; omega))
theorem al_cpy_row {α : Type} {f : Nat → Nat → α} {p q sp dp n x : Nat} (h : x ≠ q) : al_cpy f p q sp dp n x = f x := by
  funext j
  simp [al_cpy, h]
theorem al_cpy_at {α : Type} {f : Nat → Nat → α} {p q sp dp n : Nat} : al_cpy f p q sp dp n q = va_cpy (f p) (f q) sp dp n := by
  funext j
  simp [al_cpy, va_cpy]
theorem al_str_ad (t : TH) {v : Nat} (h : al_st v) : al_ad t v = th_K t (v - 2000) ∧ v - 2000 < 13 := by
  obtain ⟨h1, h2⟩ := h
  refine ⟨?_, by omega⟩
  unfold al_ad
  rw [if_neg (by omega), if_neg (by omega), if_pos (by omega)]
section ALD
variable {F : FT} {p : Program} {l : Launch} {e : Env} {s : State} {m : MethodId} {args : Array Value} {below : List Frame} {meth : Method} {c : Code} {Rm : Room} {cc : ByteArray} {nL : Nat} {own : String} {t : TH} {fr lo n0 ne : Nat} {Q0 : State → Prop} {k : KT} {pc : Nat}
theorem S_new (C : al_Cx F p l e s m args below meth c Rm cc nL own t fr lo n0 ne Q0) {Cn : String} {T : u_T} {N ci index : Nat} (hin : ∀ w ∈ u_ws Cn T N, w ∈ al_gt) (hc : vwCl[ci]? = some (Cn, T, N)) (hN : (al_ft ci).length = N) (ty : Nat → FieldType) (hty : ∀ k, k < N → parseFieldDescriptor (T k).2.2.1 = some (ty k)) (hdf : ∀ j, j < N → defaultValue (ty j) = al_dv ((al_ft ci).getD j 0)) (hw1 : Cond.classLink own index Cn ∈ al_gt) (hw2 : Cond.instantiable Cn N ∈ al_gt) (hw3 : Cond.initialized Cn ∈ al_gt) (hd : decode cc pc = .ok (.new index, 3)) (h : al_Ok F k (pc + 3)) : al_Ok F (o_new ne ci k) pc := by
  obtain ⟨rfl, hx, hb, hml, hown, hts, hlk, hSt, hfr, hlo, hce, hsl, hne, h90, hsz⟩ := C
  intro L st n R I J hk H locs ls h1 h2 hz hP hS hL
  obtain ⟨hlt, ⟨hsk, hR, hI, hJ⟩, hk⟩ := hk
  have hz := hz (by omega)
  have hKn := hSt.1.1 ci _ hc
  have m0 : al_sz (n + 1) = al_sz n + N := by
    show al_sz n + al_szp n = _
    simp only [al_szp, hsk, hN]
  have m1 := al_sz_mono h1
  have m2 := al_sz_mono (show n + 1 ≤ ne by omega)
  refine W.newcK hx hb hown (hts _ hw1) (hts _ hw2) (hts _ hw3) rfl hd (by omega) (by omega) hKn.2.1 hz fun H1 kC hkC e1 z1 o1 => ?_
  refine W.cs (cells' := n + 1 - n0) (slots' := al_sz (n + 1) - al_sz n0) (by omega) (by omega) ?_
  have ea : al_ad t n = th_b t + n := al_adp t (Nat.lt_succ_self n) (by omega)
  have h9 := h _ _ _ _ _ _ hk H1 locs ls (by omega) (by omega) (fun _ => by rw [z1]; omega) (al_ws_push hP hz o1 ?_) ⟨Nat.le_trans hS.1 (by omega), fun x g1 g2 => (o1 x (by have := hS.1; omega)).trans (hS.2.1 x g1 g2), hS.2.2⟩ hL
  · rw [List.map_cons] at h9
    show W p l e Rm s m args below meth c H1 locs _ _ Q0 (F0 m (pc + 3) ls (.ref (th_b t + n) :: st.map (al_tr t)))
    rw [← ea]
    exact h9
  · rw [al_ceo hsk]
    refine ⟨_, hc, (u_born ty hts hin hKn hkC e1 hty).to (fun j hj => ?_)⟩
    have hjl : j < (al_ft ci).length := by omega
    show defaultValue (ty j) = (al_fs t R I J n (al_ft ci) 0).getD j .null
    rw [hdf j hj, List.getD_eq_getElem?_getD, List.getD_eq_getElem?_getD, al_fs_get, List.getElem?_eq_getElem hjl]
    simp only [Option.getD_some, Option.map_some, Nat.zero_add]
    generalize (al_ft ci)[j] = y
    match y with
    | 0 => simp [al_dv, al_fv, hI]
    | 1 => simp [al_dv, al_fv, hJ]
    | 2 => simp [al_dv, al_fv, hR, va_rf]
    | y + 3 => simp [al_dv, al_fv, hI]
theorem al_newarr {H H1 : Heap} {locs : List Loc} {ls : Array Slot} {L : List (Option Value)} {st : List Value} {n d : Nat} {R : RR} {I : II} {J : JJ} {ak len : Nat} {f : Nat → Value} (hsk : al_sk n = .inr (ak, len)) (hz : H.size = th_b t + n) (h90 : ne ≤ 90) (h1 : n0 ≤ n) (hlt : n < ne) (hP : va_P (th_D t) vwCl (al_ws t n R I J) H) (hS : va_S (al_A t) s.heap H locs) (hL : al_rl t ls nL L) (z1 : H1.size = th_b t + n + 1) (o1 : ∀ q : Nat, q < th_b t + n → H1[q]? = H[q]?) (e1 : H1[th_b t + n]? = some (arrV (th_c t ak) len f)) (hv : vp_cell (th_c t ak) (al_ar t R I J n ak len) = arrV (th_c t ak) len f)
    (h9 : al_F p l e s m args below meth c Rm nL t n0 ne Q0 (pc + d) L (.ref n :: st) (n + 1) R I J) : W p l e Rm s m args below meth c H1 locs (n - n0 + 1) (al_sz n - al_sz n0 + len) Q0 (F0 m (pc + d) ls (.ref (th_b t + n) :: st.map (al_tr t))) := by
  have m0 : al_sz (n + 1) = al_sz n + len := by
    show al_sz n + al_szp n = _
    simp only [al_szp, hsk]
  have m1 := al_sz_mono h1
  have ea : al_ad t n = th_b t + n := al_adp t (Nat.lt_succ_self n) (by omega)
  have h8 := h9 H1 locs ls (by omega) (by omega) (fun _ => by rw [z1]; omega) (al_ws_push hP hz o1 (by rw [al_cea hsk]; show H1[th_b t + n]? = some (vp_cell _ _); rw [e1, hv])) ⟨Nat.le_trans hS.1 (by omega), fun x g1 g2 => (o1 x (by have := hS.1; omega)).trans (hS.2.1 x g1 g2), hS.2.2⟩ hL
  rw [List.map_cons] at h8
  refine W.cs (cells' := n + 1 - n0) (slots' := al_sz (n + 1) - al_sz n0) (by omega) (by omega) ?_
  rw [← ea]
  exact h8
theorem S_newa0 (C : al_Cx F p l e s m args below meth c Rm cc nL own t fr lo n0 ne Q0) {len : Nat} (hw : Cond.arrayClass .int ∈ al_gt) (hd : decode cc pc = .ok (.newarray .int, 2)) (h : al_Ok F k (pc + 2)) : al_Ok F (o_newa ne 0 len k) pc := by
  obtain ⟨rfl, hx, hb, hml, hown, hts, hlk, hSt, hfr, hlo, hce, hsl, hne, h90, hsz⟩ := C
  intro L st n R I J hk H locs ls h1 h2 hz hP hS hL
  match st, hk with
  | .int x :: r, hk =>
    obtain ⟨rfl, hlt, hsk, ⟨hR, hI, hJ⟩, hk⟩ := hk
    have hz := hz (by omega)
    have hl : len < 2 ^ 16 := by
      have h3 := (by decide +kernel : ∀ p, p < 90 → al_szp p < 2 ^ 16) n (by omega)
      simp only [al_szp, hsk] at h3
      exact h3
    have m0 : al_sz (n + 1) = al_sz n + len := by
      show al_sz n + al_szp n = _
      simp only [al_szp, hsk]
    have m1 := al_sz_mono h1
    have m2 := al_sz_mono (show n + 1 ≤ ne by omega)
    refine va_newaK (atype := .int) hx hb (hts _ hw) (g := F0 m pc ls (.int (nI len) :: r.map (al_tr t))) rfl hd rfl (nI_pos (by omega)) (nI_clamp (by omega)) (Nat.le_trans (Nat.mul_le_mul (Nat.le_of_lt hl) (by decide : componentBytes (newarray.typeOf .int) ≤ 8)) (by decide)) (by omega) (by omega) hz fun H1 cA e1 z1 o1 hAr hNm => ?_
    have hcA : cA = th_c t 0 := Option.some.inj (hNm.symm.trans (hSt.1.2 0 _ rfl).2)
    subst hcA
    exact al_newarr (d := 2) hsk hz h90 h1 hlt hP hS hL z1 o1 e1 (by
      rw [show al_ar t R I J n 0 len = (len, .inl (I n)) from rfl, vp_cell_i]
      congr 1
      funext j
      rw [hI]
      rfl) (h _ _ _ _ _ _ hk)
theorem S_newa1 (C : al_Cx F p l e s m args below meth c Rm cc nL own t fr lo n0 ne Q0) {len : Nat} (hw : Cond.arrayClass .long ∈ al_gt) (hd : decode cc pc = .ok (.newarray .long, 2)) (h : al_Ok F k (pc + 2)) : al_Ok F (o_newa ne 1 len k) pc := by
  obtain ⟨rfl, hx, hb, hml, hown, hts, hlk, hSt, hfr, hlo, hce, hsl, hne, h90, hsz⟩ := C
  intro L st n R I J hk H locs ls h1 h2 hz hP hS hL
  match st, hk with
  | .int x :: r, hk =>
    obtain ⟨rfl, hlt, hsk, ⟨hR, hI, hJ⟩, hk⟩ := hk
    have hz := hz (by omega)
    have hl : len < 2 ^ 16 := by
      have h3 := (by decide +kernel : ∀ p, p < 90 → al_szp p < 2 ^ 16) n (by omega)
      simp only [al_szp, hsk] at h3
      exact h3
    have m0 : al_sz (n + 1) = al_sz n + len := by
      show al_sz n + al_szp n = _
      simp only [al_szp, hsk]
    have m1 := al_sz_mono h1
    have m2 := al_sz_mono (show n + 1 ≤ ne by omega)
    refine va_newaK (atype := .long) hx hb (hts _ hw) (g := F0 m pc ls (.int (nI len) :: r.map (al_tr t))) rfl hd rfl (nI_pos (by omega)) (nI_clamp (by omega)) (Nat.le_trans (Nat.mul_le_mul (Nat.le_of_lt hl) (by decide : componentBytes (newarray.typeOf .long) ≤ 8)) (by decide)) (by omega) (by omega) hz fun H1 cA e1 z1 o1 hAr hNm => ?_
    have hcA : cA = th_c t 1 := Option.some.inj (hNm.symm.trans (hSt.1.2 1 _ rfl).2)
    subst hcA
    exact al_newarr (d := 2) hsk hz h90 h1 hlt hP hS hL z1 o1 e1 (by
      rw [show al_ar t R I J n 1 len = (len, .inr (.inl (J n))) from rfl, vp_cell_l]
      congr 1
      funext j
      rw [hJ]
      rfl) (h _ _ _ _ _ _ hk)
theorem S_newa2 (C : al_Cx F p l e s m args below meth c Rm cc nL own t fr lo n0 ne Q0) {len : Nat} (hw : Cond.arrayClass .boolean ∈ al_gt) (hd : decode cc pc = .ok (.newarray .boolean, 2)) (h : al_Ok F k (pc + 2)) : al_Ok F (o_newa ne 2 len k) pc := by
  obtain ⟨rfl, hx, hb, hml, hown, hts, hlk, hSt, hfr, hlo, hce, hsl, hne, h90, hsz⟩ := C
  intro L st n R I J hk H locs ls h1 h2 hz hP hS hL
  match st, hk with
  | .int x :: r, hk =>
    obtain ⟨rfl, hlt, hsk, ⟨hR, hI, hJ⟩, hk⟩ := hk
    have hz := hz (by omega)
    have hl : len < 2 ^ 16 := by
      have h3 := (by decide +kernel : ∀ p, p < 90 → al_szp p < 2 ^ 16) n (by omega)
      simp only [al_szp, hsk] at h3
      exact h3
    have m0 : al_sz (n + 1) = al_sz n + len := by
      show al_sz n + al_szp n = _
      simp only [al_szp, hsk]
    have m1 := al_sz_mono h1
    have m2 := al_sz_mono (show n + 1 ≤ ne by omega)
    refine va_newaK (atype := .boolean) hx hb (hts _ hw) (g := F0 m pc ls (.int (nI len) :: r.map (al_tr t))) rfl hd rfl (nI_pos (by omega)) (nI_clamp (by omega)) (Nat.le_trans (Nat.mul_le_mul (Nat.le_of_lt hl) (by decide : componentBytes (newarray.typeOf .boolean) ≤ 8)) (by decide)) (by omega) (by omega) hz fun H1 cA e1 z1 o1 hAr hNm => ?_
    have hcA : cA = th_c t 2 := Option.some.inj (hNm.symm.trans (hSt.1.2 2 _ rfl).2)
    subst hcA
    exact al_newarr (d := 2) hsk hz h90 h1 hlt hP hS hL z1 o1 e1 (by
      rw [show al_ar t R I J n 2 len = (len, .inl (I n)) from rfl, vp_cell_i]
      congr 1
      funext j
      rw [hI]
      rfl) (h _ _ _ _ _ _ hk)
theorem S_anewa (C : al_Cx F p l e s m args below meth c Rm cc nL own t fr lo n0 ne Q0) {ak len index : Nat} {Cn : String} (hak : ∀ (t : TH) (R : RR) (I : II) (J : JJ) (q len : Nat), al_ar t R I J q ak len = (len, .inr (.inr (.inr (.inr (fun j => (R q j).map (al_ad t))))))) (hty : ∀ t : TH, (al_tys t)[ak]? = some (th_c t ak, .object Cn)) (hw1 : Cond.classLink own index Cn ∈ al_gt) (hw2 : Cn ∈ al_arN) (hd : decode cc pc = .ok (.anewarray index, 3)) (h : al_Ok F k (pc + 3)) : al_Ok F (o_newa ne ak len k) pc := by
  obtain ⟨rfl, hx, hb, hml, hown, hts, hlk, hSt, hfr, hlo, hce, hsl, hne, h90, hsz⟩ := C
  intro L st n R I J hk H locs ls h1 h2 hz hP hS hL
  match st, hk with
  | .int x :: r, hk =>
    obtain ⟨rfl, hlt, hsk, ⟨hR, hI, hJ⟩, hk⟩ := hk
    have hz := hz (by omega)
    have hl : len < 2 ^ 16 := by
      have h3 := (by decide +kernel : ∀ p, p < 90 → al_szp p < 2 ^ 16) n (by omega)
      simp only [al_szp, hsk] at h3
      exact h3
    have hcl : (nI len).toNatClampNeg = len := nI_clamp (by omega)
    have m0 : al_sz (n + 1) = al_sz n + len := by
      show al_sz n + al_szp n = _
      simp only [al_szp, hsk]
    have m1 := al_sz_mono h1
    have m2 := al_sz_mono (show n + 1 ≤ ne by omega)
    refine W.anew hx hb hown (hts _ hw1) (va_AO.use (hSt.2.2.2.2.2.2 _ hw2)) (g := F0 m pc ls (.int (nI len) :: r.map (al_tr t))) rfl hd rfl (nI_pos (by omega)) (by rw [hcl]; omega) (by omega) (by rw [hcl]; omega) fun cA kA comp g1 g2 g3 g4 => ?_
    obtain ⟨kA', comp', q1, q2, q3, q4⟩ := (hSt.1.2 ak _ (hty t)).2
    have hcA : cA = th_c t ak := Option.some.inj (g1.symm.trans q4)
    subst hcA
    rw [hcl, hz, arrV_new]
    exact al_newarr (d := 3) (f := fun _ => .null) hsk hz h90 h1 hlt hP hS hL (by simp [hz]) (fun q hq => by rw [Array.getElem?_push, if_neg (by omega)]) (by rw [Array.getElem?_push, if_pos hz.symm]) (by
      rw [hak, vp_cell_q]
      congr 1
      funext j
      simp [hR, va_rf]) (h _ _ _ _ _ _ hk)
/-- a reference is stored in an array of references -/
theorem al_aast {H : Heap} {locs : List Loc} {ls : Array Slot} {cells slots n : Nat} {R : RR} {I : II} {J : JJ} {rest : List Value} {ak len q j v : Nat} {i : Int32} {Cn : String} (hx : p.tables.exec = Jvm.exec) (hb : c.code = cc) (hak : ∀ (t : TH) (R : RR) (I : II) (J : JJ) (q len : Nat), al_ar t R I J q ak len = (len, .inr (.inr (.inr (.inr (fun j => (R q j).map (al_ad t))))))) (hty : ∀ t : TH, (al_tys t)[ak]? = some (th_c t ak, .object Cn)) (hK : va_K (th_D t) vwCl (al_tys t) s) (hP : va_P (th_D t) vwCl (al_ws t n R I J) H) (hS : va_S (al_A t) s.heap H locs) (hq : al_ark n q = some (ak, len)) (hn : n ≤ 90) (hj : j < len) (hi : i = nI j) (hany : va_Any Cn s H (al_ad t v)) (hd : decode cc pc = .ok (.aastore, 1))
    (kk : ∀ (H1 : Heap) (locs1 : List Loc), H1.size = H.size → va_P (th_D t) vwCl (al_ws t n (al_up R q j (some v)) I J) H1 → va_S (al_A t) s.heap H1 locs1 → W p l e Rm s m args below meth c H1 locs1 cells slots Q0 (F0 m (pc + 1) ls rest)) : W p l e Rm s m args below meth c H locs cells slots Q0 (F0 m pc ls (.ref (al_ad t v) :: .int i :: .ref (th_b t + q) :: rest)) := by
  obtain ⟨hqn, hsk⟩ := al_ark_of hq
  obtain ⟨hin, hcl⟩ := al_in_of hi hj (al_len_lt hq hn)
  have hlt : i.toNatClampNeg < len := by omega
  have h0 : ¬ i < 0 := fun q => hin (Or.inl q)
  obtain ⟨cellV, g1, g3, ⟨kC, hkC⟩, hasg⟩ := hany
  obtain ⟨kA, comp, k1, k2, k3, -⟩ := (hK.2 ak _ (hty t)).2
  obtain ⟨kE, hkE, -⟩ := Vm.findClass_spec k3
  have har := al_arr (t := t) (R := R) (I := I) (J := J) hq
  rw [hak] at har
  refine W.aast hx hb (hP q _ har) (fun q h => by cases h) (fun h => by cases h) k1 k2 rfl hkE ⟨h0, by show _ < (arrV _ _ _).slots.size; rw [arrV_size]; exact hlt⟩ g1 (fun q h => by rw [h] at g3; cases g3) hkC (hasg _ k3) rfl rfl hd fun H1 e z oq => ?_
  refine kk H1 _ z (al_upd (R := R) (I := I) (J := J) hP hqn ?_ (fun x hx9 => ⟨al_up_row hx9, rfl, rfl⟩) oq) (hS.put z oq (Nat.le_add_right _ _))
  rw [al_cea hsk, hak]
  show H1[th_b t + q]? = some (vp_cell _ _)
  rw [e]
  show some ((arrV (th_c t ak) len (fun j' => va_rf ((R q j').map (al_ad t)))).setSlot _ _) = _
  rw [vp_cell_q, arrV_store, hcl]
  congr 2
  funext x
  by_cases hxj : x = j
  · subst hxj
    simp [updV, al_up_s, va_rf]
  · simp [updV, hxj, al_up_j hxj]
theorem S_aast (C : al_Cx F p l e s m args below meth c Rm cc nL own t fr lo n0 ne Q0) {ak ci N : Nat} {Cn Cv : String} {T : u_T} (hak : ∀ (t : TH) (R : RR) (I : II) (J : JJ) (q len : Nat), al_ar t R I J q ak len = (len, .inr (.inr (.inr (.inr (fun j => (R q j).map (al_ad t))))))) (hty : ∀ t : TH, (al_tys t)[ak]? = some (th_c t ak, .object Cn)) (hc : vwCl[ci]? = some (Cv, T, N)) (hasg : al_St t s s.heap → ∀ comp c0 : ClassId, s.vm.findClass Cn = some comp → s.vm.findClass Cv = some c0 → s.vm.assignable c0 comp = true) (hd : decode cc pc = .ok (.aastore, 1)) (h : al_Ok F k (pc + 1)) : al_Ok F (o_aast ak ci k) pc := by
  obtain ⟨rfl, hx, hb, hml, hown, hts, hlk, hSt, hfr, hlo, hce, hsl, hne, h90, hsz⟩ := C
  intro L st n R I J hk H locs ls h1 h2 hz hP hS hL
  match st, hk with
  | .ref v :: .int i :: .ref q :: r, hk =>
    dsimp only [o_aast] at hk
    obtain ⟨len, hq, j, hj, hi, hk⟩ := al_isA_of hk
    obtain ⟨hv, hk⟩ := al_isC_of hk
    have ea := al_adp t (al_ark_of hq).1 (Nat.le_trans h2 h90)
    have ev := al_adp t (al_cls_of hv).1 (Nat.le_trans h2 h90)
    show W p l e Rm s m args below meth c H locs _ _ Q0 (F0 m pc ls (.ref (al_ad t v) :: .int i :: .ref (al_ad t q) :: r.map (al_tr t)))
    rw [ea]
    exact al_aast hx hb hak hty hSt.1 hP hS hq (Nat.le_trans h2 h90) hj hi (by rw [ev]; exact va_rAny hSt.1 hP (al_obj hv) hc (hasg hSt)) hd (fun H1 locs1 z hP hS => h _ _ _ _ _ _ hk H1 locs1 ls h1 h2 (fun h9 => z.trans (hz h9)) hP hS hL)
theorem S_sast (C : al_Cx F p l e s m args below meth c Rm cc nL own t fr lo n0 ne Q0) (hd : decode cc pc = .ok (.aastore, 1)) (h : al_Ok F k (pc + 1)) : al_Ok F (o_sast k) pc := by
  obtain ⟨rfl, hx, hb, hml, hown, hts, hlk, hSt, hfr, hlo, hce, hsl, hne, h90, hsz⟩ := C
  intro L st n R I J hk H locs ls h1 h2 hz hP hS hL
  match st, hk with
  | .ref v :: .int i :: .ref q :: r, hk =>
    dsimp only [o_sast] at hk
    obtain ⟨len, hq, j, hj, hi, hv, hk⟩ := al_isA_of hk
    obtain ⟨ev, hv13⟩ := al_str_ad t hv
    have ea := al_adp t (al_ark_of hq).1 (Nat.le_trans h2 h90)
    show W p l e Rm s m args below meth c H locs _ _ Q0 (F0 m pc ls (.ref (al_ad t v) :: .int i :: .ref (al_ad t q) :: r.map (al_tr t)))
    rw [ea]
    refine al_aast hx hb (fun _ _ _ _ _ _ => rfl) (fun _ => rfl) hSt.1 hP hS hq (Nat.le_trans h2 h90) hj hi ?_ hd (fun H1 locs1 z hP hS => h _ _ _ _ _ _ hk H1 locs1 ls h1 h2 (fun h9 => z.trans (hz h9)) hP hS hL)
    rw [ev]
    obtain ⟨cell, c1, c2, c3, -⟩ := (hSt.2.1 _ hv13).1.kept hS.2.1
    obtain ⟨kC, hkC, -⟩ := Vm.findClass_spec c3
    exact ⟨cell, c1, c2, ⟨kC, hkC⟩, fun comp hcomp => by rw [Option.some.inj (hcomp.symm.trans c3)]; exact va_asg _ _⟩
theorem S_oinit (C : al_Cx F p l e s m args below meth c Rm cc nL own t fr lo n0 ne Q0) {index : Nat} (hw1 : Cond.methodLink own index Lib.objectInit ∈ al_gt) (hw2 : Cond.instanceMethod Lib.objectInit ∈ al_gt) (hw3 : Cond.code Lib.objectInit ⟨#[0xb1]⟩ 1 none ∈ al_gt) (hfr1 : 1 ≤ fr) (hlo1 : 20 ≤ lo) (hd : decode cc pc = .ok (.invokespecial index, 3)) (h : al_Ok F k (pc + 3)) : al_Ok F (o_oinit k) pc := by
  obtain ⟨rfl, hx, hb, hml, hown, hts, hlk, hSt, hfr, hlo, hce, hsl, hne, h90, hsz⟩ := C
  intro L st n R I J hk H locs ls h1 h2 hz hP hS hL
  match st, hk with
  | .ref v :: r, hk =>
    obtain ⟨h8, hk⟩ := al_r8_of hk
    exact W.objInit hx hb hown (hts _ hw1) (hts _ hw2) (hts _ hw3) (g := F0 m pc ls (.ref (al_ad t v) :: r.map (al_tr t))) rfl (by rw [hml]; exact hL.1) rfl hd (by omega) (by have := lv_room (m := m) (pc := pc) (ls := ls) (rest := []) (st := r.map (al_tr t)) (by rw [al_cs_eq]; exact h8); show 2 * 0 + _ + 12 ≤ _; rw [al_cs_eq]; omega) (h _ _ _ _ _ _ hk H locs ls h1 h2 hz hP hS hL)
theorem al_tsw_of : ∀ {ks : List KT} {a x : Int32} {d : KT} {L : List (Option Value)} {r : List Value} {n : Nat} {R : RR} {I : II} {J : JJ}, o_tsw a ks d L (.int x :: r) n R I J → (∃ (i : Nat) (k0 : KT), ks[i]? = some k0 ∧ x = a + nI i ∧ k0 L r n R I J) ∨ ((∀ i, i < ks.length → ¬ x = a + nI i) ∧ d L r n R I J)
  | [], a, x, d, L, r, n, R, I, J, h => Or.inr ⟨fun i hi => absurd hi (by simp), h⟩
  | k0 :: ks, a, x, d, L, r, n, R, I, J, h => by
    by_cases hx : x = a
    · exact Or.inl ⟨0, k0, rfl, by rw [nI_0, Int32.add_zero]; exact hx, h.1 hx⟩
    · rcases al_tsw_of (h.2 hx) with ⟨i, k1, g1, g2, g3⟩ | ⟨g1, g2⟩
      · exact Or.inl ⟨i + 1, k1, by rw [List.getElem?_cons_succ]; exact g1, by rw [g2, nI_succ, Int32.add_assoc, Int32.add_comm 1 (nI i)], g3⟩
      · refine Or.inr ⟨fun i hi => ?_, g2⟩
        cases i with
        | zero => rw [nI_0, Int32.add_zero]; exact hx
        | succ i => rw [nI_succ, Int32.add_comm (nI i) 1, ← Int32.add_assoc]; exact g1 i (by simpa using hi)
theorem S_tsw (C : al_Cx F p l e s m args below meth c Rm cc nL own t fr lo n0 ne Q0) {dflt lo1 hi1 : Int} {offs : Array Int} {len lo0 d : Nat} {tg : List Nat} (hd : decode cc pc = .ok (.tableswitch dflt lo1 hi1 offs, len)) (hlo0 : lo1 = (lo0 : Int)) (hhi : hi1 + 1 = (lo0 + tg.length : Nat)) (ho : offs.toList = tg.map (fun x : Nat => (x : Int) - (pc : Int))) (hdf : (pc : Int) + dflt = (d : Int)) (hbig : lo0 + tg.length < 1000) : al_Ok F (o_tsw (nI lo0) (tg.map F) (F d)) pc := by
  obtain ⟨rfl, hx, hb, hml, hown, hts, hlk, hSt, hfr, hlo, hce, hsl, hne, h90, hsz⟩ := C
  intro L st n R I J hk H locs ls h1 h2 hz hP hS hL
  match st, hk with
  | [], hk => cases tg <;> exact hk.elim
  | .long x :: r, hk => cases tg <;> exact hk.elim
  | .float x :: r, hk => cases tg <;> exact hk.elim
  | .double x :: r, hk => cases tg <;> exact hk.elim
  | .null :: r, hk => cases tg <;> exact hk.elim
  | .ref x :: r, hk => cases tg <;> exact hk.elim
  | .retAddr x :: r, hk => cases tg <;> exact hk.elim
  | .int x :: r, hk =>
    rcases al_tsw_of hk with ⟨i, k0, g1, g2, g3⟩ | ⟨g1, g3⟩
    · rw [List.getElem?_map] at g1
      cases hti : tg[i]? with
      | none => rw [hti] at g1; cases g1
      | some tt =>
        rw [hti] at g1
        cases g1
        have hil : i < tg.length := (List.getElem?_eq_some_iff.mp hti).1
        have hxv : x.toInt = ((lo0 + i : Nat) : Int) := by
          rw [g2, nI_add, nI_toInt (by omega)]
        refine lv_tableIn (off := (tt : Int) - (pc : Int)) (tgt := tt) hx hb hd (by rw [hxv]; omega) (by rw [hxv]; omega) ?_ (by omega) (g3 H locs ls h1 h2 hz hP hS hL)
        rw [← Array.getElem?_toList, ho, List.getElem?_map, show (x.toInt - lo1).toNat = i by rw [hxv]; omega, hti]
        rfl
    · refine lv_tableOut (tgt := d) hx hb hd ?_ hdf (g3 H locs ls h1 h2 hz hP hS hL)
      by_cases q1 : x.toInt < lo1
      · exact Or.inl q1
      · by_cases q2 : hi1 < x.toInt
        · exact Or.inr q2
        · exfalso
          have e1 : x = nI x.toInt.toNat := by
            rw [← Int32.toInt_inj, nI_toInt (by omega)]
            omega
          refine g1 (x.toInt.toNat - lo0) (by rw [List.length_map]; omega) ?_
          rw [nI_add, show lo0 + (x.toInt.toNat - lo0) = x.toInt.toNat by omega]
          exact e1
theorem S_cpyI (C : al_Cx F p l e s m args below meth c Rm cc nL own t fr lo n0 ne Q0) {index : Nat} (hn90 : n0 = 90) (hw : Cond.methodLink own index arraycopyName ∈ al_gt) (hw2 : Cond.native arraycopyName ∈ al_gt) (hw3 : Cond.static arraycopyName ∈ al_gt) (hw4 : Cond.initialized "java/lang/System" ∈ al_gt) (hfr1 : 1 ≤ fr) (hlo1 : 26 ≤ lo) (hd : decode cc pc = .ok (.invokestatic index, 3)) (h : al_Ok F k (pc + 3)) : al_Ok F (o_cpyI k) pc := by
  obtain ⟨rfl, hx, hb, hml, hown, hts, hlk, hSt, hfr, hlo, hce, hsl, hne, h90, hsz⟩ := C
  intro L st n R I J hk H locs ls h1 h2 hz hP hS hL
  match st, hk with
  | .int cn :: .int dpn :: .ref q :: .int spn :: .ref q0 :: r, hk =>
    dsimp only [o_cpyI] at hk
    obtain ⟨h8, hk⟩ := al_r8_of hk
    obtain ⟨len, hq0, hk⟩ := al_isA_of hk
    obtain ⟨len2, hq, c0, dp, sp, rfl, rfl, rfl, b1, b2, hk⟩ := al_isA_of hk
    have hl1 := al_len_lt hq0 (Nat.le_trans h2 h90)
    have hl2 := al_len_lt hq (Nat.le_trans h2 h90)
    obtain ⟨hqn, hsk⟩ := al_ark_of hq
    have ea := al_adp t hqn (Nat.le_trans h2 h90)
    have ea0 := al_adp t (al_ark_of hq0).1 (Nat.le_trans h2 h90)
    show W p l e Rm s m args below meth c H locs _ _ Q0 (F0 m pc ls (.int (nI c0) :: .int (nI dp) :: .ref (al_ad t q) :: .int (nI sp) :: .ref (al_ad t q0) :: r.map (al_tr t)))
    rw [ea, ea0]
    have ec : (nI c0).toNatClampNeg = c0 := nI_clamp (by omega)
    have ed : (nI dp).toNatClampNeg = dp := nI_clamp (by omega)
    have es : (nI sp).toNatClampNeg = sp := nI_clamp (by omega)
    refine va_copyi (ty := .int) hx hb (by rw [hml]; exact hL.1.symm) hown (hts _ hw) (hts _ hw2) (hts _ hw3) (hts _ hw4) hSt.1 hP (al_ws_D t n R I J) hS q0 q 0 0 (al_arr hq0) (al_arr hq) rfl rfl rfl (nI_pos (by omega)) (nI_pos (by omega)) (nI_pos (by omega)) (by rw [ec, es]; exact b1) (by rw [ec, ed]; exact b2) (fun _ _ => rfl) (by omega) (by rw [al_cs_eq, (by decide +kernel : nativeFrameWords "java/lang/System" "arraycopy" 5 = 7)]; omega) hd (fun H1 locs1 hP1 _ hS1 => ?_)
    rw [ec, ed, es] at hP1
    refine h _ _ _ _ _ _ hk H1 locs1 ls h1 h2 (fun h9 => absurd h9 (by omega)) ?_ hS1 hL
    rw [← al_ws_set (R := R) (I := I) (J := J) (x := (.inl (th_c t 0, len2, .inl (va_cpy (I q0) (I q) sp dp c0)))) hqn ?_ ?_]
    · exact hP1
    · rw [al_cea hsk]
      show Sum.inl (th_c t 0, al_ar t R (al_cpy I q0 q sp dp c0) (J) q 0 len2) = _
      simp only [al_ar, al_cpy_at]
    · intro x hx9
      exact al_ce_eq rfl (al_cpy_row hx9) rfl
theorem S_cpyJ (C : al_Cx F p l e s m args below meth c Rm cc nL own t fr lo n0 ne Q0) {index : Nat} (hn90 : n0 = 90) (hw : Cond.methodLink own index arraycopyName ∈ al_gt) (hw2 : Cond.native arraycopyName ∈ al_gt) (hw3 : Cond.static arraycopyName ∈ al_gt) (hw4 : Cond.initialized "java/lang/System" ∈ al_gt) (hfr1 : 1 ≤ fr) (hlo1 : 26 ≤ lo) (hd : decode cc pc = .ok (.invokestatic index, 3)) (h : al_Ok F k (pc + 3)) : al_Ok F (o_cpyJ k) pc := by
  obtain ⟨rfl, hx, hb, hml, hown, hts, hlk, hSt, hfr, hlo, hce, hsl, hne, h90, hsz⟩ := C
  intro L st n R I J hk H locs ls h1 h2 hz hP hS hL
  match st, hk with
  | .int cn :: .int dpn :: .ref q :: .int spn :: .ref q0 :: r, hk =>
    dsimp only [o_cpyJ] at hk
    obtain ⟨h8, hk⟩ := al_r8_of hk
    obtain ⟨len, hq0, hk⟩ := al_isA_of hk
    obtain ⟨len2, hq, c0, dp, sp, rfl, rfl, rfl, b1, b2, hk⟩ := al_isA_of hk
    have hl1 := al_len_lt hq0 (Nat.le_trans h2 h90)
    have hl2 := al_len_lt hq (Nat.le_trans h2 h90)
    obtain ⟨hqn, hsk⟩ := al_ark_of hq
    have ea := al_adp t hqn (Nat.le_trans h2 h90)
    have ea0 := al_adp t (al_ark_of hq0).1 (Nat.le_trans h2 h90)
    show W p l e Rm s m args below meth c H locs _ _ Q0 (F0 m pc ls (.int (nI c0) :: .int (nI dp) :: .ref (al_ad t q) :: .int (nI sp) :: .ref (al_ad t q0) :: r.map (al_tr t)))
    rw [ea, ea0]
    have ec : (nI c0).toNatClampNeg = c0 := nI_clamp (by omega)
    have ed : (nI dp).toNatClampNeg = dp := nI_clamp (by omega)
    have es : (nI sp).toNatClampNeg = sp := nI_clamp (by omega)
    refine va_copyl (ty := .long) hx hb (by rw [hml]; exact hL.1.symm) hown (hts _ hw) (hts _ hw2) (hts _ hw3) (hts _ hw4) hSt.1 hP (al_ws_D t n R I J) hS q0 q 1 1 (al_arr hq0) (al_arr hq) rfl rfl rfl (nI_pos (by omega)) (nI_pos (by omega)) (nI_pos (by omega)) (by rw [ec, es]; exact b1) (by rw [ec, ed]; exact b2) (fun _ _ => rfl) (by omega) (by rw [al_cs_eq, (by decide +kernel : nativeFrameWords "java/lang/System" "arraycopy" 5 = 7)]; omega) hd (fun H1 locs1 hP1 _ hS1 => ?_)
    rw [ec, ed, es] at hP1
    refine h _ _ _ _ _ _ hk H1 locs1 ls h1 h2 (fun h9 => absurd h9 (by omega)) ?_ hS1 hL
    rw [← al_ws_set (R := R) (I := I) (J := J) (x := (.inl (th_c t 1, len2, .inr (.inl (va_cpy (J q0) (J q) sp dp c0))))) hqn ?_ ?_]
    · exact hP1
    · rw [al_cea hsk]
      show Sum.inl (th_c t 1, al_ar t R (I) (al_cpy J q0 q sp dp c0) q 1 len2) = _
      simp only [al_ar, al_cpy_at]
    · intro x hx9
      exact al_ce_eq rfl rfl (al_cpy_row hx9)
end ALD
