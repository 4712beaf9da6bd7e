/-! CALLS THAT A CLASS DECIDES, OF THE CLASS ABOVE, OF A STRING; THE SCRIPT -/
theorem al_cls13 : ∀ ci, ci < 13 → ∃ r, vwCl[ci]? = some r := fun ci h => ⟨_, List.getElem?_eq_getElem (show ci < vwCl.length from h)⟩
section ALE
variable {F : FT} {p : Program} {l : Launch} {e : Env} {s : State} {m : MethodId} {args : Array Value} {below : List Frame} {meth : Method} {c : Code} {Rm : Room} {cc : ByteArray} {nL : Nat} {own : String} {t : TH} {fr lo n0 ne : Nat} {Q0 : State → Prop} {k : KT} {pc : Nat}
/-- what the tables say of a law's own method, called as the first law's -/
def al_okU (x : MethodName) (μ : MD) (Cv : String) (na : Nat) : Prop := Cond.code μ.1 μ.2.1 μ.2.2.1 μ.2.2.2.1 ∈ al_gt ∧ Cond.instanceMethod μ.1 ∈ al_gt ∧ Cond.selects Cv x μ.1 ∈ al_gt ∧ Cond.initialized μ.1.cls ∈ al_gt ∧ (parseMethodDescriptor x.desc).map (fun d => d.parameters.length) = some na
theorem S_cU (C : al_Cx F p l e s m args below meth c Rm cc nL own t fr lo n0 ne Q0) {x : MethodName} {f : Nat → MD} {na index maxR maxF : Nat} {b0 : ByteArray} {m0 : Nat} {r0 : Option FieldType} (ok : ∀ ci, ci < 7 ∧ ci ≠ 2 → ∃ Cv T N, vwCl[ci]? = some (Cv, T, N) ∧ al_okU x (f ci) Cv na ∧ (f ci).2.2.2.2.1 + 1 ≤ maxF ∧ 8 + ((f ci).2.2.1 + 11) + (f ci).2.2.2.2.2 ≤ maxR) (hsame : Cond.sameMethod x.cls x.cls x.name x.desc ∈ al_gt) (hix : Cond.instanceMethod x ∈ al_gt) (hcx : Cond.code x b0 m0 r0 ∈ al_gt) (hnx : x.cls ≠ "java/lang/invoke/MethodHandle" ∧ x.cls ≠ "java/lang/invoke/VarHandle") (hw : Cond.methodLink own index x ∈ al_gt) (hR1 : maxF ≤ fr) (hR2 : maxR ≤ lo) (hd : decode cc pc = .ok (.invokevirtual index, 3)) (h : al_Ok F k (pc + 3)) : al_Ok F (o_cU f (na + 1) k) pc := by
  obtain ⟨rfl, hx, hb, hml, hown, hts, hlk, hSt, hfr, hlo, hce, hsl, hne, h90, hsz⟩ := C
  intro L st n R I J hk H locs ls h1 h2 hz hP hS hL
  obtain ⟨as, r, rfl, hlen, hk⟩ := al_pop_of hk
  rw [List.append_nil] at hk
  obtain ⟨q, As, rfl, hk⟩ := al_hd_of hk
  obtain ⟨ci, hq, hci, hk⟩ := al_rk_of hk
  obtain ⟨h8, hk⟩ := al_r8_of hk
  have ea := al_adp t (al_cls_of hq).1 (Nat.le_trans h2 h90)
  obtain ⟨Cv, T, N, hc, ⟨o1, o2, o3, o4, o7⟩, b1, b2⟩ := ok ci hci
  have hrec := va_recv hSt.1 hP (ci := ci) (q0 := q) hc (al_obj hq)
  have hrun := va_runU (As := As.map (al_tr t)) (rest := r.map (al_tr t)) (b := al_ad t q) (g := F0 m pc ls (((Value.ref q :: As).reverse ++ r).map (al_tr t))) (R := Rm) (cells := n - n0) (slots := al_sz n - al_sz n0) (locs := locs) (H := H) (below := below) (meth := meth) (e := e) (owner := x.cls) ⟨hx, hb, hml, hown, hts⟩ (hk l t) (va_cwO na hts (al_gi (fun w h9 => by
      unfold va_wsO at h9
      rcases List.mem_append.mp h9 with h9 | h9
      · simp only [List.mem_cons, List.not_mem_nil, or_false] at h9
        rcases h9 with rfl | rfl | rfl | rfl | rfl | rfl
        · exact hw
        · exact hsame
        · exact hix
        · exact o3
        · exact o2
        · exact o4
      · exact al_wsub o1 w h9)) rfl rfl rfl hcx ⟨hnx.1, hnx.2, o7⟩ ⟨Nat.le_trans b1 (Nat.le_trans hR1 hfr), Nat.le_trans b2 (Nat.le_trans hR2 hlo)⟩) ⟨al_blind _ _ _ _ _ _, by rw [ea]; exact hrec, al_pre hSt hsz hz hP hS⟩ rfl (by simp at hlen ⊢; exact hlen) hL.1 (by simp [List.map_reverse]; rfl) (lv_room (by rw [al_cs_eq]; exact h8)) hd ⟨by show n - n0 + 0 ≤ _; omega, by
        have := al_sz_mono h1
        have := al_sz_mono h2
        show al_sz n - al_sz n0 + (al_sz (n + 0) - al_sz n) ≤ _
        rw [Nat.add_zero]
        omega⟩
  refine al_go hrun hS (fun v R' I' J' H1 locs1 hq9 hz9 hP9 hS9 => ?_)
  refine W.cs (cells' := n - n0) (slots' := al_sz n - al_sz n0) (Nat.add_zero _) (by rw [Nat.add_zero, Nat.sub_self, Nat.add_zero]) ?_
  exact al_pu_go hq9 (fun st' hk' => h _ _ _ _ _ _ hk' H1 locs1 ls h1 h2 hz9 hP9 hS9 hL)

def al_okW (μ : MD) (na : Nat) : Prop := Cond.code μ.1 μ.2.1 μ.2.2.1 μ.2.2.2.1 ∈ al_gt ∧ Cond.instanceMethod μ.1 ∈ al_gt ∧ Cond.initialized μ.1.cls ∈ al_gt ∧ (parseMethodDescriptor μ.1.desc).map (fun d => d.parameters.length) = some na
/-- a call of the class above's method -/
theorem S_cSU (C : al_Cx F p l e s m args below meth c Rm cc nL own t fr lo n0 ne Q0) {μ : MD} {na index : Nat} (ok : al_okW μ na) (hsame : Cond.sameMethod μ.1.cls μ.1.cls μ.1.name μ.1.desc ∈ al_gt) (hsup : Cond.superclass own μ.1.cls ∈ al_gt) (hni : μ.1.name ≠ "<init>") (hw : Cond.methodLink own index μ.1 ∈ al_gt) (hR1 : μ.2.2.2.2.1 + 1 ≤ fr) (hR2 : 8 + (μ.2.2.1 + 11) + μ.2.2.2.2.2 ≤ lo) (hd : decode cc pc = .ok (.invokespecial index, 3)) (h : al_Ok F k (pc + 3)) : al_Ok F (o_cW μ (na + 1) k) pc := by
  obtain ⟨rfl, hx, hb, hml, hown, hts, hlk, hSt, hfr, hlo, hce, hsl, hne, h90, hsz⟩ := C
  intro L st n R I J hk H locs ls h1 h2 hz hP hS hL
  obtain ⟨as, r, rfl, hlen, hk⟩ := al_pop_of hk
  rw [List.append_nil] at hk
  obtain ⟨q, As, rfl, hk⟩ := al_hd_of hk
  obtain ⟨ci, hq, hci, hk⟩ := al_rk_of hk
  obtain ⟨h8, hk⟩ := al_r8_of hk
  have ea := al_adp t (al_cls_of hq).1 (Nat.le_trans h2 h90)
  obtain ⟨⟨Cv, T, N⟩, hc⟩ := al_cls13 ci hci
  obtain ⟨o1, o2, o4, o7⟩ := ok
  have hrec := va_recv hSt.1 hP (ci := ci) (q0 := q) hc (al_obj hq)
  have hat := (hSt.1.1 ci _ hc).2
  have hrun := va_runSU (As := As.map (al_tr t)) (rest := r.map (al_tr t)) (b := al_ad t q) (g := F0 m pc ls (((Value.ref q :: As).reverse ++ r).map (al_tr t))) (R := Rm) (cells := n - n0) (slots := al_sz n - al_sz n0) (locs := locs) (H := H) (below := below) (meth := meth) (e := e) hat ⟨hx, hb, hml, hown, hts⟩ (hk l t) (va_cwSU na hts (al_gi (fun w h9 => by
      unfold va_wsSU at h9
      rcases List.mem_append.mp h9 with h9 | h9
      · simp only [List.mem_cons, List.not_mem_nil, or_false] at h9
        rcases h9 with rfl | rfl | rfl | rfl | rfl
        · exact hw
        · exact hsame
        · exact hsup
        · exact o2
        · exact o4
      · exact al_wsub o1 w h9)) rfl rfl rfl ⟨hni, o7⟩ ⟨Nat.le_trans hR1 hfr, Nat.le_trans hR2 hlo⟩) ⟨al_blind _ _ _ _ _ _, by rw [ea]; exact hrec, al_pre hSt hsz hz hP hS⟩ rfl (by simp at hlen ⊢; exact hlen) hL.1 (by simp [List.map_reverse]; rfl) (lv_room (by rw [al_cs_eq]; exact h8)) hd ⟨by show n - n0 + 0 ≤ _; omega, by
        have := al_sz_mono h1
        have := al_sz_mono h2
        show al_sz n - al_sz n0 + (al_sz (n + 0) - al_sz n) ≤ _
        rw [Nat.add_zero]
        omega⟩
  refine al_go hrun hS (fun v R' I' J' H1 locs1 hq9 hz9 hP9 hS9 => ?_)
  refine W.cs (cells' := n - n0) (slots' := al_sz n - al_sz n0) (Nat.add_zero _) (by rw [Nat.add_zero, Nat.sub_self, Nat.add_zero]) ?_
  exact al_pu_go hq9 (fun st' hk' => h _ _ _ _ _ _ hk' H1 locs1 ls h1 h2 hz9 hP9 hS9 hL)

theorem S_cT (C : al_Cx F p l e s m args below meth c Rm cc nL own t fr lo n0 ne Q0) {μ : MD} {na index : Nat} (ok : al_okV μ na) (hst : μ.1.cls = "java/lang/String") (hw : Cond.methodLink own index μ.1 ∈ al_gt) (hR1 : μ.2.2.2.2.1 + 1 ≤ fr) (hR2 : 8 + (μ.2.2.1 + 11) + μ.2.2.2.2.2 ≤ lo) (hd : decode cc pc = .ok (.invokevirtual index, 3)) (h : al_Ok F k (pc + 3)) : al_Ok F (o_cT μ (na + 1) k) pc := by
  obtain ⟨rfl, hx, hb, hml, hown, hts, hlk, hSt, hfr, hlo, hce, hsl, hne, h90, hsz⟩ := C
  intro L st n R I J hk H locs ls h1 h2 hz hP hS hL
  obtain ⟨as, r, rfl, hlen, hk⟩ := al_pop_of hk
  rw [List.append_nil] at hk
  obtain ⟨q, As, rfl, hk⟩ := al_hd_of hk
  obtain ⟨hq, hk⟩ := hk
  obtain ⟨h8, hk⟩ := al_r8_of hk
  obtain ⟨ea, hq13⟩ := al_str_ad t (v := q) hq
  obtain ⟨o1, o2, o3, o4, o5, o6, o7⟩ := ok
  have hrec : ∃ cell : Cell, H[th_K t (q - 2000)]? = some cell ∧ cell.vm.isStatics = false ∧ s.vm.findClass μ.1.cls = some cell.cls := by
    obtain ⟨cell, c1, c2, c3, -⟩ := (hSt.2.1 _ hq13).1.kept hS.2.1
    rw [hst]
    exact ⟨cell, c1, c2, c3⟩
  have hrun := va_runV (As := As.map (al_tr t)) (rest := r.map (al_tr t)) (b := al_ad t q) (g := F0 m pc ls (((Value.ref q :: As).reverse ++ r).map (al_tr t))) (R := Rm) (cells := n - n0) (slots := al_sz n - al_sz n0) (locs := locs) (H := H) (below := below) (meth := meth) (e := e) ⟨hx, hb, hml, hown, hts⟩ (hk l t) (cwV na hts (al_gi (fun w h9 => by
      unfold wsV at h9
      rcases List.mem_append.mp h9 with h9 | h9
      · simp only [List.mem_cons, List.not_mem_nil, or_false] at h9
        rcases h9 with rfl | rfl | rfl | rfl
        · exact hw
        · exact o2
        · exact o3
        · exact o4
      · exact al_wsub o1 w h9)) rfl rfl rfl ⟨rfl, o5, o6, o7⟩ ⟨Nat.le_trans hR1 hfr, Nat.le_trans hR2 hlo⟩) ⟨al_blind _ _ _ _ _ _, by rw [ea]; exact hrec, al_pre hSt hsz hz hP hS⟩ rfl (by simp at hlen ⊢; exact hlen) hL.1 (by simp [List.map_reverse]; rfl) (lv_room (by rw [al_cs_eq]; exact h8)) hd ⟨by show n - n0 + 0 ≤ _; omega, by
        have := al_sz_mono h1
        have := al_sz_mono h2
        show al_sz n - al_sz n0 + (al_sz (n + 0) - al_sz n) ≤ _
        rw [Nat.add_zero]
        omega⟩
  refine al_go hrun hS (fun v R' I' J' H1 locs1 hq9 hz9 hP9 hS9 => ?_)
  refine W.cs (cells' := n - n0) (slots' := al_sz n - al_sz n0) (Nat.add_zero _) (by rw [Nat.add_zero, Nat.sub_self, Nat.add_zero]) ?_
  exact al_pu_go hq9 (fun st' hk' => h _ _ _ _ _ _ hk' H1 locs1 ls h1 h2 hz9 hP9 hS9 hL)

theorem S_slen (C : al_Cx F p l e s m args below meth c Rm cc nL own t fr lo n0 ne Q0) {LS : Nat} {xs : Nat → Int32} (hX : va_X (th_s t) LS xs s s.heap ∧ th_s t < s.heap.size ∧ th_s t < th_b t) (hd : decode cc pc = .ok (.arraylength, 1)) (h : al_Ok F k (pc + 1)) : al_Ok F (o_slen LS k) pc := by
  obtain ⟨rfl, hx, hb, hml, hown, hts, hlk, hSt, hfr, hlo, hce, hsl, hne, h90, hsz⟩ := C
  intro L st n R I J hk H locs ls h1 h2 hz hP hS hL
  match st, hk with
  | .ref q :: r, hk =>
    obtain ⟨hq, hk⟩ := hk
    subst hq
    exact va_slen hx hb hX.1 hX.2.1 (Nat.not_le.mpr hX.2.2) hS hd (h _ _ _ _ _ _ hk H locs ls h1 h2 hz hP hS hL)
theorem S_sld (C : al_Cx F p l e s m args below meth c Rm cc nL own t fr lo n0 ne Q0) {LS : Nat} {xs : Nat → Int32} (hX : va_X (th_s t) LS xs s s.heap ∧ th_s t < s.heap.size ∧ th_s t < th_b t) (hLS : LS < 2 ^ 31) (hd : decode cc pc = .ok (.iaload, 1)) (h : al_Ok F k (pc + 1)) : al_Ok F (o_sld LS xs k) pc := by
  obtain ⟨rfl, hx, hb, hml, hown, hts, hlk, hSt, hfr, hlo, hce, hsl, hne, h90, hsz⟩ := C
  intro L st n R I J hk H locs ls h1 h2 hz hP hS hL
  match st, hk with
  | .int i :: .ref q :: r, hk =>
    obtain ⟨hq, j, hj, hi, hk⟩ := hk
    subst hq
    obtain ⟨hin, hcl⟩ := al_in_of hi hj hLS
    exact va_sld hx hb hX.1 hX.2.1 (Nat.not_le.mpr hX.2.2) hS hin hd (by rw [hcl]; exact (h _ _ _ _ _ _ hk H locs ls h1 h2 hz hP hS hL))
end ALE
