/-! CONTRACTS AND CALLS -/
def al_post (t : TH) (Q : QT) (nn : Nat) : Array Value → State → Outcome → State → Prop := fun _ st oc s' => ∃ (v : Option Value) (R' : RR) (I' : II) (J' : JJ), oc = .returned (v.map (al_tr t)) ∧ Q v nn R' I' J' ∧ al_Wd t nn R' I' J' s' ∧ va_F (al_A t) st s'
/-- the contract of a method at abstract arguments and state: it returns, with Q of its answer and the state then; dn cells are new -/
def CT (μ : MD) (dn : Nat) (av : List Value) (n : Nat) (R : RR) (I : II) (J : JJ) (Q : QT) : Prop := ∀ (l : Launch) (t : TH),
  Met l μ.1 (Cond.code μ.1 μ.2.1 μ.2.2.1 μ.2.2.2.1 :: al_gt) { frames := μ.2.2.2.2.1, cells := dn, slots := al_sz (n + dn) - al_sz n, locals := μ.2.2.2.2.2 } (va_Pc (av.map (al_tr t)) (al_Wd t n R I J)) (al_post t Q (n + dn)) dn (al_sz (n + dn) - al_sz n) (al_A t)
theorem CT.mono {μ : MD} {dn : Nat} {av : List Value} {n : Nat} {R : RR} {I : II} {J : JJ} {Q Q' : QT} (h : CT μ dn av n R I J Q) (hQ : ∀ v R' I' J', Q v (n + dn) R' I' J' → Q' v (n + dn) R' I' J') : CT μ dn av n R I J Q' := by
  intro l t p e ha hc hk s m args below hf hsp hP hK
  obtain ⟨k, o, h1, h2, h3, ⟨⟨v, R', I', J', q1, q2, q3, q4⟩, h5⟩⟩ := h l t p e ha hc hk s m args below hf hsp hP hK
  exact ⟨k, o, h1, h2, h3, ⟨⟨v, R', I', J', q1, hQ _ _ _ _ q2, q3, q4⟩, h5⟩⟩
def al_pu (v : Option Value) (r : List Value) (K : List Value → Prop) : Prop := match v with
  | some x => K (x :: r)
  | none => K r
def al_hd (av : List Value) (K : Nat → Prop) : Prop := match av with
  | .ref q :: _ => K q
  | _ => False
/-- a call on an object of a known class; a static one; a constructor's -/
def o_cV (ci : Nat) (μ : MD) (na : Nat) (k : KT) : KT := fun L st n R I J => al_pop na st [] (fun av r => al_hd av (fun q => al_isC n q ci (al_r8 r (CT μ 0 av n R I J (fun v n' R' I' J' => al_pu v r (fun st' => k L st' n' R' I' J'))))))
def o_cS (μ : MD) (na : Nat) (k : KT) : KT := fun L st n R I J => al_pop na st [] (fun av r => al_r8 r (CT μ 0 av n R I J (fun v n' R' I' J' => al_pu v r (fun st' => k L st' n' R' I' J'))))
def o_cI (ne : Nat) (μ : MD) (dn na : Nat) (k : KT) : KT := fun L st n R I J => n + dn ≤ ne ∧ al_pop na st [] (fun av r => al_hd av (fun _ => al_r8 r (CT μ dn av n R I J (fun v n' R' I' J' => al_pu v r (fun st' => k L st' n' R' I' J')))))
/-- a call of a text's own method -/
def o_cT (μ : MD) (na : Nat) (k : KT) : KT := fun L st n R I J => al_pop na st [] (fun av r => al_hd av (fun q => (2000 ≤ q ∧ q < 2013) ∧ al_r8 r (CT μ 0 av n R I J (fun v n' R' I' J' => al_pu v r (fun st' => k L st' n' R' I' J')))))
/-- a call that the receiver's class decides: of the six laws (classes 0 Dear, 1 Free, 3 Law, 4 Old, 5 Outward, 6 Shared) -/
def o_cU (f : Nat → MD) (na : Nat) (k : KT) : KT := fun L st n R I J => al_pop na st [] (fun av r => al_hd av (fun q => al_rk (al_cls n q) (fun ci => (ci < 7 ∧ ci ≠ 2) ∧ al_r8 r (CT (f ci) 0 av n R I J (fun v n' R' I' J' => al_pu v r (fun st' => k L st' n' R' I' J'))))))
theorem al_hd_of {av : List Value} {K : Nat → Prop} (h : al_hd av K) : ∃ q As, av = .ref q :: As ∧ K q := by
  unfold al_hd at h
  match av, h with
  | .ref q :: As, h => exact ⟨q, As, rfl, h⟩
theorem al_blind (vs : List Value) (t : TH) (n : Nat) (R : RR) (I : II) (J : JJ) : FrameBlind (va_Pc vs (al_Wd t n R I J)) := by
  intro a U g mk h
  obtain ⟨h1, h2, h3, h4, h5⟩ := h
  exact ⟨h1, h2, h3, h4, al_St.same (s := U) rfl h5⟩
section ALC
variable {F : FT} {p : Program} {l : Launch} {e : Env} {s : State} {m : MethodId} {args : Array Value} {below : List Frame} {meth : Method} {c : Code} {Rm : Room} {cc : ByteArray} {nL : Nat} {own : String} {t : TH} {fr lo n0 ne : Nat} {Q0 : State → Prop} {k : KT} {pc : Nat}
theorem al_go {H : Heap} {locs : List Loc} {ls : Array Slot} {cells slots mc ms nn : Nat} {st0 rest : List Value} {Q : QT} {a9 : Array Value} (hr : va_Run p l e Rm s m args below meth c H locs cells slots mc ms (F0 m pc ls st0) rest (al_post t Q nn a9) (al_A t)) (hS : va_S (al_A t) s.heap H locs)
    (kk : ∀ (v : Option Value) (R' : RR) (I' : II) (J' : JJ) (H1 : Heap) (locs1 : List Loc), Q v nn R' I' J' → (nn < 90 → H1.size = th_b t + nn) → va_P (th_D t) vwCl (al_ws t nn R' I' J') H1 → va_S (al_A t) s.heap H1 locs1 → W p l e Rm s m args below meth c H1 locs1 (cells + mc) (slots + ms) Q0 (F0 m (pc + 3) ls ((v.map (al_tr t)).toList ++ rest))) : W p l e Rm s m args below meth c H locs cells slots Q0 (F0 m pc ls st0) := by
  intro T hT X
  obtain ⟨v, st₀, t', T', L, h0, X', hL, e1, e2, ⟨v', R', I', J', hv, hq, ⟨w1, w2, w3, w4⟩, hF1, hF2⟩, st⟩ := hr T hT X
  cases hv
  rw [h0] at hF1 hF2
  obtain ⟨t2, a1, b1⟩ := kk v' R' I' J' T'.heap (locs ++ L) hq (fun h => by rw [e1]; exact w1 h) (by rw [e1]; exact w3)
    ⟨Nat.le_trans hS.1 (by rw [e1]; exact hF1), fun q g1 g2 => by rw [e1, hF2 q (Nat.lt_of_lt_of_le g1 hS.1) g2]; exact hS.2.1 q g1 g2, fun q hq => by
      rcases List.mem_append.mp hq with h | h
      · exact hS.2.2 q h
      · exact hL q h⟩ T' rfl X'
  exact ⟨t2, st t2 a1, b1⟩
theorem al_pre {H : Heap} {locs : List Loc} {n : Nat} {R : RR} {I : II} {J : JJ} {vs : List Value} (hSt : al_St t s s.heap) (hsz : th_b t ≤ s.heap.size) (hz : n < 90 → H.size = th_b t + n) (hP : va_P (th_D t) vwCl (al_ws t n R I J) H) (hS : va_S (al_A t) s.heap H locs) : ∀ U : State, U.heap = H → s.WarmedH U.vm → va_Pc vs (al_Wd t n R I J) vs.toArray U := by
  intro U hU hW
  refine ⟨rfl, fun h => by rw [hU]; exact hz h, by rw [hU]; exact Nat.le_trans hsz hS.1, by rw [hU]; exact hP, ?_⟩
  rw [hU]
  exact (hSt.kept hS.2.1).warm hW
theorem al_pu_go {H1 : Heap} {locs1 : List Loc} {ls : Array Slot} {cells slots : Nat} {v : Option Value} {r : List Value} {K : List Value → Prop} (hk : al_pu v r K) (h : ∀ st', K st' → W p l e Rm s m args below meth c H1 locs1 cells slots Q0 (F0 m pc ls (st'.map (al_tr t)))) : W p l e Rm s m args below meth c H1 locs1 cells slots Q0 (F0 m pc ls ((v.map (al_tr t)).toList ++ r.map (al_tr t))) := by
  cases v with
  | none => exact h r hk
  | some x => exact h (x :: r) hk
/-- what the tables say of a method that is called on its own class's objects -/
def al_okV (μ : MD) (na : Nat) : Prop := Cond.code μ.1 μ.2.1 μ.2.2.1 μ.2.2.2.1 ∈ al_gt ∧ Cond.instanceMethod μ.1 ∈ al_gt ∧ Cond.selects μ.1.cls μ.1 μ.1 ∈ al_gt ∧ Cond.initialized μ.1.cls ∈ al_gt ∧ μ.1.cls ≠ "java/lang/invoke/MethodHandle" ∧ μ.1.cls ≠ "java/lang/invoke/VarHandle" ∧ (parseMethodDescriptor μ.1.desc).map (fun d => d.parameters.length) = some na
def al_okS (μ : MD) (na : Nat) : Prop := Cond.code μ.1 μ.2.1 μ.2.2.1 μ.2.2.2.1 ∈ al_gt ∧ Cond.static μ.1 ∈ al_gt ∧ Cond.initialized μ.1.cls ∈ al_gt ∧ μ.1.cls ≠ "java/lang/invoke/MethodHandle" ∧ μ.1.cls ≠ "java/lang/invoke/VarHandle" ∧ (parseMethodDescriptor μ.1.desc).map (fun d => d.parameters.length) = some na
def al_okI (μ : MD) (na : Nat) : Prop := Cond.code μ.1 μ.2.1 μ.2.2.1 μ.2.2.2.1 ∈ al_gt ∧ Cond.instanceMethod μ.1 ∈ al_gt ∧ Cond.initialized μ.1.cls ∈ al_gt ∧ μ.1.cls ≠ "java/lang/invoke/MethodHandle" ∧ μ.1.cls ≠ "java/lang/invoke/VarHandle" ∧ (parseMethodDescriptor μ.1.desc).map (fun d => d.parameters.length) = some na ∧ μ.1.name = "<init>" ∧ μ.2.2.2.1 = none
theorem al_wsub {μ : MD} (h : Cond.code μ.1 μ.2.1 μ.2.2.1 μ.2.2.2.1 ∈ al_gt) : ∀ w ∈ (Cond.code μ.1 μ.2.1 μ.2.2.1 μ.2.2.2.1 :: al_gt), w ∈ al_gt := fun w hw => by
  rcases List.mem_cons.mp hw with rfl | hw
  · exact h
  · exact hw
theorem S_cV (C : al_Cx F p l e s m args below meth c Rm cc nL own t fr lo n0 ne Q0) {μ : MD} {na index ci N : Nat} {T : u_T} (ok : al_okV μ na) (hc : vwCl[ci]? = some (μ.1.cls, T, N)) (hw : Cond.methodLink own index μ.1 ∈ al_gt) (hR1 : μ.2.2.2.2.1 + 1 ≤ fr) (hR2 : 8 + (μ.2.2.1 + 11) + μ.2.2.2.2.2 ≤ lo) (hd : decode cc pc = .ok (.invokevirtual index, 3)) (h : al_Ok F k (pc + 3)) : al_Ok F (o_cV ci μ (na + 1) k) pc := by
  obtain ⟨rfl, hx, hb, hml, hown, hts, hlk, hSt, hfr, hlo, hce, hsl, hne, h90, hsz⟩ := C
  intro L st n R I J hk H locs ls h1 h2 hz hP hS hL
  obtain ⟨as, r, rfl, hlen, hk⟩ := al_pop_of hk
  rw [List.append_nil] at hk
  obtain ⟨q, As, rfl, hk⟩ := al_hd_of hk
  obtain ⟨hq, hk⟩ := al_isC_of hk
  obtain ⟨h8, hk⟩ := al_r8_of hk
  have ea := al_adp t (al_cls_of hq).1 (Nat.le_trans h2 h90)
  obtain ⟨o1, o2, o3, o4, o5, o6, o7⟩ := ok
  have hrec := va_recv hSt.1 hP (ci := ci) (q0 := q) hc (al_obj hq)
  have hrun := va_runV (As := As.map (al_tr t)) (rest := r.map (al_tr t)) (b := al_ad t q) (g := F0 m pc ls (((Value.ref q :: As).reverse ++ r).map (al_tr t))) (R := Rm) (cells := n - n0) (slots := al_sz n - al_sz n0) (locs := locs) (H := H) (below := below) (meth := meth) (e := e) ⟨hx, hb, hml, hown, hts⟩ (hk l t) (cwV na hts (al_gi (fun w h9 => by
      unfold wsV at h9
      rcases List.mem_append.mp h9 with h9 | h9
      · simp only [List.mem_cons, List.not_mem_nil, or_false] at h9
        rcases h9 with rfl | rfl | rfl | rfl
        · exact hw
        · exact o2
        · exact o3
        · exact o4
      · exact al_wsub o1 w h9)) rfl rfl rfl ⟨rfl, o5, o6, o7⟩ ⟨Nat.le_trans hR1 hfr, Nat.le_trans hR2 hlo⟩) ⟨al_blind _ _ _ _ _ _, by rw [ea]; exact hrec, al_pre hSt hsz hz hP hS⟩ rfl (by simp at hlen ⊢; exact hlen) hL.1 (by simp [List.map_reverse]; rfl) (lv_room (by rw [al_cs_eq]; exact h8)) hd ⟨by show n - n0 + 0 ≤ _; omega, by
        have := al_sz_mono h1
        have := al_sz_mono h2
        show al_sz n - al_sz n0 + (al_sz (n + 0) - al_sz n) ≤ _
        rw [Nat.add_zero]
        omega⟩
  refine al_go hrun hS (fun v R' I' J' H1 locs1 hq9 hz9 hP9 hS9 => ?_)
  refine W.cs (cells' := n - n0) (slots' := al_sz n - al_sz n0) (Nat.add_zero _) (by rw [Nat.add_zero, Nat.sub_self, Nat.add_zero]) ?_
  exact al_pu_go hq9 (fun st' hk' => h _ _ _ _ _ _ hk' H1 locs1 ls h1 h2 hz9 hP9 hS9 hL)
theorem S_cS (C : al_Cx F p l e s m args below meth c Rm cc nL own t fr lo n0 ne Q0) {μ : MD} {na index : Nat} (ok : al_okS μ na) (hw : Cond.methodLink own index μ.1 ∈ al_gt) (hR1 : μ.2.2.2.2.1 + 1 ≤ fr) (hR2 : 8 + (μ.2.2.1 + 11) + μ.2.2.2.2.2 ≤ lo) (hd : decode cc pc = .ok (.invokestatic index, 3)) (h : al_Ok F k (pc + 3)) : al_Ok F (o_cS μ na k) pc := by
  obtain ⟨rfl, hx, hb, hml, hown, hts, hlk, hSt, hfr, hlo, hce, hsl, hne, h90, hsz⟩ := C
  intro L st n R I J hk H locs ls h1 h2 hz hP hS hL
  obtain ⟨as, r, rfl, hlen, hk⟩ := al_pop_of hk
  rw [List.append_nil] at hk
  obtain ⟨h8, hk⟩ := al_r8_of hk
  obtain ⟨o1, o2, o4, o5, o6, o7⟩ := ok
  have hrun := va_runS (As := as.map (al_tr t)) (rest := r.map (al_tr t)) (g := F0 m pc ls ((as.reverse ++ r).map (al_tr t))) (R := Rm) (cells := n - n0) (slots := al_sz n - al_sz n0) (locs := locs) (H := H) (below := below) (meth := meth) (e := e) ⟨hx, hb, hml, hown, hts⟩ (hk l t) (va_cwS na hts (al_gi (fun w h9 => by
      unfold va_wsS at h9
      rcases List.mem_append.mp h9 with h9 | h9
      · simp only [List.mem_cons, List.not_mem_nil, or_false] at h9
        rcases h9 with rfl | rfl | rfl
        · exact hw
        · exact o2
        · exact o4
      · exact al_wsub o1 w h9)) rfl rfl rfl ⟨o5, o6, o7⟩ ⟨Nat.le_trans hR1 hfr, Nat.le_trans hR2 hlo⟩) ⟨al_blind _ _ _ _ _ _, al_pre hSt hsz hz hP hS⟩ rfl (by simp; exact hlen) hL.1 (by simp [List.map_reverse]) (lv_room (by rw [al_cs_eq]; exact h8)) hd ⟨by show n - n0 + 0 ≤ _; omega, by
        have := al_sz_mono h1
        have := al_sz_mono h2
        show al_sz n - al_sz n0 + (al_sz (n + 0) - al_sz n) ≤ _
        rw [Nat.add_zero]
        omega⟩
  refine al_go hrun hS (fun v R' I' J' H1 locs1 hq9 hz9 hP9 hS9 => ?_)
  refine W.cs (cells' := n - n0) (slots' := al_sz n - al_sz n0) (Nat.add_zero _) (by rw [Nat.add_zero, Nat.sub_self, Nat.add_zero]) ?_
  exact al_pu_go hq9 (fun st' hk' => h _ _ _ _ _ _ hk' H1 locs1 ls h1 h2 hz9 hP9 hS9 hL)
theorem S_cI (C : al_Cx F p l e s m args below meth c Rm cc nL own t fr lo n0 ne Q0) {μ : MD} {na index dn : Nat} (ok : al_okI μ na) (hw : Cond.methodLink own index μ.1 ∈ al_gt) (hR1 : μ.2.2.2.2.1 + 1 ≤ fr) (hR2 : 8 + (μ.2.2.1 + 11) + μ.2.2.2.2.2 ≤ lo) (hd : decode cc pc = .ok (.invokespecial index, 3)) (h : al_Ok F k (pc + 3)) : al_Ok F (o_cI ne μ dn (na + 1) k) pc := by
  obtain ⟨rfl, hx, hb, hml, hown, hts, hlk, hSt, hfr, hlo, hce, hsl, hne, h90, hsz⟩ := C
  intro L st n R I J hk H locs ls h1 h2 hz hP hS hL
  obtain ⟨hdn, hk⟩ := hk
  obtain ⟨as, r, rfl, hlen, hk⟩ := al_pop_of hk
  rw [List.append_nil] at hk
  obtain ⟨q, As, rfl, hk⟩ := al_hd_of hk
  obtain ⟨h8, hk⟩ := al_r8_of hk
  obtain ⟨o1, o2, o4, o5, o6, o7, o8, o9⟩ := ok
  have m1 := al_sz_mono h1
  have m2 := al_sz_mono hdn
  have m3 := al_sz_mono (Nat.le_add_right n dn)
  have hrun := va_runI (As := As.map (al_tr t)) (rest := r.map (al_tr t)) (b := al_ad t q) (g := F0 m pc ls (((Value.ref q :: As).reverse ++ r).map (al_tr t))) (R := Rm) (cells := n - n0) (slots := al_sz n - al_sz n0) (locs := locs) (H := H) (below := below) (meth := meth) (e := e) ⟨hx, hb, hml, hown, hts⟩ (hk l t) (cwI na hts (al_gi (al_wsub o1)) (by rw [o9]) rfl rfl (hts _ o4) (hts _ hw) (hts _ o2) o8 ⟨o5, o6, o7⟩ ⟨Nat.le_trans hR1 hfr, Nat.le_trans hR2 hlo⟩) ⟨al_blind _ _ _ _ _ _, al_pre hSt hsz hz hP hS⟩ rfl (by simp at hlen ⊢; exact hlen) hL.1 (by simp [List.map_reverse]; rfl) (lv_room (by rw [al_cs_eq]; exact h8)) hd ⟨by omega, by omega⟩
  refine al_go hrun hS (fun v R' I' J' H1 locs1 hq9 hz9 hP9 hS9 => ?_)
  refine W.cs (cells' := n + dn - n0) (slots' := al_sz (n + dn) - al_sz n0) (by omega) (by omega) ?_
  exact al_pu_go hq9 (fun st' hk' => h _ _ _ _ _ _ hk' H1 locs1 ls (by omega) hdn hz9 hP9 hS9 hL)
/-! ends -/
theorem al_ret {Q : QT} {H : Heap} {locs : List Loc} {n : Nat} {R : RR} {I : II} {J : JJ} {v : Option Value} (hSt : al_St t s s.heap) (hsz : th_b t ≤ s.heap.size) (hz : n < 90 → H.size = th_b t + n) (hP : va_P (th_D t) vwCl (al_ws t n R I J) H) (hS : va_S (al_A t) s.heap H locs) (hk : Q v n R I J) : ∀ t' : State, t'.heap = H → s.WarmedH t'.vm → al_post t Q n args s (.returned (v.map (al_tr t))) t' := by
  intro t' ht hW
  refine ⟨v, R, I, J, rfl, hk, ⟨fun h => by rw [ht]; exact hz h, by rw [ht]; exact Nat.le_trans hsz hS.1, by rw [ht]; exact hP, ?_⟩, hS.F ht⟩
  rw [ht]
  exact (hSt.kept hS.2.1).warm hW
theorem S_iret (C : al_Cx F p l e s m args below meth c Rm cc nL own t fr lo ne ne Q0) {Q : QT} (hQ : Q0 = MQ below (al_post t Q ne) args s (ne - ne) (al_sz ne - al_sz ne) (al_A t)) (hr : meth.sig.returnType = some .int) (hd : decode cc pc = .ok (.ireturn, 1)) : al_Ok F (o_iret Q) pc := by
  obtain ⟨rfl, hx, hb, hml, hown, hts, hlk, hSt, hfr, hlo, hce, hsl, hne, h90, hsz⟩ := C
  intro L st n R I J hk H locs ls h1 h2 hz hP hS hL
  obtain rfl : n = ne := by omega
  match st, hk with
  | [.int v], hk =>
    rw [hQ]
    exact W.iret hx hb hr (al_ret (v := some (.int v)) hSt hsz hz hP hS hk) hS.2.2 hd hlk
theorem S_zret (C : al_Cx F p l e s m args below meth c Rm cc nL own t fr lo ne ne Q0) {Q : QT} (hQ : Q0 = MQ below (al_post t Q ne) args s (ne - ne) (al_sz ne - al_sz ne) (al_A t)) (hr : meth.sig.returnType = some .boolean) (hd : decode cc pc = .ok (.ireturn, 1)) : al_Ok F (o_zret Q) pc := by
  obtain ⟨rfl, hx, hb, hml, hown, hts, hlk, hSt, hfr, hlo, hce, hsl, hne, h90, hsz⟩ := C
  intro L st n R I J hk H locs ls h1 h2 hz hP hS hL
  obtain rfl : n = ne := by omega
  match st, hk with
  | [.int v], hk =>
    rw [hQ]
    obtain ⟨hv, hk⟩ := hk
    exact W.zret (ty := .boolean) hx hb hr (by rcases hv with rfl | rfl <;> rfl) (al_ret (v := some (.int v)) hSt hsz hz hP hS hk) hS.2.2 hd hlk
theorem S_lret (C : al_Cx F p l e s m args below meth c Rm cc nL own t fr lo ne ne Q0) {Q : QT} (hQ : Q0 = MQ below (al_post t Q ne) args s (ne - ne) (al_sz ne - al_sz ne) (al_A t)) (hr : meth.sig.returnType = some .long) (hd : decode cc pc = .ok (.lreturn, 1)) : al_Ok F (o_lret Q) pc := by
  obtain ⟨rfl, hx, hb, hml, hown, hts, hlk, hSt, hfr, hlo, hce, hsl, hne, h90, hsz⟩ := C
  intro L st n R I J hk H locs ls h1 h2 hz hP hS hL
  obtain rfl : n = ne := by omega
  match st, hk with
  | [.long v], hk =>
    rw [hQ]
    exact W.lret hx hb hr (al_ret (v := some (.long v)) hSt hsz hz hP hS hk) hS.2.2 hd hlk
theorem S_aret (C : al_Cx F p l e s m args below meth c Rm cc nL own t fr lo ne ne Q0) {Q : QT} {cn : String} (hQ : Q0 = MQ below (al_post t Q ne) args s (ne - ne) (al_sz ne - al_sz ne) (al_A t)) (hr : meth.sig.returnType = some (.object cn)) (hd : decode cc pc = .ok (.areturn, 1)) : al_Ok F (o_aret Q) pc := by
  obtain ⟨rfl, hx, hb, hml, hown, hts, hlk, hSt, hfr, hlo, hce, hsl, hne, h90, hsz⟩ := C
  intro L st n R I J hk H locs ls h1 h2 hz hP hS hL
  obtain rfl : n = ne := by omega
  match st, hk with
  | [.ref v], hk =>
    rw [hQ]
    exact W.aret hx hb hr (Or.inl ⟨_, rfl⟩) (Or.inr ⟨_, rfl⟩) (al_ret (v := some (.ref v)) hSt hsz hz hP hS hk) hS.2.2 hd hlk
theorem S_vret (C : al_Cx F p l e s m args below meth c Rm cc nL own t fr lo ne ne Q0) {Q : QT} (hQ : Q0 = MQ below (al_post t Q ne) args s (ne - ne) (al_sz ne - al_sz ne) (al_A t)) (hr : meth.sig.returnType = none) (hd : decode cc pc = .ok (.return_, 1)) : al_Ok F (o_vret Q) pc := by
  obtain ⟨rfl, hx, hb, hml, hown, hts, hlk, hSt, hfr, hlo, hce, hsl, hne, h90, hsz⟩ := C
  intro L st n R I J hk H locs ls h1 h2 hz hP hS hL
  obtain rfl : n = ne := by omega
  match st, hk with
  | [], hk =>
    rw [hQ]
    exact W.vret hx hb hr (al_ret (v := none) hSt hsz hz hP hS hk) hS.2.2 hd hlk
theorem S_cret (C : al_Cx F p l e s m args below meth c Rm cc nL own t fr lo n0 ne Q0) {Q : QT} (hQ : Q0 = MQ below (al_post t Q ne) args s (ne - n0) (al_sz ne - al_sz n0) (al_A t)) (hr : meth.sig.returnType = none) (hd : decode cc pc = .ok (.return_, 1)) : al_Ok F (o_cret ne Q) pc := by
  obtain ⟨rfl, hx, hb, hml, hown, hts, hlk, hSt, hfr, hlo, hce, hsl, hne, h90, hsz⟩ := C
  intro L st n R I J hk H locs ls h1 h2 hz hP hS hL
  match st, hk with
  | [], hk =>
    obtain ⟨e9, hk9⟩ := hk
    subst e9
    rw [hQ]
    exact W.vret hx hb hr (al_ret (v := none) hSt hsz hz hP hS hk9) hS.2.2 hd hlk
end ALC
/-- a method's contract out of a walk of its body; F is the machine at a place of the body -/
theorem CT.of {μ : MD} {dn : Nat} {av : List Value} {n : Nat} {R : RR} {I : II} {J : JJ} {Q : QT} {L : List (Option Value)} (hy : plainName μ.1.cls = true) (h90 : n + dn ≤ 90) (hL : ∀ t : TH, al_pr t 0 L = lv_args 0 (av.map (al_tr t))) (hlen : ∀ t : TH, (lg_sl (av.map (al_tr t))).length ≤ μ.2.2.1)
    (body : ∀ (F : FT) (p : Program) (l : Launch) (e : Env) (s : State) (m : MethodId) (args : Array Value) (below : List Frame) (meth : Method) (c : Code) (Rm : Room) (t : TH) (Q0 : State → Prop), al_Cx F p l e s m args below meth c Rm μ.2.1 μ.2.2.1 μ.1.cls t μ.2.2.2.2.1 μ.2.2.2.2.2 n (n + dn) Q0 → Q0 = MQ below (al_post t Q (n + dn)) args s (n + dn - n) (al_sz (n + dn) - al_sz n) (al_A t) → meth.sig.returnType = μ.2.2.2.1 → meth.name = μ.1.name → F 0 L [] n R I J) : CT μ dn av n R I J Q := by
  intro l t
  refine Met.ofW (cc := μ.2.1) (maxL := μ.2.2.1) (ret := μ.2.2.2.1) hy rfl ?_
  intro p e s m args below meth c s₁ B hml hv
  obtain ⟨rfl, hv1, hv2, hv3, hv4⟩ := hv
  have hts0 := atoms_spec (ws := Cond.code μ.1 μ.2.1 μ.2.2.1 μ.2.2.2.1 :: al_gt) B.pre
  have hb0 := body _ p l e s m _ below meth c ({ frames := μ.2.2.2.2.1, cells := dn, slots := al_sz (n + dn) - al_sz n, locals := μ.2.2.2.2.2 } : Room) t _ ⟨rfl, B.exec, B.bytes, hml, findClass_of_methodNamed B.named, fun w h => hts0 w (List.mem_cons_of_mem _ h), B.notSynchronized, hv4, Nat.le_refl _, Nat.le_refl _, by show n + dn - n ≤ dn; omega, Nat.le_refl _, Nat.le_add_right _ _, h90, hv2⟩ rfl B.returns (name_of_methodNamed B.named B.method).1
  have hl := lv_entry (av.map (al_tr t)) (n := μ.2.2.1) (hlen t)
  rw [lg_entry_eq]
  rw [← hL t] at hl
  have h9 := hb0 s.heap [] _ (Nat.le_refl _) (Nat.le_add_right _ _) hv1 hv3 va_S.rf hl
  rw [Nat.sub_self, Nat.sub_self, Nat.add_sub_cancel_left] at h9
  exact h9
