/-- ldc_w of a String that is known already -/
theorem al_ldcwS {p : Program} {l : Launch} {e : Env} {R : Room} {s : State} {m : MethodId} {args : Array Value} {below : List Frame} {meth : Method} {c : Code} {T : State} {locs : List Loc} {cells slots : Nat}
    (X : Stand p l e R s m args below meth c T locs cells slots) (hexec : p.tables.exec = Jvm.exec) {own text : String} {index : Nat} {a : Addr} (hown : s.vm.findClass own = some m.cls)
    (hconst : (Cond.stringRef own index text).before args s = true) (hev : (Term.string own index).eval args s none [] s = some (.ref a)) {g : JFrame} (hg : g.method = m) (hdg : decode c.code g.pc = .ok (.ldc_w index, 3)) :
    ∀ target, Steps p.tables e below (T.setTop { g with pc := g.pc + 3, stack := .ref a :: g.stack }) target → Steps p.tables e below (T.setTop g) target := by
  obtain ⟨k, cf, i, a', hk, hcf, hcp, -, hr, hev'⟩ := Cond.stringRef_spec hown hconst
  cases hev.symm.trans hev'
  obtain ⟨k', hk', he⟩ := X.warmed.alike.2.2 _ _ hk
  have hr' : k'.resolved[index]? = some (some (.string a)) := by
    rcases X.warmed.entry hk hk' index with h | ⟨h, -⟩
    · rw [h]; exact hr
    · rw [hr] at h; cases h
  intro target hrest
  subst hg
  jvm_step X.here [hexec, hdg, ldc_w.wp_string (e := e) (s := T) (f := g) X.here.top hk' (by rw [he]; exact hcf) hcp hr']
  exact hrest
theorem S_ldcSw {F : FT} {p : Program} {l : Launch} {e : Env} {s : State} {m : MethodId} {args : Array Value} {below : List Frame} {meth : Method} {c : Code} {Rm : Room} {cc : ByteArray} {nL : Nat} {own : String} {t : TH} {fr lo n0 ne : Nat} {Q0 : State → Prop} {k : KT} {pc : Nat} (C : al_Cx F p l e s m args below meth c Rm cc nL own t fr lo n0 ne Q0) {index j : Nat} {tx : String} (hj : j < 13) (hd : decode cc pc = .ok (.ldc_w index, 3)) (hw : (own, index, tx, j) ∈ al_sr) (h : al_Ok F k (pc + 3)) : al_Ok F (o_sc j k) pc := by
  obtain ⟨rfl, hx, hb, hml, hown, hts, hlk, hSt, hfr, hlo, hce, hsl, hne, h90, hsz⟩ := C
  intro L st n R I J hk H locs ls h1 h2 hz hP hS hL
  have e9 : al_tr t (.ref (2000 + j)) = .ref (th_K t j) := by
    show Value.ref (al_ad t (2000 + j)) = _
    unfold al_ad
    rw [if_neg (by omega), if_neg (by omega), if_pos (by omega), Nat.add_sub_cancel_left]
  have h9 := h _ _ _ _ _ _ hk H locs ls h1 h2 hz hP hS hL
  rw [List.map_cons, e9] at h9
  have hZ := hSt.2.2.1 _ hw
  intro T hT X
  obtain ⟨t2, a1, b1⟩ := h9 T hT X
  exact ⟨t2, al_ldcwS X hx hown (text := tx) (a := th_K t j) hZ.1 hZ.2 (g := F0 m pc ls (st.map (al_tr t))) rfl (by rw [hb]; exact hd) t2 a1, b1⟩
