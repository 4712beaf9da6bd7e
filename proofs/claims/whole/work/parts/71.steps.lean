/-! THE LAW: the class and the reference side by side -/
theorem MI.f74 {S : SG} {I I' : II} {J J' : JJ} (h : MI S I J) (f : f74 I J I' J') : MI S I' J' := by
  obtain ⟨h1, h2, h3, h4, h5, h6⟩ := h
  have e : ∀ p, 74 ≤ p → I' p = I p := fun p hp => (f p hp).1
  exact ⟨h1.keep (e 75 (by decide)), h2.keep (by rw [e 74 (by decide)]) (f 78 (by decide)).2, h3.keep (by rw [e 74 (by decide)]) (e 76 (by decide)), h4.keep (by rw [e 74 (by decide)]) (e 81 (by decide)), h5.keep (e 86 (by decide)) (e 87 (by decide)) (f 88 (by decide)).2, h6.keep (e 77 (by decide))⟩
theorem CI.k74 {S : SG} {I I' : II} {J J' : JJ} (h : CI S I J) (f : k74 I J I' J') : CI S I' J' := by
  obtain ⟨h1, h2, h3, h4, h5, h6, h7, h8⟩ := h
  exact ⟨h1.keep (fun p q1 q2 => f p (by omega)), h2.keep (f 39 (by decide)).1, h3.keep (f 38 (by decide)).1 (f 44 (by decide)).1, h4.keep (f 72 (by decide)).1 (f 73 (by decide)).1, h5.keep (f 0 (by decide)).1 (fun p q1 q2 => f p (by omega)), h6.keep (f 45 (by decide)).1 (f 61 (by decide)).1, h7.keep (fun p q1 q2 => f p (by omega)), h8.keep (f 71 (by decide)).1⟩
theorem VS.fnd {S : SG} {k : Nat} (h : VS S) : VS (fnd k S) := h
theorem VS.sT {S : SG} {T : TW} (h : VS S) (hT : VT T) : VS (sT S T) := ⟨hT, h.2⟩
theorem VS.sB {S : SG} {B : SH} (h : VS S) (hB : VB B) : VS (sB S B) := ⟨h.1, h.2.1, h.2.2.1, hB⟩
def TO (t : Nat × (Nat → Int32)) : Prop := ∀ j, j < t.1 → ∃ b, b < 256 ∧ t.2 j = nI b
theorem VS.sP {S : SG} {t : Nat × (Nat → Int32)} (h : VS S) (h1 : t.1 ≤ 120) (h2 : TO t) : VS (sP S t) := ⟨h.1, h.2.1, ⟨h1, h2⟩, h.2.2.2⟩
theorem TO_fdl {a : Int32} : ∀ {n : Nat} {t : Nat × (Nat → Int32)}, TO t → TO (fdl a n t)
  | 0, t, h => h
  | n + 1, t, h => TO_fdl (n := n) (t := fda a n t) (fun j hj => by
    show ∃ b, b < 256 ∧ ups t.2 t.1 ((a >>> ((nI 8 * nI n) &&& 31)) &&& nI 255) j = nI b
    by_cases e : j = t.1
    · rw [e, ups_s]
      obtain ⟨b, h1, h2⟩ := pk_andE (a >>> ((nI 8 * nI n) &&& 31)) (m := nI 255) 8 (by decide +kernel)
      exact ⟨b, h1, h2⟩
    · rw [ups_n e]
      exact h j (by have : j < t.1 + 1 := hj; omega))
theorem VB.shn {B : SH} {s n : Nat} {b : Int32} (h : VB B) (hb : bok b) (hn : n ≤ 40) : VB (shn B s b (if b = nI 0 then nI 0 else nI n)) := fun t ht => by
  obtain ⟨q1, q2⟩ := h t ht
  show (∃ z, z ≤ 40 ∧ ups B.2.1 s _ t = nI z) ∧ (ups B.1 s b t = nI 0 ∨ ups B.1 s b t = nI 8 ∨ ups B.1 s b t = nI 16 ∨ ups B.1 s b t = nI 64)
  by_cases e : t = s
  · subst e
    rw [ups_s, ups_s]
    refine ⟨?_, hb⟩
    split
    · exact ⟨0, by omega, rfl⟩
    · exact ⟨n, hn, rfl⟩
  · rw [ups_n e, ups_n e]
    exact ⟨q1, q2⟩
def NX (F : FT) (i : Nat) : Prop := ∀ (S : SG) (I : II) (J : JJ), VS S → CI S I J → MI S I J → F 1204 [some (.ref 1000), some (.ref 0), some (.ref 74), some (.int (nI i))] [] 90 al_R0 I J
theorem lq {F : FT} {Q : QT} {i : Nat} (nx : NX F i) {S : SG} {v : Int32} {I : II} {J : JJ} (hV : VS S) (hC : CI S I J) : PM I J (fun v' n' R' I2 J2 => al_pu v' [.int v] (fun st' => o_iceq (F 1204) (o_ic (nI 0) (o_iret Q)) [some (.ref 1000), some (.ref 0), some (.ref 74), some (.int (nI i))] st' n' R' I2 J2)) S (.int v) := fun I2 J2 hM hk => br_t rfl (nx S I2 J2 hV (hC.k74 hk) hM)
theorem lqL {F : FT} {Q : QT} {i : Nat} (nx : NX F i) {S : SG} {v : Int64} {I : II} {J : JJ} (hV : VS S) (hC : CI S I J) : PM I J (fun v' n' R' I2 J2 => al_pu v' [.long v] (fun st' => o_lcmp (o_ifeq (F 1204) (o_ic (nI 0) (o_iret Q))) [some (.ref 1000), some (.ref 0), some (.ref 74), some (.int (nI i))] st' n' R' I2 J2)) S (.long v) := fun I2 J2 hM hk => br_t ((lg_cmp_eq v v).mpr rfl) (nx S I2 J2 hV (hC.k74 hk) hM)
theorem M_asE {a b : Int32} {h k : Nat} {S : SG} {I : II} {J : JJ} {Q : QT} (hM : MI S I J) (hV : VS S) (hh : h < S.1.2.1) (hk : k < 6) (ea : a = nI h) (eb : b = nI k) (k1 : isk (kdN S.1 h) k = true → PM I J Q S (.int (S.1.2.2.1 h 1))) (k3 : isk (kdN S.1 h) k = false → PM I J Q (fnd 2 S) (.int (-1000000003))) : CT m_X12_as 0 [.ref 74, .int a, .int b] 90 al_R0 I J Q := by
  subst ea eb
  exact M_as hM hV hh hk k1 k3
theorem M_paysE {a b : Int32} {h p : Nat} {S : SG} {I : II} {J : JJ} {Q : QT} (hM : MI S I J) (hV : VS S) (hh : h < S.1.2.1) (hp : p < 81) (ea : a = nI h) (eb : b = nI p) (k1 : 0 < rtN S.1 h * cp S.1 h p → PM I J Q S (.int ((nI 40 + nI (rtN S.1 h * cp S.1 h p) - nI 1) / nI (rtN S.1 h * cp S.1 h p)))) (k3 : rtN S.1 h * cp S.1 h p = 0 → PM I J Q (fnd 3 S) (.int (-1000000004))) : CT m_X12_pays 0 [.ref 74, .int a, .int b] 90 al_R0 I J Q := by
  subst ea eb
  exact M_pays hM hV hh hp k1 k3
theorem M_roundE {a b : Int32} {h p : Nat} {S : SG} {I : II} {J : JJ} {Q : QT} (hM : MI S I J) (hV : VS S) (hh : h < S.1.2.1) (hp : p < 81) (ea : a = nI h) (eb : b = nI p) (k1 : cor S.1.1 h p = true → rnd S.1 h p = false → rcN S.1 h < 8 → PM I J Q (sT S (rdd S.1 h p)) (.int (nI (rtN (rdd S.1 h p) h * cts (rdd S.1 h p) h)))) (k3 : cor S.1.1 h p = false → PM I J Q (fnd 3 S) (.int (-1000000004))) (k4 : cor S.1.1 h p = true → rnd S.1 h p = true → PM I J Q (fnd 4 S) (.int (-1000000005))) (k5 : cor S.1.1 h p = true → rnd S.1 h p = false → rcN S.1 h = 8 → PM I J Q (fnd 1 S) (.int (-1000000002))) : CT m_X12_round 0 [.ref 74, .int a, .int b] 90 al_R0 I J Q := by
  subst ea eb
  exact M_round hM hV hh hp k1 k3 k4 k5
theorem M_ithE {a b : Int32} {h m : Nat} {S : SG} {I : II} {J : JJ} {Q : QT} (hM : MI S I J) (hV : VS S) (hh : h < S.1.2.1) (hm : m < 2 ^ 31) (ea : a = nI h) (eb : b = nI m) (k1 : ithc S.1.1 h m < 81 → PM I J Q S (.int (nI (ithc S.1.1 h m)))) (k3 : ¬ ithc S.1.1 h m < 81 → PM I J Q (fnd 3 S) (.int (-1000000004))) : CT m_X12_ith 0 [.ref 74, .int a, .int b] 90 al_R0 I J Q := by
  subst ea eb
  exact M_ith hM hV hh hm k1 k3
theorem M_feedE {a b : Int32} {n : Nat} {S : SG} {I : II} {J : JJ} {Q : QT} (hM : MI S I J) (hV : VS S) (n1 : 1 ≤ n) (n2 : n ≤ 4) (eb : b = nI n) (k1 : S.2.2.2.1.1 + n ≤ 120 → PM I J Q (sP S (fdl a n S.2.2.2.1)) (.int (nI (S.2.2.2.1.1 + n)))) (k3 : 120 < S.2.2.2.1.1 + n → PM I J Q (fnd 1 S) (.int (-1000000002))) : CT m_X12_feed 0 [.ref 74, .int a, .int b] 90 al_R0 I J Q := by
  subst eb
  exact M_feed hM hV n1 n2 k1 k3
theorem M_shedE {a : Int32} {h : Nat} {S : SG} {I : II} {J : JJ} {Q : QT} (hM : MI S I J) (hV : VS S) (hh : h < S.1.2.1) (ea : a = nI h) (k1 : ∀ q, ar (svg S.1 h) 64 = nI q → q < 64 → PM I J Q S (.int (nI q))) (k3 : ar (svg S.1 h) 64 = -1 → PM I J Q (fnd 3 S) (.int (-1000000004))) : CT m_X12_shed 0 [.ref 74, .int a] 90 al_R0 I J Q := by
  subst ea
  exact M_shed hM hV hh k1 k3
theorem M_copy1E {a f b g n : Int32} {s t f' g' n' : Nat} {S : SG} {I : II} {J : JJ} {Q : QT} (hM : MI S I J) (hV : VS S) (hs : s < 4) (ht : t < 4) (ea : a = nI s) (eb : b = nI t) (w1 : ¬ S.2.2.2.2.1.1 s = nI 0) (w2 : ¬ S.2.2.2.2.1.1 t = nI 0) (w3 : S.2.2.2.2.1.1 s = S.2.2.2.2.1.1 t) (ef : f = nI f') (eg : g = nI g') (en : n = nI n') (l1 : f' + n' ≤ szN S.2.2.2.2.1 s) (l2 : g' + n' ≤ szN S.2.2.2.2.1 t) (kq : PM I J Q (sB S (S.2.2.2.2.1.1, S.2.2.2.2.1.2.1, al_cpy S.2.2.2.2.1.2.2 s t f' g' n')) (.int n)) : CT m_X12_copy 0 [.ref 74, .int a, .int f, .int b, .int g, .int n] 90 al_R0 I J Q := by
  have z1 := (hV.2.2.2.sz hs).1
  have z2 := (hV.2.2.2.sz ht).1
  subst ea eb
  refine M_copy hM hV hs ht (fun f2 g2 n2 _ _ _ e1 e2 e3 q1 q2 => ?_) (fun h => absurd h (fun h => h.elim w1 w2)) (fun _ _ h => absurd w3 h) (fun _ _ _ h => absurd ?_ h)
  · have a1 : f' = f2 := by rw [ef, nI_eq (by omega) (by omega)] at e1; exact e1
    have a2 : g' = g2 := by rw [eg, nI_eq (by omega) (by omega)] at e2; exact e2
    have a3 : n' = n2 := by rw [en, nI_eq (by omega) (by omega)] at e3; exact e3
    rw [← a1, ← a2, ← a3]
    exact kq
  · rw [ef, eg, en, nT (by omega), nT (by omega), nT (by omega)]
    omega
theorem M_copy3E {a f b g n : Int32} {s t : Nat} {S : SG} {I : II} {J : JJ} {Q : QT} (hM : MI S I J) (hV : VS S) (hs : s < 4) (ht : t < 4) (ea : a = nI s) (eb : b = nI t) (w : S.2.2.2.2.1.1 s = nI 0 ∨ S.2.2.2.2.1.1 t = nI 0) (kq : PM I J Q (fnd 5 S) (.int (-1000000006))) : CT m_X12_copy 0 [.ref 74, .int a, .int f, .int b, .int g, .int n] 90 al_R0 I J Q := by
  subst ea eb
  exact M_copy hM hV hs ht (fun f2 g2 n2 w1 w2 _ _ _ _ _ _ => absurd w (fun h => h.elim w1 w2)) (fun _ => kq) (fun w1 w2 _ => absurd w (fun h => h.elim w1 w2)) (fun w1 w2 _ _ => absurd w (fun h => h.elim w1 w2))
theorem M_copy4E {a f b g n : Int32} {s t : Nat} {S : SG} {I : II} {J : JJ} {Q : QT} (hM : MI S I J) (hV : VS S) (hs : s < 4) (ht : t < 4) (ea : a = nI s) (eb : b = nI t) (w1 : ¬ S.2.2.2.2.1.1 s = nI 0) (w2 : ¬ S.2.2.2.2.1.1 t = nI 0) (w3 : ¬ S.2.2.2.2.1.1 s = S.2.2.2.2.1.1 t) (kq : PM I J Q (fnd 2 S) (.int (-1000000003))) : CT m_X12_copy 0 [.ref 74, .int a, .int f, .int b, .int g, .int n] 90 al_R0 I J Q := by
  subst ea eb
  exact M_copy hM hV hs ht (fun f2 g2 n2 _ _ h _ _ _ _ _ => absurd h w3) (fun h => absurd h (fun h => h.elim w1 w2)) (fun _ _ _ => kq) (fun _ _ h _ => absurd h w3)
theorem M_copy5E {a f b g n : Int32} {s t : Nat} {S : SG} {I : II} {J : JJ} {Q : QT} (hM : MI S I J) (hV : VS S) (hs : s < 4) (ht : t < 4) (ea : a = nI s) (eb : b = nI t) (w1 : ¬ S.2.2.2.2.1.1 s = nI 0) (w2 : ¬ S.2.2.2.2.1.1 t = nI 0) (w3 : S.2.2.2.2.1.1 s = S.2.2.2.2.1.1 t) (w4 : ¬ (0 ≤ f.toInt ∧ 0 ≤ n.toInt ∧ 0 ≤ g.toInt ∧ f.toInt + n.toInt ≤ szN S.2.2.2.2.1 s ∧ g.toInt + n.toInt ≤ szN S.2.2.2.2.1 t)) (kq : PM I J Q (fnd 0 S) (.int (-1000000001))) : CT m_X12_copy 0 [.ref 74, .int a, .int f, .int b, .int g, .int n] 90 al_R0 I J Q := by
  have z1 := (hV.2.2.2.sz hs).1
  have z2 := (hV.2.2.2.sz ht).1
  subst ea eb
  refine M_copy hM hV hs ht (fun f2 g2 n2 _ _ _ e1 e2 e3 q1 q2 => absurd ?_ w4) (fun h => absurd h (fun h => h.elim w1 w2)) (fun _ _ h => absurd w3 h) (fun _ _ _ _ => kq)
  rw [e1, e2, e3, nT (by omega), nT (by omega), nT (by omega)]
  omega

theorem st_square {F : FT} {Q : QT} {LS i : Nat} {xs : Nat → Int32} {S : SG} {I : II} {J : JJ} (b : al_Ok F (k_L_law_188 F Q 90 LS xs) 188) (hi : i + 6 ≤ LS) (hV : VS S) (hC : CI S I J) (hM : MI S I J) (nx : NX F i) : F 188 [some (.ref 1000), some (.ref 0), some (.ref 74), some (.int (nI i))] [] 90 al_R0 I J := by
  refine b _ _ _ _ _ _ (And.intro rfl (Exists.intro (i + 1) (And.intro (by omega) (And.intro (nI_add i 1) (And.intro rfl (Exists.intro (i + 2) (And.intro (by omega) (And.intro (nI_add i 2) (X_square hC hV (fun q x hq hx ea eb I' J' g1 g2 => ?_) (fun hg I' J' g1 g2 => ?_))))))))))
  · have hN := hM.f74 g2
    exact And.intro rfl (Exists.intro (i + 1) (And.intro (by omega) (And.intro (nI_add i 1) (And.intro rfl (Exists.intro (i + 2) (And.intro (by omega) (And.intro (nI_add i 2) (M_square1 hN hV hq hx ea eb (lq nx (hV.sT (VT.lay hV.1 hx)) g1)))))))))
  · have hN := hM.f74 g2
    exact And.intro rfl (Exists.intro (i + 1) (And.intro (by omega) (And.intro (nI_add i 1) (And.intro rfl (Exists.intro (i + 2) (And.intro (by omega) (And.intro (nI_add i 2) (M_square2 hN hV hg (lq nx (hV.fnd) g1)))))))))
theorem st_at {F : FT} {Q : QT} {LS i : Nat} {xs : Nat → Int32} {S : SG} {I : II} {J : JJ} (b : al_Ok F (k_L_law_221 F Q 90 LS xs) 221) (hi : i + 6 ≤ LS) (hV : VS S) (hC : CI S I J) (hM : MI S I J) (nx : NX F i) : F 221 [some (.ref 1000), some (.ref 0), some (.ref 74), some (.int (nI i))] [] 90 al_R0 I J := by
  refine b _ _ _ _ _ _ (And.intro rfl (Exists.intro (i + 1) (And.intro (by omega) (And.intro (nI_add i 1) (X_at hC (fun q hq ea I' J' g1 g2 => ?_) (fun hg I' J' g1 g2 => ?_))))))
  · have hN := hM.f74 g2
    exact And.intro rfl (Exists.intro (i + 1) (And.intro (by omega) (And.intro (nI_add i 1) (M_at1 hN hq ea (lq nx (hV) g1)))))
  · have hN := hM.f74 g2
    exact And.intro rfl (Exists.intro (i + 1) (And.intro (by omega) (And.intro (nI_add i 1) (M_at2 hN hg (lq nx (hV.fnd) g1)))))
theorem st_house {F : FT} {Q : QT} {LS i : Nat} {xs : Nat → Int32} {S : SG} {I : II} {J : JJ} (b : al_Ok F (k_L_law_244 F Q 90 LS xs) 244) (hi : i + 6 ≤ LS) (hV : VS S) (hC : CI S I J) (hM : MI S I J) (nx : NX F i) : F 244 [some (.ref 1000), some (.ref 0), some (.ref 74), some (.int (nI i))] [] 90 al_R0 I J := by
  refine b _ _ _ _ _ _ (And.intro rfl (Exists.intro (i + 1) (And.intro (by omega) (And.intro (nI_add i 1) (And.intro rfl (Exists.intro (i + 2) (And.intro (by omega) (And.intro (nI_add i 2) (X_house hC hV (fun k r hk r1 r2 ea eb hn I' J' g1 g2 => ?_) (fun hg I' J' g1 g2 => ?_) (fun k r hk r1 r2 ea eb hn I' J' g1 g2 => ?_))))))))))
  · have hN := hM.f74 g2
    exact And.intro rfl (Exists.intro (i + 1) (And.intro (by omega) (And.intro (nI_add i 1) (And.intro rfl (Exists.intro (i + 2) (And.intro (by omega) (And.intro (nI_add i 2) (M_house1 hN hk r1 r2 ea eb hn (lq nx (hV.sT (by rw [ea, eb]; exact VT.bld hV.1 hn hk r1 r2)) g1)))))))))
  · have hN := hM.f74 g2
    exact And.intro rfl (Exists.intro (i + 1) (And.intro (by omega) (And.intro (nI_add i 1) (And.intro rfl (Exists.intro (i + 2) (And.intro (by omega) (And.intro (nI_add i 2) (M_house2 hN hg (lq nx (hV.fnd) g1)))))))))
  · have hN := hM.f74 g2
    exact And.intro rfl (Exists.intro (i + 1) (And.intro (by omega) (And.intro (nI_add i 1) (And.intro rfl (Exists.intro (i + 2) (And.intro (by omega) (And.intro (nI_add i 2) (M_house3 hN hk r1 r2 ea eb hn (lq nx (hV.fnd) g1)))))))))
theorem st_of {F : FT} {Q : QT} {LS i : Nat} {xs : Nat → Int32} {S : SG} {I : II} {J : JJ} (b : al_Ok F (k_L_law_277 F Q 90 LS xs) 277) (hi : i + 6 ≤ LS) (hV : VS S) (hC : CI S I J) (hM : MI S I J) (nx : NX F i) : F 277 [some (.ref 1000), some (.ref 0), some (.ref 74), some (.int (nI i))] [] 90 al_R0 I J := by
  refine b _ _ _ _ _ _ (And.intro rfl (Exists.intro (i + 1) (And.intro (by omega) (And.intro (nI_add i 1) (And.intro rfl (Exists.intro (i + 2) (And.intro (by omega) (And.intro (nI_add i 2) (X_of hC hV (fun h w hh hw ea eb I' J' g1 g2 => ?_) (fun hg I' J' g1 g2 => ?_))))))))))
  · have hN := hM.f74 g2
    exact And.intro rfl (Exists.intro (i + 1) (And.intro (by omega) (And.intro (nI_add i 1) (And.intro rfl (Exists.intro (i + 2) (And.intro (by omega) (And.intro (nI_add i 2) (M_of1 hN hV hh hw ea eb (lq nx (hV) g1)))))))))
  · have hN := hM.f74 g2
    exact And.intro rfl (Exists.intro (i + 1) (And.intro (by omega) (And.intro (nI_add i 1) (And.intro rfl (Exists.intro (i + 2) (And.intro (by omega) (And.intro (nI_add i 2) (M_of2 hN hV hg (lq nx (hV.fnd) g1)))))))))
theorem st_set {F : FT} {Q : QT} {LS i : Nat} {xs : Nat → Int32} {S : SG} {I : II} {J : JJ} (b : al_Ok F (k_L_law_310 F Q 90 LS xs) 310) (hi : i + 6 ≤ LS) (hV : VS S) (hC : CI S I J) (hM : MI S I J) (nx : NX F i) : F 310 [some (.ref 1000), some (.ref 0), some (.ref 74), some (.int (nI i))] [] 90 al_R0 I J := by
  refine b _ _ _ _ _ _ (And.intro rfl (Exists.intro (i + 1) (And.intro (by omega) (And.intro (nI_add i 1) (And.intro rfl (Exists.intro (i + 2) (And.intro (by omega) (And.intro (nI_add i 2) (And.intro rfl (Exists.intro (i + 3) (And.intro (by omega) (And.intro (nI_add i 3) (X_set hC hV (fun h w hh ea eb hw I' J' g1 g2 => ?_) (fun hg I' J' g1 g2 => ?_))))))))))))))
  · have hN := hM.f74 g2
    exact And.intro rfl (Exists.intro (i + 1) (And.intro (by omega) (And.intro (nI_add i 1) (And.intro rfl (Exists.intro (i + 2) (And.intro (by omega) (And.intro (nI_add i 2) (And.intro rfl (Exists.intro (i + 3) (And.intro (by omega) (And.intro (nI_add i 3) (M_set1 hN hV hh ea eb hw (lq nx (hV.sT (VT.setf hV.1 (fun e => by omega) (fun e => hw.elim (fun q => q.2) (fun q => by omega)) (fun e => by omega))) g1)))))))))))))
  · have hN := hM.f74 g2
    exact And.intro rfl (Exists.intro (i + 1) (And.intro (by omega) (And.intro (nI_add i 1) (And.intro rfl (Exists.intro (i + 2) (And.intro (by omega) (And.intro (nI_add i 2) (And.intro rfl (Exists.intro (i + 3) (And.intro (by omega) (And.intro (nI_add i 3) (M_set2 hN hV hg (lq nx (hV.fnd) g1)))))))))))))
theorem st_turn {F : FT} {Q : QT} {LS i : Nat} {xs : Nat → Int32} {S : SG} {I : II} {J : JJ} (b : al_Ok F (k_L_law_353 F Q 90 LS xs) 353) (hi : i + 6 ≤ LS) (hV : VS S) (hC : CI S I J) (hM : MI S I J) (nx : NX F i) : F 353 [some (.ref 1000), some (.ref 0), some (.ref 74), some (.int (nI i))] [] 90 al_R0 I J := by
  refine b _ _ _ _ _ _ (And.intro rfl (Exists.intro (i + 1) (And.intro (by omega) (And.intro (nI_add i 1) (And.intro rfl (Exists.intro (i + 2) (And.intro (by omega) (And.intro (nI_add i 2) (X_turn hC hV (fun h k hh hk ea eb I' J' g1 g2 => ?_) (fun hg I' J' g1 g2 => ?_))))))))))
  · have hN := hM.f74 g2
    exact And.intro rfl (Exists.intro (i + 1) (And.intro (by omega) (And.intro (nI_add i 1) (And.intro rfl (Exists.intro (i + 2) (And.intro (by omega) (And.intro (nI_add i 2) (M_turn1 hN hV hh hk ea eb (lq nx (hV.sT (VT.setf hV.1 (fun _ => ⟨k, hk, rfl⟩) (by omega) (by omega))) g1)))))))))
  · have hN := hM.f74 g2
    exact And.intro rfl (Exists.intro (i + 1) (And.intro (by omega) (And.intro (nI_add i 1) (And.intro rfl (Exists.intro (i + 2) (And.intro (by omega) (And.intro (nI_add i 2) (M_turn2 hN hV hg (lq nx (hV.fnd) g1)))))))))
theorem st_as {F : FT} {Q : QT} {LS i : Nat} {xs : Nat → Int32} {S : SG} {I : II} {J : JJ} (b : al_Ok F (k_L_law_386 F Q 90 LS xs) 386) (hi : i + 6 ≤ LS) (hV : VS S) (hC : CI S I J) (hM : MI S I J) (nx : NX F i) : F 386 [some (.ref 1000), some (.ref 0), some (.ref 74), some (.int (nI i))] [] 90 al_R0 I J := by
  refine b _ _ _ _ _ _ (And.intro rfl (Exists.intro (i + 1) (And.intro (by omega) (And.intro (nI_add i 1) (And.intro rfl (Exists.intro (i + 2) (And.intro (by omega) (And.intro (nI_add i 2) (X_as hC hV (fun h k hh hk ea eb hi I' J' g1 g2 => ?_) (fun hg I' J' g1 g2 => ?_) (fun h k hh hk ea eb hi I' J' g1 g2 => ?_))))))))))
  · have hN := hM.f74 g2
    exact And.intro rfl (Exists.intro (i + 1) (And.intro (by omega) (And.intro (nI_add i 1) (And.intro rfl (Exists.intro (i + 2) (And.intro (by omega) (And.intro (nI_add i 2) (M_asE hN hV hh hk ea eb (fun _ => lq nx (hV) g1) (fun w => absurd (hi.symm.trans w) (by decide))))))))))
  · have hN := hM.f74 g2
    exact And.intro rfl (Exists.intro (i + 1) (And.intro (by omega) (And.intro (nI_add i 1) (And.intro rfl (Exists.intro (i + 2) (And.intro (by omega) (And.intro (nI_add i 2) (M_as2 hN hV hg (lq nx (hV.fnd) g1)))))))))
  · have hN := hM.f74 g2
    exact And.intro rfl (Exists.intro (i + 1) (And.intro (by omega) (And.intro (nI_add i 1) (And.intro rfl (Exists.intro (i + 2) (And.intro (by omega) (And.intro (nI_add i 2) (M_asE hN hV hh hk ea eb (fun w => absurd (hi.symm.trans w) (by decide)) (fun _ => lq nx (hV.fnd) g1)))))))))
theorem st_corner {F : FT} {Q : QT} {LS i : Nat} {xs : Nat → Int32} {S : SG} {I : II} {J : JJ} (b : al_Ok F (k_L_law_419 F Q 90 LS xs) 419) (hi : i + 6 ≤ LS) (hV : VS S) (hC : CI S I J) (hM : MI S I J) (nx : NX F i) : F 419 [some (.ref 1000), some (.ref 0), some (.ref 74), some (.int (nI i))] [] 90 al_R0 I J := by
  refine b _ _ _ _ _ _ (And.intro rfl (Exists.intro (i + 1) (And.intro (by omega) (And.intro (nI_add i 1) (And.intro rfl (Exists.intro (i + 2) (And.intro (by omega) (And.intro (nI_add i 2) (X_corner hC hV (fun h p hh hp ea eb I' J' g1 g2 => ?_) (fun hg I' J' g1 g2 => ?_))))))))))
  · have hN := hM.f74 g2
    exact And.intro rfl (Exists.intro (i + 1) (And.intro (by omega) (And.intro (nI_add i 1) (And.intro rfl (Exists.intro (i + 2) (And.intro (by omega) (And.intro (nI_add i 2) (M_corner1 hN hV hh hp ea eb (lq nx (hV) g1)))))))))
  · have hN := hM.f74 g2
    exact And.intro rfl (Exists.intro (i + 1) (And.intro (by omega) (And.intro (nI_add i 1) (And.intro rfl (Exists.intro (i + 2) (And.intro (by omega) (And.intro (nI_add i 2) (M_corner2 hN hV hg (lq nx (hV.fnd) g1)))))))))
theorem st_ith {F : FT} {Q : QT} {LS i : Nat} {xs : Nat → Int32} {S : SG} {I : II} {J : JJ} (b : al_Ok F (k_L_law_452 F Q 90 LS xs) 452) (hi : i + 6 ≤ LS) (hV : VS S) (hC : CI S I J) (hM : MI S I J) (nx : NX F i) : F 452 [some (.ref 1000), some (.ref 0), some (.ref 74), some (.int (nI i))] [] 90 al_R0 I J := by
  refine b _ _ _ _ _ _ (And.intro rfl (Exists.intro (i + 1) (And.intro (by omega) (And.intro (nI_add i 1) (And.intro rfl (Exists.intro (i + 2) (And.intro (by omega) (And.intro (nI_add i 2) (X_ith hC hV (fun h m hh hm ea eb hl I' J' g1 g2 => ?_) (fun hg I' J' g1 g2 => ?_) (fun h m hh hm ea eb hl I' J' g1 g2 => ?_))))))))))
  · have hN := hM.f74 g2
    exact And.intro rfl (Exists.intro (i + 1) (And.intro (by omega) (And.intro (nI_add i 1) (And.intro rfl (Exists.intro (i + 2) (And.intro (by omega) (And.intro (nI_add i 2) (M_ithE hN hV hh hm ea eb (fun _ => lq nx (hV) g1) (fun w => absurd hl w)))))))))
  · have hN := hM.f74 g2
    exact And.intro rfl (Exists.intro (i + 1) (And.intro (by omega) (And.intro (nI_add i 1) (And.intro rfl (Exists.intro (i + 2) (And.intro (by omega) (And.intro (nI_add i 2) (M_ith2 hN hV hg (lq nx (hV.fnd) g1)))))))))
  · have hN := hM.f74 g2
    exact And.intro rfl (Exists.intro (i + 1) (And.intro (by omega) (And.intro (nI_add i 1) (And.intro rfl (Exists.intro (i + 2) (And.intro (by omega) (And.intro (nI_add i 2) (M_ithE hN hV hh hm ea eb (fun w => by omega) (fun _ => lq nx (hV.fnd) g1)))))))))
theorem st_sees {F : FT} {Q : QT} {LS i : Nat} {xs : Nat → Int32} {S : SG} {I : II} {J : JJ} (b : al_Ok F (k_L_law_485 F Q 90 LS xs) 485) (hi : i + 6 ≤ LS) (hV : VS S) (hC : CI S I J) (hM : MI S I J) (nx : NX F i) : F 485 [some (.ref 1000), some (.ref 0), some (.ref 74), some (.int (nI i))] [] 90 al_R0 I J := by
  refine b _ _ _ _ _ _ (And.intro rfl (Exists.intro (i + 1) (And.intro (by omega) (And.intro (nI_add i 1) (And.intro rfl (Exists.intro (i + 2) (And.intro (by omega) (And.intro (nI_add i 2) (X_sees hC hV (fun q p hq hp ea eb hs I' J' g1 g2 => ?_) (fun hg I' J' g1 g2 => ?_) (fun q p hq hp ea eb hs I' J' g1 g2 => ?_))))))))))
  · have hN := hM.f74 g2
    exact And.intro rfl (Exists.intro (i + 1) (And.intro (by omega) (And.intro (nI_add i 1) (And.intro rfl (Exists.intro (i + 2) (And.intro (by omega) (And.intro (nI_add i 2) (M_sees1 hN hV hq hp ea eb hs (lq nx (hV) g1)))))))))
  · have hN := hM.f74 g2
    exact And.intro rfl (Exists.intro (i + 1) (And.intro (by omega) (And.intro (nI_add i 1) (And.intro rfl (Exists.intro (i + 2) (And.intro (by omega) (And.intro (nI_add i 2) (M_sees2 hN hg (lq nx (hV.fnd) g1)))))))))
  · have hN := hM.f74 g2
    exact And.intro rfl (Exists.intro (i + 1) (And.intro (by omega) (And.intro (nI_add i 1) (And.intro rfl (Exists.intro (i + 2) (And.intro (by omega) (And.intro (nI_add i 2) (M_sees3 hN hV hq hp ea eb hs (lq nx (hV.fnd) g1)))))))))
theorem st_seen {F : FT} {Q : QT} {LS i : Nat} {xs : Nat → Int32} {S : SG} {I : II} {J : JJ} (b : al_Ok F (k_L_law_518 F Q 90 LS xs) 518) (hi : i + 6 ≤ LS) (hV : VS S) (hC : CI S I J) (hM : MI S I J) (nx : NX F i) : F 518 [some (.ref 1000), some (.ref 0), some (.ref 74), some (.int (nI i))] [] 90 al_R0 I J := by
  refine b _ _ _ _ _ _ (And.intro rfl (Exists.intro (i + 1) (And.intro (by omega) (And.intro (nI_add i 1) (X_seen hC (fun p hp ea I' J' g1 g2 => ?_) (fun hg I' J' g1 g2 => ?_))))))
  · have hN := hM.f74 g2
    exact And.intro rfl (Exists.intro (i + 1) (And.intro (by omega) (And.intro (nI_add i 1) (M_seen1 hN hV hp ea (lq nx (hV) g1)))))
  · have hN := hM.f74 g2
    exact And.intro rfl (Exists.intro (i + 1) (And.intro (by omega) (And.intro (nI_add i 1) (M_seen2 hN hg (lq nx (hV.fnd) g1)))))
theorem st_counts {F : FT} {Q : QT} {LS i : Nat} {xs : Nat → Int32} {S : SG} {I : II} {J : JJ} (b : al_Ok F (k_L_law_541 F Q 90 LS xs) 541) (hi : i + 6 ≤ LS) (hV : VS S) (hC : CI S I J) (hM : MI S I J) (nx : NX F i) : F 541 [some (.ref 1000), some (.ref 0), some (.ref 74), some (.int (nI i))] [] 90 al_R0 I J := by
  refine b _ _ _ _ _ _ (And.intro rfl (Exists.intro (i + 1) (And.intro (by omega) (And.intro (nI_add i 1) (And.intro rfl (Exists.intro (i + 2) (And.intro (by omega) (And.intro (nI_add i 2) (X_counts hC hV (fun h p hh hp ea eb I' J' g1 g2 => ?_) (fun hg I' J' g1 g2 => ?_))))))))))
  · have hN := hM.f74 g2
    exact And.intro rfl (Exists.intro (i + 1) (And.intro (by omega) (And.intro (nI_add i 1) (And.intro rfl (Exists.intro (i + 2) (And.intro (by omega) (And.intro (nI_add i 2) (M_counts1 hN hV hh hp ea eb (lq nx (hV) g1)))))))))
  · have hN := hM.f74 g2
    exact And.intro rfl (Exists.intro (i + 1) (And.intro (by omega) (And.intro (nI_add i 1) (And.intro rfl (Exists.intro (i + 2) (And.intro (by omega) (And.intro (nI_add i 2) (M_counts2 hN hV hg (lq nx (hV.fnd) g1)))))))))
theorem st_whose {F : FT} {Q : QT} {LS i : Nat} {xs : Nat → Int32} {S : SG} {I : II} {J : JJ} (b : al_Ok F (k_L_law_574 F Q 90 LS xs) 574) (hi : i + 6 ≤ LS) (hV : VS S) (hC : CI S I J) (hM : MI S I J) (nx : NX F i) : F 574 [some (.ref 1000), some (.ref 0), some (.ref 74), some (.int (nI i))] [] 90 al_R0 I J := by
  refine b _ _ _ _ _ _ (And.intro rfl (Exists.intro (i + 1) (And.intro (by omega) (And.intro (nI_add i 1) (X_whose hC hV (fun p hp ea I' J' g1 g2 => ?_) (fun hg I' J' g1 g2 => ?_))))))
  · have hN := hM.f74 g2
    exact And.intro rfl (Exists.intro (i + 1) (And.intro (by omega) (And.intro (nI_add i 1) (M_whose1 hN hV hp ea (lq nx (hV) g1)))))
  · have hN := hM.f74 g2
    exact And.intro rfl (Exists.intro (i + 1) (And.intro (by omega) (And.intro (nI_add i 1) (M_whose2 hN hg (lq nx (hV.fnd) g1)))))
theorem st_round {F : FT} {Q : QT} {LS i : Nat} {xs : Nat → Int32} {S : SG} {I : II} {J : JJ} (b : al_Ok F (k_L_law_597 F Q 90 LS xs) 597) (hi : i + 6 ≤ LS) (hV : VS S) (hC : CI S I J) (hM : MI S I J) (nx : NX F i) : F 597 [some (.ref 1000), some (.ref 0), some (.ref 74), some (.int (nI i))] [] 90 al_R0 I J := by
  refine b _ _ _ _ _ _ (And.intro rfl (Exists.intro (i + 1) (And.intro (by omega) (And.intro (nI_add i 1) (And.intro rfl (Exists.intro (i + 2) (And.intro (by omega) (And.intro (nI_add i 2) (X_round hC hV (fun h p hh hp ea eb c1 c2 c3 => And.intro (VT.rdd hV.1 c3) (fun I' J' g1 g2 => ?_)) (fun hg I' J' g1 g2 => ?_) (fun h p hh hp ea eb c1 I' J' g1 g2 => ?_) (fun h p hh hp ea eb c1 c2 I' J' g1 g2 => ?_) (fun h p hh hp ea eb c1 c2 c3 I' J' g1 g2 => ?_))))))))))
  · have hN := hM.f74 g2
    exact And.intro rfl (Exists.intro (i + 1) (And.intro (by omega) (And.intro (nI_add i 1) (And.intro rfl (Exists.intro (i + 2) (And.intro (by omega) (And.intro (nI_add i 2) (M_roundE hN hV hh hp ea eb (fun _ _ _ => lq nx (hV.sT (VT.rdd hV.1 c3)) g1) (fun w => absurd (c1.symm.trans w) (by decide)) (fun _ w => absurd (c2.symm.trans w) (by decide)) (fun _ _ w => by omega)))))))))
  · have hN := hM.f74 g2
    exact And.intro rfl (Exists.intro (i + 1) (And.intro (by omega) (And.intro (nI_add i 1) (And.intro rfl (Exists.intro (i + 2) (And.intro (by omega) (And.intro (nI_add i 2) (M_round2 hN hV hg (lq nx (hV.fnd) g1)))))))))
  · have hN := hM.f74 g2
    exact And.intro rfl (Exists.intro (i + 1) (And.intro (by omega) (And.intro (nI_add i 1) (And.intro rfl (Exists.intro (i + 2) (And.intro (by omega) (And.intro (nI_add i 2) (M_roundE hN hV hh hp ea eb (fun w _ _ => absurd (c1.symm.trans w) (by decide)) (fun _ => lq nx (hV.fnd) g1) (fun w _ => absurd (c1.symm.trans w) (by decide)) (fun w _ _ => absurd (c1.symm.trans w) (by decide))))))))))
  · have hN := hM.f74 g2
    exact And.intro rfl (Exists.intro (i + 1) (And.intro (by omega) (And.intro (nI_add i 1) (And.intro rfl (Exists.intro (i + 2) (And.intro (by omega) (And.intro (nI_add i 2) (M_roundE hN hV hh hp ea eb (fun _ w _ => absurd (c2.symm.trans w) (by decide)) (fun w => absurd (c1.symm.trans w) (by decide)) (fun _ _ => lq nx (hV.fnd) g1) (fun _ w _ => absurd (c2.symm.trans w) (by decide))))))))))
  · have hN := hM.f74 g2
    exact And.intro rfl (Exists.intro (i + 1) (And.intro (by omega) (And.intro (nI_add i 1) (And.intro rfl (Exists.intro (i + 2) (And.intro (by omega) (And.intro (nI_add i 2) (M_roundE hN hV hh hp ea eb (fun _ _ w => by omega) (fun w => absurd (c1.symm.trans w) (by decide)) (fun _ w => absurd (c2.symm.trans w) (by decide)) (fun _ _ _ => lq nx (hV.fnd) g1)))))))))
theorem st_pays {F : FT} {Q : QT} {LS i : Nat} {xs : Nat → Int32} {S : SG} {I : II} {J : JJ} (b : al_Ok F (k_L_law_630 F Q 90 LS xs) 630) (hi : i + 6 ≤ LS) (hV : VS S) (hC : CI S I J) (hM : MI S I J) (nx : NX F i) : F 630 [some (.ref 1000), some (.ref 0), some (.ref 74), some (.int (nI i))] [] 90 al_R0 I J := by
  refine b _ _ _ _ _ _ (And.intro rfl (Exists.intro (i + 1) (And.intro (by omega) (And.intro (nI_add i 1) (And.intro rfl (Exists.intro (i + 2) (And.intro (by omega) (And.intro (nI_add i 2) (X_pays hC hV (fun h p hh hp ea eb c1 I' J' g1 g2 => ?_) (fun hg I' J' g1 g2 => ?_) (fun h p hh hp ea eb c1 I' J' g1 g2 => ?_))))))))))
  · have hN := hM.f74 g2
    exact And.intro rfl (Exists.intro (i + 1) (And.intro (by omega) (And.intro (nI_add i 1) (And.intro rfl (Exists.intro (i + 2) (And.intro (by omega) (And.intro (nI_add i 2) (M_paysE hN hV hh hp ea eb (fun _ => lq nx (hV) g1) (fun w => by omega)))))))))
  · have hN := hM.f74 g2
    exact And.intro rfl (Exists.intro (i + 1) (And.intro (by omega) (And.intro (nI_add i 1) (And.intro rfl (Exists.intro (i + 2) (And.intro (by omega) (And.intro (nI_add i 2) (M_pays2 hN hV hg (lq nx (hV.fnd) g1)))))))))
  · have hN := hM.f74 g2
    exact And.intro rfl (Exists.intro (i + 1) (And.intro (by omega) (And.intro (nI_add i 1) (And.intro rfl (Exists.intro (i + 2) (And.intro (by omega) (And.intro (nI_add i 2) (M_paysE hN hV hh hp ea eb (fun w => by omega) (fun _ => lq nx (hV.fnd) g1)))))))))
theorem st_shed {F : FT} {Q : QT} {LS i : Nat} {xs : Nat → Int32} {S : SG} {I : II} {J : JJ} (b : al_Ok F (k_L_law_663 F Q 90 LS xs) 663) (hi : i + 6 ≤ LS) (hV : VS S) (hC : CI S I J) (hM : MI S I J) (nx : NX F i) : F 663 [some (.ref 1000), some (.ref 0), some (.ref 74), some (.int (nI i))] [] 90 al_R0 I J := by
  refine b _ _ _ _ _ _ (And.intro rfl (Exists.intro (i + 1) (And.intro (by omega) (And.intro (nI_add i 1) (X_shed hC hV (fun h q hh ea e1 hq I' J' g1 g2 => ?_) (fun hg I' J' g1 g2 => ?_) (fun h hh ea e1 I' J' g1 g2 => ?_))))))
  · have hN := hM.f74 g2
    exact And.intro rfl (Exists.intro (i + 1) (And.intro (by omega) (And.intro (nI_add i 1) (M_shedE hN hV hh ea (fun q2 e2 hq2 => (show q = q2 by rw [e1, nI_eq (by omega) (by omega)] at e2; exact e2) ▸ lq nx (hV) g1) (fun w => absurd (e1.symm.trans w) (nI_nm1 (by omega)))))))
  · have hN := hM.f74 g2
    exact And.intro rfl (Exists.intro (i + 1) (And.intro (by omega) (And.intro (nI_add i 1) (M_shed2 hN hV hg (lq nx (hV.fnd) g1)))))
  · have hN := hM.f74 g2
    exact And.intro rfl (Exists.intro (i + 1) (And.intro (by omega) (And.intro (nI_add i 1) (M_shedE hN hV hh ea (fun q2 e2 hq2 => absurd (e2.symm.trans e1) (nI_nm1 (by omega))) (fun _ => lq nx (hV.fnd) g1)))))
theorem st_plot {F : FT} {Q : QT} {LS i : Nat} {xs : Nat → Int32} {S : SG} {I : II} {J : JJ} (b : al_Ok F (k_L_law_686 F Q 90 LS xs) 686) (hi : i + 6 ≤ LS) (hV : VS S) (hC : CI S I J) (hM : MI S I J) (nx : NX F i) : F 686 [some (.ref 1000), some (.ref 0), some (.ref 74), some (.int (nI i))] [] 90 al_R0 I J := by
  refine b _ _ _ _ _ _ (And.intro rfl (Exists.intro (i + 1) (And.intro (by omega) (And.intro (nI_add i 1) (And.intro rfl (Exists.intro (i + 2) (And.intro (by omega) (And.intro (nI_add i 2) (X_plot hC (fun m w m1 m2 hw ea eb I' J' g1 g2 => ?_) (fun hg I' J' g1 g2 => ?_))))))))))
  · have hN := hM.f74 g2
    exact And.intro rfl (Exists.intro (i + 1) (And.intro (by omega) (And.intro (nI_add i 1) (And.intro rfl (Exists.intro (i + 2) (And.intro (by omega) (And.intro (nI_add i 2) (M_plot1 hN m1 m2 hw ea eb (lq nx (hV) g1)))))))))
  · have hN := hM.f74 g2
    exact And.intro rfl (Exists.intro (i + 1) (And.intro (by omega) (And.intro (nI_add i 1) (And.intro rfl (Exists.intro (i + 2) (And.intro (by omega) (And.intro (nI_add i 2) (M_plot2 hN hg (lq nx (hV.fnd) g1)))))))))
theorem st_spots {F : FT} {Q : QT} {LS i : Nat} {xs : Nat → Int32} {S : SG} {I : II} {J : JJ} (b : al_Ok F (k_L_law_719 F Q 90 LS xs) 719) (hi : i + 6 ≤ LS) (hV : VS S) (hC : CI S I J) (hM : MI S I J) (nx : NX F i) : F 719 [some (.ref 1000), some (.ref 0), some (.ref 74), some (.int (nI i))] [] 90 al_R0 I J := by
  refine b _ _ _ _ _ _ (And.intro rfl (Exists.intro (i + 1) (And.intro (by omega) (And.intro (nI_add i 1) (X_spots hC hV (fun w hw ea I' J' g1 g2 => ?_) (fun hg hn I' J' g1 g2 => ?_) (fun ea I' J' g1 g2 => ?_) (fun w hw ea hn I' J' g1 g2 => ?_))))))
  · have hN := hM.f74 g2
    exact And.intro rfl (Exists.intro (i + 1) (And.intro (by omega) (And.intro (nI_add i 1) (M_spots1 hN hV hw ea (lq nx (hV) g1)))))
  · have hN := hM.f74 g2
    exact And.intro rfl (Exists.intro (i + 1) (And.intro (by omega) (And.intro (nI_add i 1) (M_spots2 hN hg hn (lq nx (hV.fnd) g1)))))
  · have hN := hM.f74 g2
    exact And.intro rfl (Exists.intro (i + 1) (And.intro (by omega) (And.intro (nI_add i 1) (M_spots3 hN hV ea (lq nx (hV) g1)))))
  · have hN := hM.f74 g2
    exact And.intro rfl (Exists.intro (i + 1) (And.intro (by omega) (And.intro (nI_add i 1) (M_spots4 hN hV hw ea hn (lq nx (hV.fnd) g1)))))
theorem st_yields {F : FT} {Q : QT} {LS i : Nat} {xs : Nat → Int32} {S : SG} {I : II} {J : JJ} (b : al_Ok F (k_L_law_742 F Q 90 LS xs) 742) (hi : i + 6 ≤ LS) (hV : VS S) (hC : CI S I J) (hM : MI S I J) (nx : NX F i) : F 742 [some (.ref 1000), some (.ref 0), some (.ref 74), some (.int (nI i))] [] 90 al_R0 I J := by
  refine b _ _ _ _ _ _ (X_yields hC hV (fun I' J' g1 g2 => ?_))
  · have hN := hM.f74 g2
    exact M_yields hN hV (lq nx (hV) g1)
theorem st_rateFor {F : FT} {Q : QT} {LS i : Nat} {xs : Nat → Int32} {S : SG} {I : II} {J : JJ} (b : al_Ok F (k_L_law_755 F Q 90 LS xs) 755) (hi : i + 6 ≤ LS) (hV : VS S) (hC : CI S I J) (hM : MI S I J) (nx : NX F i) : F 755 [some (.ref 1000), some (.ref 0), some (.ref 74), some (.int (nI i))] [] 90 al_R0 I J := by
  refine b _ _ _ _ _ _ (And.intro rfl (Exists.intro (i + 1) (And.intro (by omega) (And.intro (nI_add i 1) (X_rateFor hC hV (fun hna hl I' J' g1 g2 => ?_) (fun hg I' J' g1 g2 => ?_) (fun hna hl I' J' g1 g2 => ?_))))))
  · have hN := hM.f74 g2
    exact And.intro rfl (Exists.intro (i + 1) (And.intro (by omega) (And.intro (nI_add i 1) (M_rateFor hN hV hna (fun _ => lq nx (hV) g1) (fun w => by omega)))))
  · have hN := hM.f74 g2
    exact And.intro rfl (Exists.intro (i + 1) (And.intro (by omega) (And.intro (nI_add i 1) (M_rateFor2 hN hg (lq nx (hV.fnd) g1)))))
  · have hN := hM.f74 g2
    exact And.intro rfl (Exists.intro (i + 1) (And.intro (by omega) (And.intro (nI_add i 1) (M_rateFor hN hV hna (fun w => by omega) (fun _ => lq nx (hV.fnd) g1)))))
theorem st_neighbours {F : FT} {Q : QT} {LS i : Nat} {xs : Nat → Int32} {S : SG} {I : II} {J : JJ} (b : al_Ok F (k_L_law_778 F Q 90 LS xs) 778) (hi : i + 6 ≤ LS) (hV : VS S) (hC : CI S I J) (hM : MI S I J) (nx : NX F i) : F 778 [some (.ref 1000), some (.ref 0), some (.ref 74), some (.int (nI i))] [] 90 al_R0 I J := by
  refine b _ _ _ _ _ _ (X_neighbours hC hV (fun hb I' J' g1 g2 => ?_) (fun hb I' J' g1 g2 => ?_))
  · have hN := hM.f74 g2
    exact M_neighbours hN hV (fun _ => lq nx (hV) g1) (fun w => absurd w hb)
  · have hN := hM.f74 g2
    exact M_neighbours hN hV (fun w => absurd hb w) (fun _ => lq nx (hV.fnd) g1)
theorem st_years {F : FT} {Q : QT} {LS i : Nat} {xs : Nat → Int32} {S : SG} {I : II} {J : JJ} (b : al_Ok F (k_L_law_791 F Q 90 LS xs) 791) (hi : i + 6 ≤ LS) (hV : VS S) (hC : CI S I J) (hM : MI S I J) (nx : NX F i) : F 791 [some (.ref 1000), some (.ref 0), some (.ref 74), some (.int (nI i))] [] 90 al_R0 I J := by
  refine b _ _ _ _ _ _ (And.intro rfl (Exists.intro (i + 1) (And.intro (by omega) (And.intro (nI_add i 1) (X_years hC hV (fun y y1 y2 ea I' J' g1 g2 => ?_) (fun hg I' J' g1 g2 => ?_))))))
  · have hN := hM.f74 g2
    exact And.intro rfl (Exists.intro (i + 1) (And.intro (by omega) (And.intro (nI_add i 1) (M_years1 hN hV y1 y2 ea (lq nx (hV.sT (yrs_ok hV.1 y).1) g1)))))
  · have hN := hM.f74 g2
    exact And.intro rfl (Exists.intro (i + 1) (And.intro (by omega) (And.intro (nI_add i 1) (M_years2 hN hg (lq nx (hV.fnd) g1)))))
theorem st_feed {F : FT} {Q : QT} {LS i : Nat} {xs : Nat → Int32} {S : SG} {I : II} {J : JJ} (b : al_Ok F (k_L_law_814 F Q 90 LS xs) 814) (hi : i + 6 ≤ LS) (hV : VS S) (hC : CI S I J) (hM : MI S I J) (nx : NX F i) : F 814 [some (.ref 1000), some (.ref 0), some (.ref 74), some (.int (nI i))] [] 90 al_R0 I J := by
  refine b _ _ _ _ _ _ (And.intro rfl (Exists.intro (i + 1) (And.intro (by omega) (And.intro (nI_add i 1) (And.intro rfl (Exists.intro (i + 2) (And.intro (by omega) (And.intro (nI_add i 2) (X_feed hC hV (fun n n1 n2 eb hl I' J' g1 g2 => ?_) (fun hg I' J' g1 g2 => ?_) (fun n n1 n2 eb hl I' J' g1 g2 => ?_))))))))))
  · have hN := hM.f74 g2
    exact And.intro rfl (Exists.intro (i + 1) (And.intro (by omega) (And.intro (nI_add i 1) (And.intro rfl (Exists.intro (i + 2) (And.intro (by omega) (And.intro (nI_add i 2) (M_feedE hN hV n1 n2 eb (fun _ => lq nx (hV.sP (by rw [fdl_n]; exact hl) (TO_fdl hV.2.2.1.2)) g1) (fun w => by omega)))))))))
  · have hN := hM.f74 g2
    exact And.intro rfl (Exists.intro (i + 1) (And.intro (by omega) (And.intro (nI_add i 1) (And.intro rfl (Exists.intro (i + 2) (And.intro (by omega) (And.intro (nI_add i 2) (M_feed2 hN hg (lq nx (hV.fnd) g1)))))))))
  · have hN := hM.f74 g2
    exact And.intro rfl (Exists.intro (i + 1) (And.intro (by omega) (And.intro (nI_add i 1) (And.intro rfl (Exists.intro (i + 2) (And.intro (by omega) (And.intro (nI_add i 2) (M_feedE hN hV n1 n2 eb (fun w => by omega) (fun _ => lq nx (hV.fnd) g1)))))))))
theorem st_wipe {F : FT} {Q : QT} {LS i : Nat} {xs : Nat → Int32} {S : SG} {I : II} {J : JJ} (b : al_Ok F (k_L_law_847 F Q 90 LS xs) 847) (hi : i + 6 ≤ LS) (hV : VS S) (hC : CI S I J) (hM : MI S I J) (nx : NX F i) : F 847 [some (.ref 1000), some (.ref 0), some (.ref 74), some (.int (nI i))] [] 90 al_R0 I J := by
  refine b _ _ _ _ _ _ (X_wipe hC (fun I' J' g1 g2 => ?_))
  · have hN := hM.f74 g2
    exact M_wipe hN (lq nx (hV.sP (Nat.zero_le _) (fun j hj => absurd hj (Nat.not_lt_zero j))) g1)
theorem st_town {F : FT} {Q : QT} {LS i : Nat} {xs : Nat → Int32} {S : SG} {I : II} {J : JJ} (b : al_Ok F (k_L_law_860 F Q 90 LS xs) 860) (hi : i + 6 ≤ LS) (hV : VS S) (hC : CI S I J) (hM : MI S I J) (nx : NX F i) : F 860 [some (.ref 1000), some (.ref 0), some (.ref 74), some (.int (nI i))] [] 90 al_R0 I J := by
  refine b _ _ _ _ _ _ (X_town hC hV (fun ht hvt I' J' g1 g2 => ?_) (fun ht I' J' g1 g2 => ?_))
  · have hN := hM.f74 g2
    exact M_town hN hV (fun _ => lq nx ((hV.sT hvt).sP (Nat.zero_le _) (fun j hj => absurd hj (Nat.not_lt_zero j))) g1) (fun w => absurd (ht.symm.trans w) (by decide))
  · have hN := hM.f74 g2
    exact M_town hN hV (fun w => absurd (ht.symm.trans w) (by decide)) (fun _ => lq nx (hV.sP (Nat.zero_le _) (fun j hj => absurd hj (Nat.not_lt_zero j))) g1)
theorem st_sheet {F : FT} {Q : QT} {LS i : Nat} {xs : Nat → Int32} {S : SG} {I : II} {J : JJ} (b : al_Ok F (k_L_law_873 F Q 90 LS xs) 873) (hi : i + 6 ≤ LS) (hV : VS S) (hC : CI S I J) (hM : MI S I J) (nx : NX F i) : F 873 [some (.ref 1000), some (.ref 0), some (.ref 74), some (.int (nI i))] [] 90 al_R0 I J := by
  refine b _ _ _ _ _ _ (And.intro rfl (Exists.intro (i + 1) (And.intro (by omega) (And.intro (nI_add i 1) (And.intro rfl (Exists.intro (i + 2) (And.intro (by omega) (And.intro (nI_add i 2) (And.intro rfl (Exists.intro (i + 3) (And.intro (by omega) (And.intro (nI_add i 3) (X_sheet hC (fun s n hs hn ea hb ed I' J' g1 g2 => ?_) (fun hg I' J' g1 g2 => ?_) (fun s hs ea hb hd I' J' g1 g2 => ?_) (fun s hs ea hb hd I' J' g1 g2 => ?_))))))))))))))
  · have hN := hM.f74 g2
    exact And.intro rfl (Exists.intro (i + 1) (And.intro (by omega) (And.intro (nI_add i 1) (And.intro rfl (Exists.intro (i + 2) (And.intro (by omega) (And.intro (nI_add i 2) (And.intro rfl (Exists.intro (i + 3) (And.intro (by omega) (And.intro (nI_add i 3) (M_sheet1 hN hs hn ea hb ed (lq nx (hV.sB (hV.2.2.2.shn hb hn)) g1)))))))))))))
  · have hN := hM.f74 g2
    exact And.intro rfl (Exists.intro (i + 1) (And.intro (by omega) (And.intro (nI_add i 1) (And.intro rfl (Exists.intro (i + 2) (And.intro (by omega) (And.intro (nI_add i 2) (And.intro rfl (Exists.intro (i + 3) (And.intro (by omega) (And.intro (nI_add i 3) (M_sheet2 hN hg (lq nx (hV.fnd) g1)))))))))))))
  · have hN := hM.f74 g2
    exact And.intro rfl (Exists.intro (i + 1) (And.intro (by omega) (And.intro (nI_add i 1) (And.intro rfl (Exists.intro (i + 2) (And.intro (by omega) (And.intro (nI_add i 2) (And.intro rfl (Exists.intro (i + 3) (And.intro (by omega) (And.intro (nI_add i 3) (M_sheet3 hN hs ea hb hd (lq nx (hV.fnd) g1)))))))))))))
  · have hN := hM.f74 g2
    exact And.intro rfl (Exists.intro (i + 1) (And.intro (by omega) (And.intro (nI_add i 1) (And.intro rfl (Exists.intro (i + 2) (And.intro (by omega) (And.intro (nI_add i 2) (And.intro rfl (Exists.intro (i + 3) (And.intro (by omega) (And.intro (nI_add i 3) (M_sheet4 hN hs ea hb hd (lq nx (hV.fnd) g1)))))))))))))
theorem st_write {F : FT} {Q : QT} {LS i : Nat} {xs : Nat → Int32} {S : SG} {I : II} {J : JJ} (b : al_Ok F (k_L_law_916 F Q 90 LS xs) 916) (hi : i + 6 ≤ LS) (hV : VS S) (hC : CI S I J) (hM : MI S I J) (nx : NX F i) : F 916 [some (.ref 1000), some (.ref 0), some (.ref 74), some (.int (nI i))] [] 90 al_R0 I J := by
  refine b _ _ _ _ _ _ (And.intro rfl (Exists.intro (i + 1) (And.intro (by omega) (And.intro (nI_add i 1) (And.intro rfl (Exists.intro (i + 2) (And.intro (by omega) (And.intro (nI_add i 2) (And.intro rfl (Exists.intro (i + 3) (And.intro (by omega) (And.intro (nI_add i 3) (And.intro rfl (Exists.intro (i + 4) (And.intro (by omega) (And.intro (nI_add i 4) (X_write hC hV (fun s i2 hs hi2 ea eb hw I' J' g1 g2 => ?_) (fun hg I' J' g1 g2 => ?_) (fun s hs ea hw I' J' g1 g2 => ?_))))))))))))))))))
  · have hN := hM.f74 g2
    exact And.intro rfl (Exists.intro (i + 1) (And.intro (by omega) (And.intro (nI_add i 1) (And.intro rfl (Exists.intro (i + 2) (And.intro (by omega) (And.intro (nI_add i 2) (And.intro rfl (Exists.intro (i + 3) (And.intro (by omega) (And.intro (nI_add i 3) (And.intro rfl (Exists.intro (i + 4) (And.intro (by omega) (And.intro (nI_add i 4) (M_write1 hN hV hs hi2 ea eb hw (lqL nx (hV.sB hV.2.2.2) g1)))))))))))))))))
  · have hN := hM.f74 g2
    exact And.intro rfl (Exists.intro (i + 1) (And.intro (by omega) (And.intro (nI_add i 1) (And.intro rfl (Exists.intro (i + 2) (And.intro (by omega) (And.intro (nI_add i 2) (And.intro rfl (Exists.intro (i + 3) (And.intro (by omega) (And.intro (nI_add i 3) (And.intro rfl (Exists.intro (i + 4) (And.intro (by omega) (And.intro (nI_add i 4) (M_write2 hN hV hg (lqL nx (hV.fnd) g1)))))))))))))))))
  · have hN := hM.f74 g2
    exact And.intro rfl (Exists.intro (i + 1) (And.intro (by omega) (And.intro (nI_add i 1) (And.intro rfl (Exists.intro (i + 2) (And.intro (by omega) (And.intro (nI_add i 2) (And.intro rfl (Exists.intro (i + 3) (And.intro (by omega) (And.intro (nI_add i 3) (And.intro rfl (Exists.intro (i + 4) (And.intro (by omega) (And.intro (nI_add i 4) (M_write3 hN hs ea hw (lqL nx (hV.fnd) g1)))))))))))))))))
theorem st_copy {F : FT} {Q : QT} {LS i : Nat} {xs : Nat → Int32} {S : SG} {I : II} {J : JJ} (b : al_Ok F (k_L_law_990 F Q 90 LS xs) 990) (hi : i + 6 ≤ LS) (hV : VS S) (hC : CI S I J) (hM : MI S I J) (nx : NX F i) : F 990 [some (.ref 1000), some (.ref 0), some (.ref 74), some (.int (nI i))] [] 90 al_R0 I J := by
  refine b _ _ _ _ _ _ (And.intro rfl (Exists.intro (i + 1) (And.intro (by omega) (And.intro (nI_add i 1) (And.intro rfl (Exists.intro (i + 2) (And.intro (by omega) (And.intro (nI_add i 2) (And.intro rfl (Exists.intro (i + 3) (And.intro (by omega) (And.intro (nI_add i 3) (And.intro rfl (Exists.intro (i + 4) (And.intro (by omega) (And.intro (nI_add i 4) (And.intro rfl (Exists.intro (i + 5) (And.intro (by omega) (And.intro (nI_add i 5) (X_copy hC hV (fun s t f' g' n' hs ht ea eb w1 w2 w3 ef eg en l1 l2 I' J' g1 g2 => ?_) (fun hg I' J' g1 g2 => ?_) (fun s t hs ht ea eb w I' J' g1 g2 => ?_) (fun s t hs ht ea eb w1 w2 w3 I' J' g1 g2 => ?_) (fun s t hs ht ea eb w1 w2 w3 w4 I' J' g1 g2 => ?_))))))))))))))))))))))
  · have hN := hM.f74 g2
    exact And.intro rfl (Exists.intro (i + 1) (And.intro (by omega) (And.intro (nI_add i 1) (And.intro rfl (Exists.intro (i + 2) (And.intro (by omega) (And.intro (nI_add i 2) (And.intro rfl (Exists.intro (i + 3) (And.intro (by omega) (And.intro (nI_add i 3) (And.intro rfl (Exists.intro (i + 4) (And.intro (by omega) (And.intro (nI_add i 4) (And.intro rfl (Exists.intro (i + 5) (And.intro (by omega) (And.intro (nI_add i 5) (M_copy1E hN hV hs ht ea eb w1 w2 w3 ef eg en l1 l2 (lq nx (hV.sB hV.2.2.2) g1)))))))))))))))))))))
  · have hN := hM.f74 g2
    exact And.intro rfl (Exists.intro (i + 1) (And.intro (by omega) (And.intro (nI_add i 1) (And.intro rfl (Exists.intro (i + 2) (And.intro (by omega) (And.intro (nI_add i 2) (And.intro rfl (Exists.intro (i + 3) (And.intro (by omega) (And.intro (nI_add i 3) (And.intro rfl (Exists.intro (i + 4) (And.intro (by omega) (And.intro (nI_add i 4) (And.intro rfl (Exists.intro (i + 5) (And.intro (by omega) (And.intro (nI_add i 5) (M_copy2 hN hg (lq nx (hV.fnd) g1)))))))))))))))))))))
  · have hN := hM.f74 g2
    exact And.intro rfl (Exists.intro (i + 1) (And.intro (by omega) (And.intro (nI_add i 1) (And.intro rfl (Exists.intro (i + 2) (And.intro (by omega) (And.intro (nI_add i 2) (And.intro rfl (Exists.intro (i + 3) (And.intro (by omega) (And.intro (nI_add i 3) (And.intro rfl (Exists.intro (i + 4) (And.intro (by omega) (And.intro (nI_add i 4) (And.intro rfl (Exists.intro (i + 5) (And.intro (by omega) (And.intro (nI_add i 5) (M_copy3E hN hV hs ht ea eb w (lq nx (hV.fnd) g1)))))))))))))))))))))
  · have hN := hM.f74 g2
    exact And.intro rfl (Exists.intro (i + 1) (And.intro (by omega) (And.intro (nI_add i 1) (And.intro rfl (Exists.intro (i + 2) (And.intro (by omega) (And.intro (nI_add i 2) (And.intro rfl (Exists.intro (i + 3) (And.intro (by omega) (And.intro (nI_add i 3) (And.intro rfl (Exists.intro (i + 4) (And.intro (by omega) (And.intro (nI_add i 4) (And.intro rfl (Exists.intro (i + 5) (And.intro (by omega) (And.intro (nI_add i 5) (M_copy4E hN hV hs ht ea eb w1 w2 w3 (lq nx (hV.fnd) g1)))))))))))))))))))))
  · have hN := hM.f74 g2
    exact And.intro rfl (Exists.intro (i + 1) (And.intro (by omega) (And.intro (nI_add i 1) (And.intro rfl (Exists.intro (i + 2) (And.intro (by omega) (And.intro (nI_add i 2) (And.intro rfl (Exists.intro (i + 3) (And.intro (by omega) (And.intro (nI_add i 3) (And.intro rfl (Exists.intro (i + 4) (And.intro (by omega) (And.intro (nI_add i 4) (And.intro rfl (Exists.intro (i + 5) (And.intro (by omega) (And.intro (nI_add i 5) (M_copy5E hN hV hs ht ea eb w1 w2 w3 w4 (lq nx (hV.fnd) g1)))))))))))))))))))))
theorem st_lays {F : FT} {Q : QT} {LS i : Nat} {xs : Nat → Int32} {S : SG} {I : II} {J : JJ} (b : al_Ok F (k_L_law_1053 F Q 90 LS xs) 1053) (hi : i + 6 ≤ LS) (hV : VS S) (hC : CI S I J) (hM : MI S I J) (nx : NX F i) : F 1053 [some (.ref 1000), some (.ref 0), some (.ref 74), some (.int (nI i))] [] 90 al_R0 I J := by
  refine b _ _ _ _ _ _ (And.intro rfl (Exists.intro (i + 1) (And.intro (by omega) (And.intro (nI_add i 1) (And.intro rfl (Exists.intro (i + 2) (And.intro (by omega) (And.intro (nI_add i 2) (X_lays hC hV (fun s q hs hq ea eb hw I' J' g1 g2 => ?_) (fun hg I' J' g1 g2 => ?_) (fun s hs ea hw I' J' g1 g2 => ?_))))))))))
  · have hN := hM.f74 g2
    exact And.intro rfl (Exists.intro (i + 1) (And.intro (by omega) (And.intro (nI_add i 1) (And.intro rfl (Exists.intro (i + 2) (And.intro (by omega) (And.intro (nI_add i 2) (M_lays1 hN hV hs hq ea eb hw (lq nx (hV.sT (VT_lyo hV.1 _ _ _)) g1)))))))))
  · have hN := hM.f74 g2
    exact And.intro rfl (Exists.intro (i + 1) (And.intro (by omega) (And.intro (nI_add i 1) (And.intro rfl (Exists.intro (i + 2) (And.intro (by omega) (And.intro (nI_add i 2) (M_lays2 hN hg (lq nx (hV.fnd) g1)))))))))
  · have hN := hM.f74 g2
    exact And.intro rfl (Exists.intro (i + 1) (And.intro (by omega) (And.intro (nI_add i 1) (And.intro rfl (Exists.intro (i + 2) (And.intro (by omega) (And.intro (nI_add i 2) (M_lays3 hN hs ea hw (lq nx (hV.fnd) g1)))))))))
theorem st_read {F : FT} {Q : QT} {LS i : Nat} {xs : Nat → Int32} {S : SG} {I : II} {J : JJ} (b : al_Ok F (k_L_law_1086 F Q 90 LS xs) 1086) (hi : i + 6 ≤ LS) (hV : VS S) (hC : CI S I J) (hM : MI S I J) (nx : NX F i) : F 1086 [some (.ref 1000), some (.ref 0), some (.ref 74), some (.int (nI i))] [] 90 al_R0 I J := by
  refine b _ _ _ _ _ _ (And.intro rfl (Exists.intro (i + 1) (And.intro (by omega) (And.intro (nI_add i 1) (And.intro rfl (Exists.intro (i + 2) (And.intro (by omega) (And.intro (nI_add i 2) (X_read hC hV (fun s h hs hh ea eb hw I' J' g1 g2 => ?_) (fun hg I' J' g1 g2 => ?_) (fun s hs ea hw I' J' g1 g2 => ?_))))))))))
  · have hN := hM.f74 g2
    exact And.intro rfl (Exists.intro (i + 1) (And.intro (by omega) (And.intro (nI_add i 1) (And.intro rfl (Exists.intro (i + 2) (And.intro (by omega) (And.intro (nI_add i 2) (M_read1 hN hV hs hh ea eb hw (lq nx (hV) g1)))))))))
  · have hN := hM.f74 g2
    exact And.intro rfl (Exists.intro (i + 1) (And.intro (by omega) (And.intro (nI_add i 1) (And.intro rfl (Exists.intro (i + 2) (And.intro (by omega) (And.intro (nI_add i 2) (M_read2 hN hV hg (lq nx (hV.fnd) g1)))))))))
  · have hN := hM.f74 g2
    exact And.intro rfl (Exists.intro (i + 1) (And.intro (by omega) (And.intro (nI_add i 1) (And.intro rfl (Exists.intro (i + 2) (And.intro (by omega) (And.intro (nI_add i 2) (M_read3 hN hs ea hw (lq nx (hV.fnd) g1)))))))))
theorem st_image {F : FT} {Q : QT} {LS i : Nat} {xs : Nat → Int32} {S : SG} {I : II} {J : JJ} (b : al_Ok F (k_L_law_1119 F Q 90 LS xs) 1119) (hi : i + 6 ≤ LS) (hV : VS S) (hC : CI S I J) (hM : MI S I J) (nx : NX F i) : F 1119 [some (.ref 1000), some (.ref 0), some (.ref 74), some (.int (nI i))] [] 90 al_R0 I J := by
  refine b _ _ _ _ _ _ (X_image hC (fun I' J' g1 g2 => ?_))
  · have hN := hM.f74 g2
    exact M_image hN (lq nx (⟨hV.1, fun _ => hV.1, hV.2.2⟩) g1)
theorem st_undo {F : FT} {Q : QT} {LS i : Nat} {xs : Nat → Int32} {S : SG} {I : II} {J : JJ} (b : al_Ok F (k_L_law_1132 F Q 90 LS xs) 1132) (hi : i + 6 ≤ LS) (hV : VS S) (hC : CI S I J) (hM : MI S I J) (nx : NX F i) : F 1132 [some (.ref 1000), some (.ref 0), some (.ref 74), some (.int (nI i))] [] 90 al_R0 I J := by
  refine b _ _ _ _ _ _ (X_undo hC (fun hb I' J' g1 g2 => ?_) (fun hb I' J' g1 g2 => ?_))
  · have hN := hM.f74 g2
    exact M_undo1 hN hb (lq nx (hV.sT (hV.2.1 hb)) g1)
  · have hN := hM.f74 g2
    exact M_undo2 hN hb (lq nx (hV.fnd) g1)
theorem st_tear {F : FT} {Q : QT} {LS i : Nat} {xs : Nat → Int32} {S : SG} {I : II} {J : JJ} (b : al_Ok F (k_L_law_1145 F Q 90 LS xs) 1145) (hi : i + 6 ≤ LS) (hV : VS S) (hC : CI S I J) (hM : MI S I J) (nx : NX F i) : F 1145 [some (.ref 1000), some (.ref 0), some (.ref 74), some (.int (nI i))] [] 90 al_R0 I J := by
  refine b _ _ _ _ _ _ (X_tear hC (fun I' J' g1 g2 => ?_))
  · have hN := hM.f74 g2
    exact M_tear hN (lq nx (⟨hV.1, fun q => absurd (show false = true from q) (by decide), hV.2.2⟩) g1)
theorem st_count {F : FT} {Q : QT} {LS i : Nat} {xs : Nat → Int32} {S : SG} {I : II} {J : JJ} (b : al_Ok F (k_L_law_1158 F Q 90 LS xs) 1158) (hi : i + 6 ≤ LS) (hV : VS S) (hC : CI S I J) (hM : MI S I J) (nx : NX F i) : F 1158 [some (.ref 1000), some (.ref 0), some (.ref 74), some (.int (nI i))] [] 90 al_R0 I J := by
  refine b _ _ _ _ _ _ (And.intro rfl (Exists.intro (i + 1) (And.intro (by omega) (And.intro (nI_add i 1) (X_count hC hV (fun w hw ea I' J' g1 g2 => ?_) (fun hg I' J' g1 g2 => ?_))))))
  · have hN := hM.f74 g2
    exact And.intro rfl (Exists.intro (i + 1) (And.intro (by omega) (And.intro (nI_add i 1) (M_count1 hN hV hw ea (lq nx (hV) g1)))))
  · have hN := hM.f74 g2
    exact And.intro rfl (Exists.intro (i + 1) (And.intro (by omega) (And.intro (nI_add i 1) (M_count2 hN hg (lq nx (hV.fnd) g1)))))
theorem st_status {F : FT} {Q : QT} {LS i : Nat} {xs : Nat → Int32} {S : SG} {I : II} {J : JJ} (b : al_Ok F (k_L_law_1181 F Q 90 LS xs) 1181) (hi : i + 6 ≤ LS) (hV : VS S) (hC : CI S I J) (hM : MI S I J) (nx : NX F i) : F 1181 [some (.ref 1000), some (.ref 0), some (.ref 74), some (.int (nI i))] [] 90 al_R0 I J := by
  refine b _ _ _ _ _ _ (And.intro rfl (Exists.intro (i + 1) (And.intro (by omega) (And.intro (nI_add i 1) (X_status hC (fun w hw ea I' J' g1 g2 => ?_) (fun ea I' J' g1 g2 => ?_) (fun hg hn I' J' g1 g2 => ?_))))))
  · have hN := hM.f74 g2
    exact And.intro rfl (Exists.intro (i + 1) (And.intro (by omega) (And.intro (nI_add i 1) (M_status1 hN hw ea (lq nx (hV) g1)))))
  · have hN := hM.f74 g2
    exact And.intro rfl (Exists.intro (i + 1) (And.intro (by omega) (And.intro (nI_add i 1) (M_status2 hN ea (lq nx (hV) g1)))))
  · have hN := hM.f74 g2
    exact And.intro rfl (Exists.intro (i + 1) (And.intro (by omega) (And.intro (nI_add i 1) (M_status3 hN hg hn (lq nx (hV.fnd) g1)))))
set_option maxHeartbeats 4000000 in
theorem law_A {F : FT} {Q : QT} {LS : Nat} {xs : Nat → Int32} (hLS : LS ≤ 384) (b0 : al_Ok F (k_L_law_0 F Q 90 LS xs) 0) (b18 : al_Ok F (k_L_law_18 F Q 90 LS xs) 18) (b188 : al_Ok F (k_L_law_188 F Q 90 LS xs) 188) (b221 : al_Ok F (k_L_law_221 F Q 90 LS xs) 221) (b244 : al_Ok F (k_L_law_244 F Q 90 LS xs) 244) (b277 : al_Ok F (k_L_law_277 F Q 90 LS xs) 277) (b310 : al_Ok F (k_L_law_310 F Q 90 LS xs) 310) (b353 : al_Ok F (k_L_law_353 F Q 90 LS xs) 353) (b386 : al_Ok F (k_L_law_386 F Q 90 LS xs) 386) (b419 : al_Ok F (k_L_law_419 F Q 90 LS xs) 419) (b452 : al_Ok F (k_L_law_452 F Q 90 LS xs) 452) (b485 : al_Ok F (k_L_law_485 F Q 90 LS xs) 485) (b518 : al_Ok F (k_L_law_518 F Q 90 LS xs) 518) (b541 : al_Ok F (k_L_law_541 F Q 90 LS xs) 541) (b574 : al_Ok F (k_L_law_574 F Q 90 LS xs) 574) (b597 : al_Ok F (k_L_law_597 F Q 90 LS xs) 597) (b630 : al_Ok F (k_L_law_630 F Q 90 LS xs) 630) (b663 : al_Ok F (k_L_law_663 F Q 90 LS xs) 663) (b686 : al_Ok F (k_L_law_686 F Q 90 LS xs) 686) (b719 : al_Ok F (k_L_law_719 F Q 90 LS xs) 719) (b742 : al_Ok F (k_L_law_742 F Q 90 LS xs) 742) (b755 : al_Ok F (k_L_law_755 F Q 90 LS xs) 755) (b778 : al_Ok F (k_L_law_778 F Q 90 LS xs) 778) (b791 : al_Ok F (k_L_law_791 F Q 90 LS xs) 791) (b814 : al_Ok F (k_L_law_814 F Q 90 LS xs) 814) (b847 : al_Ok F (k_L_law_847 F Q 90 LS xs) 847) (b860 : al_Ok F (k_L_law_860 F Q 90 LS xs) 860) (b873 : al_Ok F (k_L_law_873 F Q 90 LS xs) 873) (b916 : al_Ok F (k_L_law_916 F Q 90 LS xs) 916) (b990 : al_Ok F (k_L_law_990 F Q 90 LS xs) 990) (b1053 : al_Ok F (k_L_law_1053 F Q 90 LS xs) 1053) (b1086 : al_Ok F (k_L_law_1086 F Q 90 LS xs) 1086) (b1119 : al_Ok F (k_L_law_1119 F Q 90 LS xs) 1119) (b1132 : al_Ok F (k_L_law_1132 F Q 90 LS xs) 1132) (b1145 : al_Ok F (k_L_law_1145 F Q 90 LS xs) 1145) (b1158 : al_Ok F (k_L_law_1158 F Q 90 LS xs) 1158) (b1181 : al_Ok F (k_L_law_1181 F Q 90 LS xs) 1181) (b1204 : al_Ok F (k_L_law_1204 F Q 90 LS xs) 1204) (b1210 : al_Ok F (k_L_law_1210 F Q 90 LS xs) 1210) (kq : ∀ (I : II) (J : JJ), Q (some (.int (nI 1))) 90 al_R0 I J) : F 0 [some (.ref 1000), none, none, none] [] 0 RN ZI ZJ := by
  have loop : ∀ (d i : Nat) (S : SG) (I : II) (J : JJ), LS ≤ i + d → i ≤ 400 → VS S → CI S I J → MI S I J → F 18 [some (.ref 1000), some (.ref 0), some (.ref 74), some (.int (nI i))] [] 90 al_R0 I J := by
    intro d
    induction d with
    | zero =>
      intro i S I J hd hi4 hV hC hM
      refine b18 _ _ _ _ _ _ (And.intro rfl (br_t ?_ (b1210 _ _ _ _ _ _ (kq I J))))
      rw [Int32.lt_iff_toInt_lt, i_sub (by omega) (by omega), nT (by omega)]
      omega
    | succ d ih =>
      intro i S I J hd hi4 hV hC hM
      refine b18 _ _ _ _ _ _ (And.intro rfl (And.intro (fun _ => b1210 _ _ _ _ _ _ (kq I J)) (fun c => And.intro rfl (Exists.intro i (And.intro ?_ (And.intro rfl ?_))))))
      · rw [Int32.lt_iff_toInt_lt, i_sub (by omega) (by omega), nT (by omega)] at c
        omega
      · rw [Int32.lt_iff_toInt_lt, i_sub (by omega) (by omega), nT (by omega)] at c
        have nx : NX F i := fun S2 I2 J2 v1 v2 v3 => by
          have h9 := ih (i + 6) S2 I2 J2 (by omega) (by omega) v1 v2 v3
          rw [← nI_add] at h9
          exact b1204 _ _ _ _ _ _ h9
        have h1204 := nx S I J hV hC hM
        exact And.intro (fun _ => st_square b188 (by omega) hV hC hM nx) (fun _ => And.intro (fun _ => st_at b221 (by omega) hV hC hM nx) (fun _ => And.intro (fun _ => st_house b244 (by omega) hV hC hM nx) (fun _ => And.intro (fun _ => st_of b277 (by omega) hV hC hM nx) (fun _ => And.intro (fun _ => st_set b310 (by omega) hV hC hM nx) (fun _ => And.intro (fun _ => st_turn b353 (by omega) hV hC hM nx) (fun _ => And.intro (fun _ => st_as b386 (by omega) hV hC hM nx) (fun _ => And.intro (fun _ => st_corner b419 (by omega) hV hC hM nx) (fun _ => And.intro (fun _ => st_ith b452 (by omega) hV hC hM nx) (fun _ => And.intro (fun _ => st_sees b485 (by omega) hV hC hM nx) (fun _ => And.intro (fun _ => st_seen b518 (by omega) hV hC hM nx) (fun _ => And.intro (fun _ => st_counts b541 (by omega) hV hC hM nx) (fun _ => And.intro (fun _ => st_whose b574 (by omega) hV hC hM nx) (fun _ => And.intro (fun _ => st_round b597 (by omega) hV hC hM nx) (fun _ => And.intro (fun _ => st_pays b630 (by omega) hV hC hM nx) (fun _ => And.intro (fun _ => st_shed b663 (by omega) hV hC hM nx) (fun _ => And.intro (fun _ => st_plot b686 (by omega) hV hC hM nx) (fun _ => And.intro (fun _ => st_spots b719 (by omega) hV hC hM nx) (fun _ => And.intro (fun _ => st_yields b742 (by omega) hV hC hM nx) (fun _ => And.intro (fun _ => st_rateFor b755 (by omega) hV hC hM nx) (fun _ => And.intro (fun _ => st_neighbours b778 (by omega) hV hC hM nx) (fun _ => And.intro (fun _ => st_years b791 (by omega) hV hC hM nx) (fun _ => And.intro (fun _ => st_feed b814 (by omega) hV hC hM nx) (fun _ => And.intro (fun _ => st_wipe b847 (by omega) hV hC hM nx) (fun _ => And.intro (fun _ => st_town b860 (by omega) hV hC hM nx) (fun _ => And.intro (fun _ => st_sheet b873 (by omega) hV hC hM nx) (fun _ => And.intro (fun _ => st_write b916 (by omega) hV hC hM nx) (fun _ => And.intro (fun _ => st_copy b990 (by omega) hV hC hM nx) (fun _ => And.intro (fun _ => st_lays b1053 (by omega) hV hC hM nx) (fun _ => And.intro (fun _ => st_read b1086 (by omega) hV hC hM nx) (fun _ => And.intro (fun _ => st_image b1119 (by omega) hV hC hM nx) (fun _ => And.intro (fun _ => st_undo b1132 (by omega) hV hC hM nx) (fun _ => And.intro (fun _ => st_tear b1145 (by omega) hV hC hM nx) (fun _ => And.intro (fun _ => st_count b1158 (by omega) hV hC hM nx) (fun _ => And.intro (fun _ => st_status b1181 (by omega) hV hC hM nx) (fun _ => h1204)))))))))))))))))))))))))))))))))))
  refine b0 _ _ _ _ _ _ (And.intro (by decide) (And.intro ⟨rfl, fun _ => rfl, fun _ => rfl, fun _ => rfl⟩ (And.intro (by decide) (mk_11 (fun I' g1 g2 g3 g4 => ?_)))))
  have hz : FZ 74 Rf I' ZJ := z_f.I (fun q hq => g1 q (by omega) (by omega))
  refine And.intro (by decide) (And.intro ⟨rfl, hz 74 (Nat.le_refl _)⟩ (And.intro (by decide) (mk_12 (hz.le (by decide)) ?_)))
  rw [eqR]
  exact loop 384 0 S0 I' ZJ (by omega) (by omega) VS_0 (CI_0 g1 g2 g3) (MI_0 g1)
