/-! THE REFERENCE: its state; what its calls share -/
def MTn (b : Nat) (T : TW) (I : II) : Prop := sqr I b T.1 ∧ (∀ h, h < 6 → ∀ f, f < 5 → I b (64 + 5 * h + f) = T.2.2.1 h f) ∧ (∀ h, h < 6 → ∀ k, k < 8 → I b (94 + 8 * h + k) = T.2.2.2 h k) ∧ I b 142 = nI T.2.1
def mfd (c : Nat → Nat) (I : II) (J : JJ) : Prop := I 74 5 = nI 0 ∨ (I 74 5 = nI 1 ∧ ∀ p, p < 81 → ∀ q, q < 64 → gb (J 78 p) q = sen c p q)
def mkp (I : II) (b : Bool) (T : TW) : Prop := I 74 2 = nI b.toNat ∧ (b = true → MTn 76 T I)
def mtp (I : II) (t : Nat × (Nat → Int32)) : Prop := I 74 10 = nI t.1 ∧ ∀ j, j < t.1 → I 81 j = t.2 j
def msh (I : II) (J : JJ) (B : SH) : Prop := ∀ s, s < 4 → I 86 s = B.1 s ∧ I 87 s = B.2.1 s ∧ ∀ k, k < 40 → J 88 (40 * s + k) = B.2.2 s k
def mfn (I : II) (f : Nat → Int32) : Prop := (∀ k, k < 7 → I 77 (k + 1) = f k) ∧ I 77 0 = smI f 7
def MI (S : SG) (I : II) (J : JJ) : Prop := MTn 75 S.1 I ∧ mfd S.1.1 I J ∧ mkp I S.2.1 S.2.2.1 ∧ mtp I S.2.2.2.1 ∧ msh I J S.2.2.2.2.1 ∧ mfn I S.2.2.2.2.2
def k74 (I : II) (J : JJ) (I' : II) (J' : JJ) : Prop := ∀ p, p < 74 → I' p = I p ∧ J' p = J p
theorem k74.rf (I : II) (J : JJ) : k74 I J I J := fun _ _ => ⟨rfl, rfl⟩
theorem k74.tr {I I' I'' : II} {J J' J'' : JJ} (h1 : k74 I J I' J') (h2 : k74 I' J' I'' J'') : k74 I J I'' J'' := fun p a => ⟨((h2 p a).1).trans (h1 p a).1, ((h2 p a).2).trans (h1 p a).2⟩
def PM (I : II) (J : JJ) (Q : QT) (S : SG) (v : Value) : Prop := ∀ (I' : II) (J' : JJ), MI S I' J' → k74 I J I' J' → Q (some v) 90 al_R0 I' J'
theorem MTn.keep {b : Nat} {T : TW} {I I' : II} (h : MTn b T I) (hk : I' b = I b) : MTn b T I' := by
  unfold MTn sqr at h ⊢
  rw [hk]
  exact h
theorem mkp.keep {I I' : II} {b : Bool} {T : TW} (h : mkp I b T) (h1 : I' 74 2 = I 74 2) (h2 : I' 76 = I 76) : mkp I' b T := ⟨h1.trans h.1, fun q => (h.2 q).keep h2⟩
theorem mtp.keep {I I' : II} {t : Nat × (Nat → Int32)} (h : mtp I t) (h1 : I' 74 10 = I 74 10) (h2 : I' 81 = I 81) : mtp I' t := ⟨h1.trans h.1, fun j hj => by rw [h2]; exact h.2 j hj⟩
theorem msh.keep {I I' : II} {J J' : JJ} {B : SH} (h : msh I J B) (h1 : I' 86 = I 86) (h2 : I' 87 = I 87) (h3 : J' 88 = J 88) : msh I' J' B := by
  unfold msh at h ⊢
  rw [h1, h2, h3]
  exact h
theorem mfn.keep {I I' : II} {f : Nat → Int32} (h : mfn I f) (h1 : I' 77 = I 77) : mfn I' f := by
  unfold mfn at h ⊢
  rw [h1]
  exact h
theorem mfd.keep {c : Nat → Nat} {I I' : II} {J J' : JJ} (h : mfd c I J) (h1 : I' 74 5 = I 74 5) (h2 : J' 78 = J 78) : mfd c I' J' := by
  unfold mfd at h ⊢
  rw [h1, h2]
  exact h
theorem smI_cong {f g : Nat → Int32} : ∀ {n : Nat}, (∀ j, j < n → f j = g j) → smI f n = smI g n
  | 0, _ => rfl
  | n + 1, h => by rw [smI, smI, smI_cong (fun j hj => h j (by omega)), h n (by omega)]
theorem smI_ups {f : Nat → Int32} {k : Nat} {v : Int32} : ∀ {n : Nat}, k < n → smI (ups f k (f k + v)) n = smI f n + v
  | 0, h => absurd h (by omega)
  | n + 1, h => by
    rw [smI, smI]
    by_cases e : k = n
    · subst e
      rw [smI_cong (g := f) (fun j hj => ups_n (by omega)), ups_s, Int32.add_assoc]
    · rw [smI_ups (n := n) (by omega), ups_n (fun q => e q.symm), Int32.add_assoc, Int32.add_comm v, ← Int32.add_assoc]
theorem ma_finding {w : Int32} {k : Nat} {S : SG} {I : II} {J : JJ} {Q : QT} (hM : MI S I J) (hk : k < 7) (hw : (-1000000001 : Int32) - w = nI k) (kq : PM I J Q (fnd k S) (.int w)) : CT m_X12_finding 0 [.ref 74, .int w] 90 al_R0 I J Q := by
  refine r_X12_finding (by decide) (fun F wk b0 => ?_)
  refine b0 _ _ _ _ _ _ (Exists.intro (k + 1) (And.intro (by omega) (And.intro (by rw [hw, ← nI_s]) (Exists.intro (k + 1) (And.intro (by omega) (And.intro (by rw [hw, ← nI_s]) (Exists.intro 0 (And.intro (by omega) (And.intro rfl (Exists.intro 0 (And.intro (by omega) (And.intro rfl ?_))))))))))))
  obtain ⟨h1, h2, h3, h4, h5, h6⟩ := hM
  refine kq _ _ ⟨h1.keep ?_, h2.keep ?_ rfl, h3.keep ?_ ?_, h4.keep ?_ ?_, h5.keep ?_ ?_ rfl, ⟨fun j hj => ?_, ?_⟩⟩ (fun p hp => ⟨by rw [al_up_row (by omega), al_up_row (by omega)], rfl⟩)
  · rw [al_up_row (by decide), al_up_row (by decide)]
  · rw [al_up_p (by decide), al_up_p (by decide)]
  · rw [al_up_p (by decide), al_up_p (by decide)]
  · rw [al_up_row (by decide), al_up_row (by decide)]
  · rw [al_up_p (by decide), al_up_p (by decide)]
  · rw [al_up_row (by decide), al_up_row (by decide)]
  · rw [al_up_row (by decide), al_up_row (by decide)]
  · rw [al_up_row (by decide), al_up_row (by decide)]
  · show _ = ups S.2.2.2.2.2 k (S.2.2.2.2.2 k + nI 1) j
    rw [al_up_j (by omega)]
    by_cases e : j = k
    · subst e; rw [al_up_s, ups_s, h6.1 j hj]
    · rw [al_up_j (by omega), ups_n e]; exact h6.1 j hj
  · show _ = smI (ups S.2.2.2.2.2 k (S.2.2.2.2.2 k + nI 1)) 7
    rw [al_up_s, al_up_j (by omega), h6.2, smI_ups hk]
theorem mw_t {v lo hi : Int32} {R : RR} {I : II} {J : JJ} {Q : QT} (h1 : lo.toInt ≤ v.toInt) (h2 : v.toInt ≤ hi.toInt) (kq : Q (some (.int (nI 1))) 90 R I J) : CT m_X12_within 0 [.int v, .int lo, .int hi] 90 R I J Q := by
  refine r_X12_within (by decide) (fun F wk b0 b14 b15 => ?_)
  exact b0 _ _ _ _ _ _ (br_f (by rw [Int32.lt_iff_toInt_lt]; omega) (br_f (by rw [Int32.lt_iff_toInt_lt]; omega) (b15 _ _ _ _ _ _ (And.intro (Or.inr nI_1') kq))))
theorem mw_f {v lo hi : Int32} {R : RR} {I : II} {J : JJ} {Q : QT} (h : v.toInt < lo.toInt ∨ hi.toInt < v.toInt) (kq : Q (some (.int (nI 0))) 90 R I J) : CT m_X12_within 0 [.int v, .int lo, .int hi] 90 R I J Q := by
  refine r_X12_within (by decide) (fun F wk b0 b14 b15 => ?_)
  refine b0 _ _ _ _ _ _ (And.intro (fun c => b14 _ _ _ _ _ _ (b15 _ _ _ _ _ _ (And.intro (Or.inl nI_0) kq))) (fun c => ?_))
  rw [Int32.lt_iff_toInt_lt] at c
  exact br_t (by rw [Int32.lt_iff_toInt_lt]; omega) (b14 _ _ _ _ _ _ (b15 _ _ _ _ _ _ (And.intro (Or.inl nI_0) kq)))
theorem ing_of {N : Nat} {a : Int32} (h : ing N a) (hN : N < 2 ^ 31) : a.toInt < 0 ∨ (N : Int) ≤ a.toInt := by
  by_cases q : a.toInt < 0
  · exact Or.inl q
  · by_cases w : a.toInt < N
    · exact absurd (i_of (n := a.toInt.toNat) (by omega) (by omega)) (h a.toInt.toNat (by omega))
    · exact Or.inr (by omega)
theorem nT {n : Nat} (h : n < 2 ^ 31) : (nI n).toInt = (n : Int) := nI_toInt h
theorem ms_t {q : Nat} {R : RR} {I : II} {J : JJ} {Q : QT} (hq : q < 64) (kq : Q (some (.int (nI 1))) 90 R I J) : CT m_X12_isSquare 0 [.int (nI q)] 90 R I J Q := by
  refine r_X12_isSquare (by decide) (fun F wk b0 => b0 _ _ _ _ _ _ (mw_t (by rw [nT (by omega), nT (by omega)]; omega) (by rw [nT (by omega), nT (by omega)]; omega) (And.intro (Or.inr nI_1') kq)))
theorem ms_f {a : Int32} {R : RR} {I : II} {J : JJ} {Q : QT} (hq : ing 64 a) (kq : Q (some (.int (nI 0))) 90 R I J) : CT m_X12_isSquare 0 [.int a] 90 R I J Q := by
  have := ing_of hq (by decide)
  refine r_X12_isSquare (by decide) (fun F wk b0 => b0 _ _ _ _ _ _ (mw_f (by rw [nT (by omega), nT (by omega)]; omega) (And.intro (Or.inl nI_0) kq)))
theorem mp_t {q : Nat} {R : RR} {I : II} {J : JJ} {Q : QT} (hq : q < 81) (kq : Q (some (.int (nI 1))) 90 R I J) : CT m_X12_isPoint 0 [.int (nI q)] 90 R I J Q := by
  refine r_X12_isPoint (by decide) (fun F wk b0 => b0 _ _ _ _ _ _ (mw_t (by rw [nT (by omega), nT (by omega)]; omega) (by rw [nT (by omega), nT (by omega)]; omega) (And.intro (Or.inr nI_1') kq)))
theorem mp_f {a : Int32} {R : RR} {I : II} {J : JJ} {Q : QT} (hq : ing 81 a) (kq : Q (some (.int (nI 0))) 90 R I J) : CT m_X12_isPoint 0 [.int a] 90 R I J Q := by
  have := ing_of hq (by decide)
  refine r_X12_isPoint (by decide) (fun F wk b0 => b0 _ _ _ _ _ _ (mw_f (by rw [nT (by omega), nT (by omega)]; omega) (And.intro (Or.inl nI_0) kq)))
theorem mq_t {q : Nat} {R : RR} {I : II} {J : JJ} {Q : QT} (hq : q < 4) (kq : Q (some (.int (nI 1))) 90 R I J) : CT m_X12_isSheet 0 [.int (nI q)] 90 R I J Q := by
  refine r_X12_isSheet (by decide) (fun F wk b0 => b0 _ _ _ _ _ _ (mw_t (by rw [nT (by omega), nT (by omega)]; omega) (by rw [nT (by omega), nT (by omega)]; omega) (And.intro (Or.inr nI_1') kq)))
theorem mq_f {a : Int32} {R : RR} {I : II} {J : JJ} {Q : QT} (hq : ing 4 a) (kq : Q (some (.int (nI 0))) 90 R I J) : CT m_X12_isSheet 0 [.int a] 90 R I J Q := by
  have := ing_of hq (by decide)
  refine r_X12_isSheet (by decide) (fun F wk b0 => b0 _ _ _ _ _ _ (mw_f (by rw [nT (by omega), nT (by omega)]; omega) (And.intro (Or.inl nI_0) kq)))
theorem mh_t {q nh : Nat} {I : II} {J : JJ} {Q : QT} (hn : nh ≤ 6) (hI : I 75 142 = nI nh) (hq : q < nh) (kq : Q (some (.int (nI 1))) 90 al_R0 I J) : CT m_X12_isHouse 0 [.ref 74, .int (nI q)] 90 al_R0 I J Q := by
  refine r_X12_isHouse (by decide) (fun F wk b0 => b0 _ _ _ _ _ _ (Exists.intro 142 (And.intro (by decide) (And.intro rfl ?_))))
  dsimp only [o_iload, o_lload, o_aload, o_istore, o_astore, o_lstore, o_iinc, o_ic, o_lc, o_sc, o_iadd, o_isub, o_imul, o_iand, o_ior, o_ixor, o_ishl, o_ishr, o_ladd, o_lsub, o_land, o_lor, o_lxor, o_lshl, o_lshr, o_i2l, o_l2i, o_lcmp, o_dup, o_dup2, o_pop, o_getI, o_getJ, o_getR, o_putI, o_putZ, o_putJ, o_iald, o_zald, o_lald, o_aald, o_iast, o_zast, o_last, o_alen, o_cpyI, o_cpyJ, o_iret, o_zret, o_lret, o_aret, o_vret, o_idiv, o_irem, o_ineg, o_ifeq, o_ifne, o_iflt, o_ifge, o_ifgt, o_ifle, o_iceq, o_icne, o_iclt, o_icge, o_icgt, o_icle, al_gL, al_sL, al_sJ, al_gd]
  rw [hI]
  refine mw_t (by rw [nT (by omega), nT (by omega)]; omega) (by rw [nT (by omega), i_sub (by omega) (by omega)]; omega) (And.intro (Or.inr nI_1') kq)
theorem mh_f {a : Int32} {nh : Nat} {I : II} {J : JJ} {Q : QT} (hn : nh ≤ 6) (hI : I 75 142 = nI nh) (hq : ing nh a) (kq : Q (some (.int (nI 0))) 90 al_R0 I J) : CT m_X12_isHouse 0 [.ref 74, .int a] 90 al_R0 I J Q := by
  have := ing_of hq (by omega)
  refine r_X12_isHouse (by decide) (fun F wk b0 => b0 _ _ _ _ _ _ (Exists.intro 142 (And.intro (by decide) (And.intro rfl ?_))))
  dsimp only [o_iload, o_lload, o_aload, o_istore, o_astore, o_lstore, o_iinc, o_ic, o_lc, o_sc, o_iadd, o_isub, o_imul, o_iand, o_ior, o_ixor, o_ishl, o_ishr, o_ladd, o_lsub, o_land, o_lor, o_lxor, o_lshl, o_lshr, o_i2l, o_l2i, o_lcmp, o_dup, o_dup2, o_pop, o_getI, o_getJ, o_getR, o_putI, o_putZ, o_putJ, o_iald, o_zald, o_lald, o_aald, o_iast, o_zast, o_last, o_alen, o_cpyI, o_cpyJ, o_iret, o_zret, o_lret, o_aret, o_vret, o_idiv, o_irem, o_ineg, o_ifeq, o_ifne, o_iflt, o_ifge, o_ifgt, o_ifle, o_iceq, o_icne, o_iclt, o_icge, o_icgt, o_icle, al_gL, al_sL, al_sJ, al_gd]
  rw [hI]
  refine mw_f (by rw [nT (by omega), i_sub (by omega) (by omega)]; omega) (And.intro (Or.inl nI_0) kq)
theorem mv_t {x nh : Nat} {I : II} {J : JJ} {Q : QT} (hn : nh ≤ 6) (hI : I 75 142 = nI nh) (hx : vok nh x) (kq : Q (some (.int (nI 1))) 90 al_R0 I J) : CT m_X12_isSort 0 [.ref 74, .int (nI x)] 90 al_R0 I J Q := by
  have hx16 : x < 16 := by unfold vok at hx; omega
  refine r_X12_isSort (by decide) (fun F wk b0 b31 b35 b36 => ?_)
  have h31 : F 31 [some (.ref 74), some (.int (nI x))] [] 90 al_R0 I J := b31 _ _ _ _ _ _ (b36 _ _ _ _ _ _ (And.intro (Or.inr nI_1') kq))
  refine b0 _ _ _ _ _ _ ?_
  rcases hx with q | q
  · exact mw_t (by rw [nT (by omega), nT (by omega)]; omega) (by rw [nT (by omega), nT (by omega)]; omega) (br_u (by decide +kernel) h31)
  · refine mw_f (by rw [nT (by omega), nT (by omega), nT (by omega)]; omega) (br_v nI_0 (Exists.intro 142 (And.intro (by decide) (And.intro rfl ?_))))
    dsimp only [o_iload, o_lload, o_aload, o_istore, o_astore, o_lstore, o_iinc, o_ic, o_lc, o_sc, o_iadd, o_isub, o_imul, o_iand, o_ior, o_ixor, o_ishl, o_ishr, o_ladd, o_lsub, o_land, o_lor, o_lxor, o_lshl, o_lshr, o_i2l, o_l2i, o_lcmp, o_dup, o_dup2, o_pop, o_getI, o_getJ, o_getR, o_putI, o_putZ, o_putJ, o_iald, o_zald, o_lald, o_aald, o_iast, o_zast, o_last, o_alen, o_cpyI, o_cpyJ, o_iret, o_zret, o_lret, o_aret, o_vret, o_idiv, o_irem, o_ineg, o_ifeq, o_ifne, o_iflt, o_ifge, o_ifgt, o_ifle, o_iceq, o_icne, o_iclt, o_icge, o_icgt, o_icle, al_gL, al_sL, al_sJ, al_gd]
    rw [hI, nI_add]
    exact mw_t (by rw [nT (by omega), nT (by omega)]; omega) (by rw [nT (by omega), i_sub (by omega) (by omega)]; omega) (br_f (by decide +kernel) h31)
theorem mv_f {a : Int32} {nh : Nat} {I : II} {J : JJ} {Q : QT} (hn : nh ≤ 6) (hI : I 75 142 = nI nh) (hx : ∀ x, vok nh x → ¬ a = nI x) (kq : Q (some (.int (nI 0))) 90 al_R0 I J) : CT m_X12_isSort 0 [.ref 74, .int a] 90 al_R0 I J Q := by
  have h1 : ¬ (0 ≤ a.toInt ∧ a.toInt ≤ 3) := fun q => hx a.toInt.toNat (by unfold vok; omega) (i_of (by omega) (by omega))
  have h2 : ¬ (10 ≤ a.toInt ∧ a.toInt < 10 + nh) := fun q => hx a.toInt.toNat (by unfold vok; omega) (i_of (by omega) (by omega))
  refine r_X12_isSort (by decide) (fun F wk b0 b31 b35 b36 => ?_)
  refine b0 _ _ _ _ _ _ (mw_f (by rw [nT (by omega), nT (by omega)]; omega) (br_v nI_0 (Exists.intro 142 (And.intro (by decide) (And.intro rfl ?_)))))
  dsimp only [o_iload, o_lload, o_aload, o_istore, o_astore, o_lstore, o_iinc, o_ic, o_lc, o_sc, o_iadd, o_isub, o_imul, o_iand, o_ior, o_ixor, o_ishl, o_ishr, o_ladd, o_lsub, o_land, o_lor, o_lxor, o_lshl, o_lshr, o_i2l, o_l2i, o_lcmp, o_dup, o_dup2, o_pop, o_getI, o_getJ, o_getR, o_putI, o_putZ, o_putJ, o_iald, o_zald, o_lald, o_aald, o_iast, o_zast, o_last, o_alen, o_cpyI, o_cpyJ, o_iret, o_zret, o_lret, o_aret, o_vret, o_idiv, o_irem, o_ineg, o_ifeq, o_ifne, o_iflt, o_ifge, o_ifgt, o_ifle, o_iceq, o_icne, o_iclt, o_icge, o_icgt, o_icle, al_gL, al_sL, al_sJ, al_gd]
  rw [hI, nI_add]
  exact mw_f (by rw [nT (by omega), i_sub (by omega) (by omega)]; omega) (br_t nI_0 (b35 _ _ _ _ _ _ (b36 _ _ _ _ _ _ (And.intro (Or.inl nI_0) kq))))
/-- what stands at a row and a column (both shifted by one) -/
def stv (c : Nat → Nat) (r k : Nat) : Int32 := if 1 ≤ r ∧ r ≤ 8 ∧ 1 ≤ k ∧ k ≤ 8 then nI (c (8 * (r - 1) + (k - 1))) else -1
theorem ma_standsAt {r k : Nat} {row col : Int32} {c : Nat → Nat} {I : II} {J : JJ} {Q : QT} (hsq : sqr I 75 c) (hr : row.toInt = (r : Int) - 1) (hk : col.toInt = (k : Int) - 1) (hr9 : r < 100) (hk9 : k < 100) (kq : Q (some (.int (stv c r k))) 90 al_R0 I J) : CT m_X12_standsAt 0 [.ref 74, .int row, .int col] 90 al_R0 I J Q := by
  refine r_X12_standsAt (by decide) (fun F wk b0 b34 b35 => ?_)
  have no : ¬ (1 ≤ r ∧ r ≤ 8 ∧ 1 ≤ k ∧ k ≤ 8) → F 34 [some (.ref 74), some (.int row), some (.int col)] [] 90 al_R0 I J := fun hn => by
    unfold stv at kq
    rw [if_neg hn] at kq
    exact b34 _ _ _ _ _ _ (b35 _ _ _ _ _ _ kq)
  refine b0 _ _ _ _ _ _ ?_
  by_cases h1 : 1 ≤ r ∧ r ≤ 8
  · refine mw_t (by rw [nT (by omega)]; omega) (by rw [nT (by omega)]; omega) (br_f (by decide +kernel) ?_)
    by_cases h2 : 1 ≤ k ∧ k ≤ 8
    · refine mw_t (by rw [nT (by omega)]; omega) (by rw [nT (by omega)]; omega) (br_f (by decide +kernel) ?_)
      have er : row = nI (r - 1) := i_of (by omega) (by omega)
      have ek : col = nI (k - 1) := i_of (by omega) (by omega)
      refine Exists.intro (8 * (r - 1) + (k - 1)) (And.intro (by omega) (And.intro (by rw [er, ek, pk_mul, nI_add]) (b35 _ _ _ _ _ _ ?_)))
      unfold stv at kq
      rw [if_pos ⟨h1.1, h1.2, h2⟩, ← hsq _ (by omega)] at kq
      exact kq
    · exact mw_f (by rw [nT (by omega), nT (by omega)]; omega) (br_t nI_0 (no (by omega)))
  · exact mw_f (by rw [nT (by omega), nT (by omega)]; omega) (br_t nI_0 (no (by omega)))
theorem stv_own {c : Nat → Nat} (hcd : cdo c) {h r k : Nat} (hh : h < 6) : (stv c r k = nI (10 + h)) ↔ own c h r k = true := by
  unfold stv own
  by_cases e : 1 ≤ r ∧ r ≤ 8 ∧ 1 ≤ k ∧ k ≤ 8
  · have := hcd (8 * (r - 1) + (k - 1)) (by omega)
    rw [if_pos e, nI_eq (by omega) (by omega)]
    simp [e]
  · rw [if_neg e]
    simp [e]
    exact fun q => nI_nm1 (by omega) q.symm
set_option maxHeartbeats 1000000 in
theorem ma_cornerOf {h p : Nat} {c : Nat → Nat} {I : II} {J : JJ} {Q : QT} (hsq : sqr I 75 c) (hcd : cdo c) (hh : h < 6) (hp : p < 81) (kq : Q (some (.int (nI (shp c h p)))) 90 al_R0 I J) : CT m_X12_cornerOf 0 [.ref 74, .int (nI h), .int (nI p)] 90 al_R0 I J Q := by
  refine r_X12_cornerOf (by decide) (fun F wk b0 b37 b38 b58 b59 b79 b80 b98 b99 b110 b111 b120 b121 b131 b132 b142 b143 b156 b166 b183 b184 => ?_)
  have hd : nI p / nI 9 = nI (p / 9) := pk_div (by omega) (by decide) (by decide)
  have hm : nI p - nI p / nI 9 * nI 9 = nI (p % 9) := pk_rem (by omega) (by decide) (by decide)
  unfold shp at kq
  dsimp only at kq
  have h99 : F 99 [some (.ref 74), some (.int (nI h)), some (.int (nI p)), some (.int (nI (p / 9))), some (.int (nI (p % 9))), some (.int (nI (10 + h))), some (.int (nI (own c h (p / 9) (p % 9)).toNat)), some (.int (nI (own c h (p / 9) (p % 9 + 1)).toNat)), some (.int (nI (own c h (p / 9 + 1) (p % 9)).toNat)), none, none] [.int (nI (own c h (p / 9 + 1) (p % 9 + 1)).toNat)] 90 al_R0 I J := by
    generalize own c h (p / 9) (p % 9) = A at kq ⊢
    generalize own c h (p / 9) (p % 9 + 1) = B at kq ⊢
    generalize own c h (p / 9 + 1) (p % 9) = D at kq ⊢
    generalize own c h (p / 9 + 1) (p % 9 + 1) = E at kq ⊢
    cases A <;> cases B <;> cases D <;> cases E <;> (
      simp at kq
      repeat (first
        | exact kq
        | refine br_t (by decide +kernel) ?_
        | refine br_f (by decide +kernel) ?_
        | refine br_u (by decide +kernel) ?_
        | refine br_v (by decide +kernel) ?_
        | refine b99 _ _ _ _ _ _ ?_
        | refine b110 _ _ _ _ _ _ ?_
        | refine b111 _ _ _ _ _ _ ?_
        | refine b120 _ _ _ _ _ _ ?_
        | refine b121 _ _ _ _ _ _ ?_
        | refine b131 _ _ _ _ _ _ ?_
        | refine b132 _ _ _ _ _ _ ?_
        | refine b142 _ _ _ _ _ _ ?_
        | refine b143 _ _ _ _ _ _ ?_
        | refine b156 _ _ _ _ _ _ ?_
        | refine b166 _ _ _ _ _ _ ?_
        | refine b183 _ _ _ _ _ _ ?_
        | refine b184 _ _ _ _ _ _ ?_))
  have h80 : F 80 [some (.ref 74), some (.int (nI h)), some (.int (nI p)), some (.int (nI (p / 9))), some (.int (nI (p % 9))), some (.int (nI (10 + h))), some (.int (nI (own c h (p / 9) (p % 9)).toNat)), some (.int (nI (own c h (p / 9) (p % 9 + 1)).toNat)), none, none, none] [.int (nI (own c h (p / 9 + 1) (p % 9)).toNat)] 90 al_R0 I J := by
    refine b80 _ _ _ _ _ _ (ma_standsAt (r := p / 9 + 1) (k := p % 9 + 1) hsq (by rw [nT (by omega)]; omega) (by rw [nT (by omega)]; omega) (by omega) (by omega) (And.intro (fun c1 => ?_) (fun c1 => ?_)))
    · rw [stv_own hcd hh] at c1
      rw [show own c h (p / 9 + 1) (p % 9 + 1) = false by simpa using c1] at h99
      exact b98 _ _ _ _ _ _ h99
    · rw [stv_own hcd hh] at c1
      rw [c1] at h99
      exact h99
  have h59 : F 59 [some (.ref 74), some (.int (nI h)), some (.int (nI p)), some (.int (nI (p / 9))), some (.int (nI (p % 9))), some (.int (nI (10 + h))), some (.int (nI (own c h (p / 9) (p % 9)).toNat)), none, none, none, none] [.int (nI (own c h (p / 9) (p % 9 + 1)).toNat)] 90 al_R0 I J := by
    refine b59 _ _ _ _ _ _ (ma_standsAt (r := p / 9 + 1) (k := p % 9) hsq (by rw [nT (by omega)]; omega) (by rw [i_sub (by omega) (by omega)]; rfl) (by omega) (by omega) (And.intro (fun c1 => ?_) (fun c1 => ?_)))
    · rw [stv_own hcd hh] at c1
      rw [show own c h (p / 9 + 1) (p % 9) = false by simpa using c1] at h80
      exact b79 _ _ _ _ _ _ h80
    · rw [stv_own hcd hh] at c1
      rw [c1] at h80
      exact h80
  have h38 : F 38 [some (.ref 74), some (.int (nI h)), some (.int (nI p)), some (.int (nI (p / 9))), some (.int (nI (p % 9))), some (.int (nI (10 + h))), none, none, none, none, none] [.int (nI (own c h (p / 9) (p % 9)).toNat)] 90 al_R0 I J := by
    refine b38 _ _ _ _ _ _ (ma_standsAt (r := p / 9) (k := p % 9 + 1) hsq (by rw [i_sub (by omega) (by omega)]; rfl) (by rw [nT (by omega)]; omega) (by omega) (by omega) (And.intro (fun c1 => ?_) (fun c1 => ?_)))
    · rw [stv_own hcd hh] at c1
      rw [show own c h (p / 9) (p % 9 + 1) = false by simpa using c1] at h59
      exact b58 _ _ _ _ _ _ h59
    · rw [stv_own hcd hh] at c1
      rw [c1] at h59
      exact h59
  refine b0 _ _ _ _ _ _ (And.intro (by decide +kernel) (And.intro (by decide +kernel) ?_))
  dsimp only [o_iload, o_lload, o_aload, o_istore, o_astore, o_lstore, o_iinc, o_ic, o_lc, o_sc, o_iadd, o_isub, o_imul, o_iand, o_ior, o_ixor, o_ishl, o_ishr, o_ladd, o_lsub, o_land, o_lor, o_lxor, o_lshl, o_lshr, o_i2l, o_l2i, o_lcmp, o_dup, o_dup2, o_pop, o_getI, o_getJ, o_getR, o_putI, o_putZ, o_putJ, o_iald, o_zald, o_lald, o_aald, o_iast, o_zast, o_last, o_alen, o_cpyI, o_cpyJ, o_iret, o_zret, o_lret, o_aret, o_vret, o_idiv, o_irem, o_ineg, o_ifeq, o_ifne, o_iflt, o_ifge, o_ifgt, o_ifle, o_iceq, o_icne, o_iclt, o_icge, o_icgt, o_icle, al_gL, al_sL, al_sJ, al_gd]
  rw [hm, hd, nI_add]
  refine ma_standsAt (r := p / 9) (k := p % 9) hsq (by rw [i_sub (by omega) (by omega)]; rfl) (by rw [i_sub (by omega) (by omega)]; rfl) (by omega) (by omega) (And.intro (fun c1 => ?_) (fun c1 => ?_))
  · rw [stv_own hcd hh] at c1
    rw [show own c h (p / 9) (p % 9) = false by simpa using c1] at h38
    exact b37 _ _ _ _ _ _ h38
  · rw [stv_own hcd hh] at c1
    rw [c1] at h38
    exact h38
