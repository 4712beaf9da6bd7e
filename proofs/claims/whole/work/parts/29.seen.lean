/-! WHAT IS SEEN, AND WHAT IT COUNTS -/
theorem sh_64 : ∀ n, n < 64 → (((nI n).toInt64 &&& 63).toBitVec.smod 64).toNat = n := by decide +kernel
theorem gb_shr {q : Nat} (hq : q < 64) (x : Int64) {j : Nat} (hj : j < 64) : gb (x >>> ((nI q).toInt64 &&& 63)) j = if q + j < 64 then gb x (q + j) else gb x 63 := by
  unfold gb
  rw [Int64.toBitVec_shiftRight]
  show (x.toBitVec.sshiftRight (((nI q).toInt64 &&& 63).toBitVec.smod 64).toNat).getLsbD j = _
  rw [sh_64 q hq, BitVec.getLsbD_sshiftRight, BitVec.msb_eq_getLsbD_last]
  simp [hj]
theorem gb_one : ∀ j, j < 64 → gb (lN 1) j = decide (j = 0) := by decide +kernel
theorem lN_0 : lN 0 = 0 := by decide +kernel
theorem bit_at {q : Nat} (hq : q < 64) (x : Int64) : (x >>> ((nI q).toInt64 &&& 63)) &&& lN 1 = lN (gb x q).toNat := by
  apply gb_ext
  intro j hj
  rw [gb_and, gb_shr hq x hj, gb_one j hj]
  by_cases h : j = 0
  · subst h
    rw [Nat.add_zero, if_pos hq]
    cases gb x q
    · simp [lN_0, gb_0]
    · rw [show (lN (true).toNat) = lN 1 from rfl, gb_one 0 (by omega)]
      simp
  · cases gb x q
    · rw [show (lN (false).toNat) = 0 from lN_0, gb_0]
      simp [h]
    · rw [show (lN (true).toNat) = lN 1 from rfl, gb_one j hj]
      simp [h]
theorem lN_b0 (b : Bool) : lN b.toNat = lN 0 ↔ b = false := by cases b <;> decide +kernel
def wal (x : Nat) : Bool := decide (¬ x = 0 ∧ ¬ x = 1)
def clr (c : Nat → Nat) (q p : Nat) : Bool := !(anyb (fun s => lin q p s && wal (c s)) 64)
def sen (c : Nat → Nat) (p q : Nat) : Bool := decide (c q = 1) && clr c q p
def nsn (c : Nat → Nat) (p : Nat) : Nat := cnt (sen c p) 64
theorem nsn_le (c : Nat → Nat) (p : Nat) : nsn c p ≤ 64 := cnt_le _ _
theorem ca_isStreet {q : Nat} {c : Nat → Nat} {I : II} {J : JJ} {Q : QT} (hm : mks (J 8 4) (J 8 5) c) (hq : q < 64) (kq : Q (some (.int (nI (decide (c q = 1)).toNat))) 90 al_R0 I J) : CT m_X8_isStreet 0 [.ref 38, .int (nI q)] 90 al_R0 I J Q := by
  refine r_X8_isStreet (by decide) (fun F wk b0 b20 b21 => ?_)
  refine b0 _ _ _ _ _ _ (And.intro (fun c1 => ?_) (fun c1 => ?_))
  · rw [lg_cmp_eq, bit_at hq, lN_b0, hm.1 q hq] at c1
    rw [c1] at kq
    exact b20 _ _ _ _ _ _ (b21 _ _ _ _ _ _ (And.intro (Or.inl nI_0) kq))
  · rw [lg_cmp_eq, bit_at hq, lN_b0, hm.1 q hq] at c1
    rw [show decide (c q = 1) = true by simpa using c1] at kq
    exact b21 _ _ _ _ _ _ (And.intro (Or.inr nI_1') kq)
theorem clr_of {c : Nat → Nat} {q p : Nat} {L w : Int64} (hL : ∀ s, s < 64 → gb L s = lin q p s) (hw : ∀ j, j < 64 → gb w j = decide (¬ c j = 0 ∧ ¬ c j = 1)) : (L &&& w = lN 0) ↔ clr c q p = true := by
  rw [lN_0, gb_zero]
  constructor
  · intro h
    unfold clr
    rw [anyb_no]
    · rfl
    · intro j hj
      have h1 := h j hj
      rw [gb_and, hL j hj, hw j hj] at h1
      exact h1
  · intro h j hj
    rw [gb_and, hL j hj, hw j hj]
    cases e : (lin q p j && decide (¬ c j = 0 ∧ ¬ c j = 1)) with
    | false => rfl
    | true =>
      unfold clr at h
      rw [anyb_yes hj (by exact e)] at h
      cases h
theorem ca_reaches {q p : Nat} {c : Nat → Nat} {I : II} {J : JJ} {Q : QT} (hm : mks (J 8 4) (J 8 5) c) (hq : q < 64) (hp : p < 81) (kq : Q (some (.int (nI (clr c q p).toNat))) 90 al_R0 I J) : CT m_X8_reaches 0 [.ref 38, .int (nI q), .int (nI p)] 90 al_R0 I J Q := by
  refine r_X8_reaches (by decide) (fun F wk b0 b22 b23 => ?_)
  refine b0 _ _ _ _ _ _ (ca_lineOf hq hp (fun L hL => And.intro (fun c1 => ?_) (fun c1 => ?_)))
  · rw [lg_cmp_eq, clr_of hL hm.2] at c1
    rw [show clr c q p = false by simpa using c1] at kq
    exact b22 _ _ _ _ _ _ (b23 _ _ _ _ _ _ (And.intro (Or.inl nI_0) kq))
  · rw [lg_cmp_eq, clr_of hL hm.2] at c1
    rw [c1] at kq
    exact b23 _ _ _ _ _ _ (And.intro (Or.inr nI_1') kq)
/-- the numbers kept of what is seen -/
def scc (I : II) (c : Nat → Nat) : Prop := ∀ p, p < 81 → I 39 p = -1 ∨ I 39 p = nI (nsn c p)
theorem nI_nm1 {n : Nat} (h : n < 2 ^ 31) : ¬ nI n = -1 := by
  intro e
  have := congrArg Int32.toInt e
  rw [nI_toInt h, show (-1 : Int32).toInt = -1 by decide] at this
  omega
theorem ca_seenFrom {p : Nat} {c : Nat → Nat} {I : II} {J : JJ} {Q : QT} (hm : mks (J 8 4) (J 8 5) c) (hs : scc I c) (hp : p < 81) (kq : ∀ I' : II, (∀ q, q ≠ 39 → I' q = I q) → scc I' c → Q (some (.int (nI (nsn c p)))) 90 al_R0 I' J) : CT m_X8_seenFrom 0 [.ref 38, .int (nI p)] 90 al_R0 I J Q := by
  refine r_X8_seenFrom (by decide) (fun F wk b0 b14 b40 b46 b53 => ?_)
  have h53 : ∀ I' : II, (∀ q, q ≠ 39 → I' q = I q) → scc I' c → I' 39 p = nI (nsn c p) → F 53 [some (.ref 38), some (.int (nI p)), none, none] [] 90 al_R0 I' J := fun I' h1 h2 h3 => by
    refine b53 _ _ _ _ _ _ (Exists.intro p (And.intro hp (And.intro rfl ?_)))
    rw [h3]
    exact kq I' h1 h2
  have loop : ∀ d i : Nat, i + d = 64 → F 14 [some (.ref 38), some (.int (nI p)), some (.int (nI (cnt (sen c p) i))), some (.int (nI i))] [] 90 al_R0 I J := by
    intro d
    induction d with
    | zero =>
      intro i hi
      obtain rfl : i = 64 := by omega
      refine b14 _ _ _ _ _ _ (br_t (nI_le (by omega) (by omega)) (b46 _ _ _ _ _ _ (Exists.intro p (And.intro hp (And.intro rfl ?_)))))
      refine wk _ _ _ _ _ _ _ _ ?_ (h53 (al_up I 39 p (nI (nsn c p))) (fun q hq => al_up_row hq) (fun q hq => ?_) al_up_s)
      · simp [al_le]
      · by_cases e : q = p
        · subst e; exact Or.inr al_up_s
        · rw [al_up_j e]; exact hs q hq
    | succ d ih =>
      intro i hi
      have h9 := ih (i + 1) (by omega)
      refine b14 _ _ _ _ _ _ (br_f (nI_ge (by omega) (by omega)) (ca_isStreet hm (by omega) (And.intro (fun c1 => ?_) (fun c1 => ca_reaches hm (by omega) hp (And.intro (fun c2 => ?_) (fun c2 => ?_))))))
      · rw [cnt_no (by simp [sen, bz_f c1]), nI_s i] at h9
        exact b40 _ _ _ _ _ _ h9
      · rw [cnt_no (by simp [sen, bz_f c2]), nI_s i] at h9
        exact b40 _ _ _ _ _ _ h9
      · rw [cnt_yes (by simp only [sen, bz_t c1, bz_t c2]; rfl), nI_s i, nI_s (cnt _ i)] at h9
        exact b40 _ _ _ _ _ _ h9
  refine b0 _ _ _ _ _ _ (Exists.intro p (And.intro hp (And.intro rfl (And.intro (fun c1 => ?_) (fun c1 => ?_)))))
  · rcases hs p hp with h | h
    · exact absurd h c1
    · exact h53 I (fun _ _ => rfl) hs h
  · exact loop 64 0 rfl
/-- what a point counts for a house, seen from so many squares -/
def kdN (T : TW) (h : Nat) : Nat := (T.2.2.1 h 0).toNatClampNeg
def rtN (T : TW) (h : Nat) : Nat := (T.2.2.1 h 1).toNatClampNeg
def rcN (T : TW) (h : Nat) : Nat := (T.2.2.1 h 4).toNatClampNeg
def rnd (T : TW) (h p : Nat) : Bool := anyb (fun i => decide (T.2.2.2 h i = nI p)) (rcN T h)
def cof (T : TW) (ns h p : Nat) : Nat := if ns = 0 ∨ rnd T h p = true ∨ shp T.1 h p = 0 then 0 else wgh (kdN T h) (decide (shp T.1 h p = 1)) (anyb (fun g => cor T.1 g p) h) ns
theorem VT.kd {T : TW} (hv : VT T) {h : Nat} (hh : h < T.2.1) : kdN T h < 6 ∧ T.2.2.1 h 0 = nI (kdN T h) := by
  obtain ⟨⟨k, h1, h2⟩, -⟩ := hv.2.2 h hh
  unfold kdN
  rw [h2, nI_clamp (by omega)]
  exact ⟨h1, rfl⟩
theorem VT.rt {T : TW} (hv : VT T) {h : Nat} (hh : h < T.2.1) : 1 ≤ rtN T h ∧ rtN T h ≤ 99 ∧ T.2.2.1 h 1 = nI (rtN T h) := by
  obtain ⟨-, ⟨k, h1, h3, h2⟩, -⟩ := hv.2.2 h hh
  unfold rtN
  rw [h2, nI_clamp (by omega)]
  exact ⟨h1, h3, rfl⟩
theorem VT.rc {T : TW} (hv : VT T) {h : Nat} (hh : h < T.2.1) : rcN T h ≤ 8 ∧ T.2.2.1 h 4 = nI (rcN T h) := by
  obtain ⟨-, -, ⟨k, h1, h2⟩⟩ := hv.2.2 h hh
  unfold rcN
  rw [h2, nI_clamp (by omega)]
  exact ⟨h1, rfl⟩
theorem law_R : ∀ k, k < 6 → al_R0 1 k = some (2 + k) := by decide +kernel
theorem ca_lawOf {h : Nat} {T : TW} {I : II} {J : JJ} {Q : QT} (hT : CTn 8 T I J) (hv : VT T) (hh : h < T.2.1) (kq : Q (some (.ref (2 + kdN T h))) 90 al_R0 I J) : CT m_X9_lawOf 0 [.ref 8, .int (nI h)] 90 al_R0 I J Q := by
  have h6 := hv.1
  obtain ⟨hk, hk2⟩ := hv.kd hh
  refine r_X9_lawOf (by decide) (fun F wk b0 => ?_)
  refine b0 _ _ _ _ _ _ (Exists.intro h (And.intro (by omega) (And.intro rfl ?_)))
  refine al_rk_in (tb_hO tb8 (by omega)) ?_
  dsimp only [o_iload, o_lload, o_aload, o_istore, o_astore, o_lstore, o_iinc, o_ic, o_lc, o_sc, o_iadd, o_isub, o_imul, o_iand, o_ior, o_ixor, o_ishl, o_ishr, o_ladd, o_lsub, o_land, o_lor, o_lxor, o_lshl, o_lshr, o_i2l, o_l2i, o_lcmp, o_dup, o_dup2, o_pop, o_getI, o_getJ, o_getR, o_putI, o_putZ, o_putJ, o_iald, o_zald, o_lald, o_aald, o_iast, o_zast, o_last, o_alen, o_cpyI, o_cpyJ, o_iret, o_zret, o_lret, o_aret, o_vret, o_idiv, o_irem, o_ineg, o_ifeq, o_ifne, o_iflt, o_ifge, o_ifgt, o_ifle, o_iceq, o_icne, o_iclt, o_icge, o_icgt, o_icle, al_gL, al_sL, al_sJ, al_gd]
  refine al_isC_in (tb_hC tb8 (by omega)) (Exists.intro (kdN T h) (And.intro hk (And.intro ?_ (al_rk_in (law_R _ hk) kq))))
  rw [show I (8 + 3 + 2 * h) 0 = T.2.2.1 h 0 from hT.2.2.2.1 h (by omega) 0 (by omega), hk2]
theorem rnd_of {T : TW} {I : II} {J : JJ} (hT : CTn 8 T I J) (hv : VT T) {h p : Nat} (hh : h < T.2.1) : anyb (fun i => decide (I (8 + 4 + 2 * h) i = nI p)) (rcN T h) = rnd T h p := by
  have h6 := hv.1
  have hr := (hv.rc hh).1
  unfold rnd
  have key : ∀ n, n ≤ 8 → anyb (fun i => decide (I (8 + 4 + 2 * h) i = nI p)) n = anyb (fun i => decide (T.2.2.2 h i = nI p)) n := by
    intro n
    induction n with
    | zero => intro _; rfl
    | succ n ih =>
      intro hn
      rw [anyb, anyb, ih (by omega), hT.2.2.2.2 h (by omega) n (by omega)]
  exact key _ hr
theorem ca_countIfSeen {h p ns : Nat} {T : TW} {I : II} {J : JJ} {Q : QT} (hT : CTn 8 T I J) (hv : VT T) (hh : h < T.2.1) (hp : p < 81) (hns : ns ≤ 64) (kq : Q (some (.int (nI (cof T ns h p)))) 90 al_R0 I J) : CT m_X9_countIfSeen 0 [.ref 8, .int (nI h), .int (nI p), .int (nI ns)] 90 al_R0 I J Q := by
  have h6 := hv.1
  obtain ⟨hk, hk2⟩ := hv.kd hh
  obtain ⟨hr, hr2⟩ := hv.rc hh
  have hsh := shp_lt T.1 h p
  refine r_X9_countIfSeen (by decide) (fun F wk b0 b17 b19 b34 b49 b50 => ?_)
  have h17 : (ns = 0 ∨ rnd T h p = true ∨ shp T.1 h p = 0) → F 17 [some (.ref 8), some (.int (nI h)), some (.int (nI p)), some (.int (nI ns)), none] [] 90 al_R0 I J := fun hc => by
    unfold cof at kq
    rw [if_pos hc] at kq
    exact b17 _ _ _ _ _ _ kq
  refine b0 _ _ _ _ _ _ (And.intro (fun c1 => ?_) (fun c1 => ?_))
  · rw [← nI_0, nI_leI (by omega) (by omega)] at c1
    exact h17 (Or.inl (by omega))
  · rw [← nI_0, nI_leI (by omega) (by omega)] at c1
    refine Exists.intro h (And.intro (by omega) (And.intro rfl ?_))
    refine al_rk_in (tb_hO tb8 (by omega)) ?_
    dsimp only [o_iload, o_lload, o_aload, o_istore, o_astore, o_lstore, o_iinc, o_ic, o_lc, o_sc, o_iadd, o_isub, o_imul, o_iand, o_ior, o_ixor, o_ishl, o_ishr, o_ladd, o_lsub, o_land, o_lor, o_lxor, o_lshl, o_lshr, o_i2l, o_l2i, o_lcmp, o_dup, o_dup2, o_pop, o_getI, o_getJ, o_getR, o_putI, o_putZ, o_putJ, o_iald, o_zald, o_lald, o_aald, o_iast, o_zast, o_last, o_alen, o_cpyI, o_cpyJ, o_iret, o_zret, o_lret, o_aret, o_vret, o_idiv, o_irem, o_ineg, o_ifeq, o_ifne, o_iflt, o_ifge, o_ifgt, o_ifle, o_iceq, o_icne, o_iclt, o_icge, o_icgt, o_icle, al_gL, al_sL, al_sJ, al_gd, o_cV, al_pop, al_hd]
    refine al_isC_in (tb_hC tb8 (by omega)) (al_r8_in (by decide) (ca_isRounded tb8 (by omega) hr (by rw [← hr2]; exact hT.2.2.2.1 h (by omega) 4 (by omega)) ?_))
    rw [rnd_of hT hv hh]
    refine And.intro (fun c2 => ?_) (fun c2 => ?_)
    · have hrn := bz_f c2
      refine b19 _ _ _ _ _ _ (ca_shapeAt hT.2.1 hv.cdo (by omega) hp (And.intro (fun c3 => ?_) (fun c3 => ?_)))
      · rw [← nI_0, nI_eq (by omega) (by omega)] at c3
        unfold cof at kq
        rw [if_neg (by rw [hrn]; simp; omega)] at kq
        refine b34 _ _ _ _ _ _ (ca_lawOf hT hv hh ?_)
        have h50 : F 50 [some (.ref 8), some (.int (nI h)), some (.int (nI p)), some (.int (nI ns)), some (.int (nI (shp T.1 h p)))] [.int (nI (decide (shp T.1 h p = 1)).toNat), .ref (2 + kdN T h)] 90 al_R0 I J := by
          refine b50 _ _ _ _ _ _ (ca_isLessersCorner hT.2.1 hv.cdo (by omega) hp ?_)
          dsimp only [o_iload, o_lload, o_aload, o_istore, o_astore, o_lstore, o_iinc, o_ic, o_lc, o_sc, o_iadd, o_isub, o_imul, o_iand, o_ior, o_ixor, o_ishl, o_ishr, o_ladd, o_lsub, o_land, o_lor, o_lxor, o_lshl, o_lshr, o_i2l, o_l2i, o_lcmp, o_dup, o_dup2, o_pop, o_getI, o_getJ, o_getR, o_putI, o_putZ, o_putJ, o_iald, o_zald, o_lald, o_aald, o_iast, o_zast, o_last, o_alen, o_cpyI, o_cpyJ, o_iret, o_zret, o_lret, o_aret, o_vret, o_idiv, o_irem, o_ineg, o_ifeq, o_ifne, o_iflt, o_ifge, o_ifgt, o_ifle, o_iceq, o_icne, o_iclt, o_icge, o_icgt, o_icle, al_gL, al_sL, al_sJ, al_gd, o_cU, al_pop, al_hd, al_pu]
          have hw := cl_weigh (R := al_R0) (I := I) (J := J) (Q := fun v n' R' I' J' => al_pu v [] (fun st' => o_iret Q [some (.ref 8), some (.int (nI h)), some (.int (nI p)), some (.int (nI ns)), some (.int (nI (shp T.1 h p)))] st' n' R' I' J')) hk (show ns < 100 by omega) kq
          obtain ⟨ci, e1, e2, e3⟩ := al_rk_of hw
          exact al_rk_in e1 (And.intro e2 (al_r8_in (by decide) e3))
        refine And.intro (fun c4 => ?_) (fun c4 => ?_)
        · rw [nI_eq (by omega) (by omega)] at c4
          rw [decide_eq_false c4] at h50
          exact b49 _ _ _ _ _ _ h50
        · rw [nI_eq (by omega) (by omega)] at c4
          rw [decide_eq_true c4] at h50
          exact h50
      · rw [← nI_0, nI_eq (by omega) (by omega)] at c3
        unfold cof at kq
        rw [if_pos (Or.inr (Or.inr c3))] at kq
        exact kq
    · exact h17 (Or.inr (Or.inl (bz_t c2)))
