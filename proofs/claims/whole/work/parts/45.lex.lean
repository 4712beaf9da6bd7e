/-! STRINGS' OWN METHODS; THE TAPE BY TOKENS -/
set_option maxRecDepth 20000 in
theorem r_J3_checkIndex_n {a0 : Int32} {a1 : Int32} {n : Nat} {R : RR} {I : II} {J : JJ} {Q : QT} (hn : n + 0 ≤ 90) (h : ∀ F : FT, al_Wk F → al_Ok F (k_J3_checkIndex_8e157_0 F Q) 0 → al_Ok F (k_J3_checkIndex_8e157_9 F Q) 9 → al_Ok F (k_J3_checkIndex_8e157_16 F Q) 16 → F 0 [some (.int a0), some (.int a1), some .null] [] n R I J) : CT m_J3_checkIndex_8e157 0 [.int a0, .int a1, .null] n R I J Q :=
  CT.of (by decide) hn (fun _ => rfl) (fun _ => Nat.le_of_ble_eq_true rfl) (fun F p l e s m args below meth c Rm t Q0 C hQ hr hm => h F (fun _ _ _ _ _ _ _ _ => S_wk C)
    (S_iload_n C dJ3_checkIndex_8e157_0 rfl (S_iflt (tgt := 9) C dJ3_checkIndex_8e157_1 (by decide) (S_iload_n C dJ3_checkIndex_8e157_4 rfl (S_iload_n C dJ3_checkIndex_8e157_5 rfl (S_icmplt (tgt := 16) C dJ3_checkIndex_8e157_6 (by decide) (fun _ _ _ _ _ _ h9 => h9))))))
    (S_aload_n C dJ3_checkIndex_8e157_9 rfl (S_iload_n C dJ3_checkIndex_8e157_10 rfl (S_iload_n C dJ3_checkIndex_8e157_11 rfl (S_bad 12))))
    (S_iload_n C dJ3_checkIndex_8e157_16 rfl (S_iret C hQ hr dJ3_checkIndex_8e157_17)))
def wln (w : Nat) : Nat := al_len.getD w 0
def wch (w i : Nat) : Nat := ((al_byt.getD w []).getD i 0).toNatClampNeg
theorem wln_le : ∀ w, w < 13 → wln w ≤ 7 := by decide +kernel
theorem wch_v : ∀ w, w < 13 → ∀ i, i < wln w → ((((al_byt.getD w []).getD i 0) &&& nI 255).toUInt32 % 65536).toInt32 = nI (wch w i) ∧ wch w i < 256 := by decide +kernel
theorem nar_c : ∀ c, c < 256 → vp_nar .char (nI c) = nI c := by decide +kernel
theorem nar_ch {c : Nat} (h : c < 256) : narrow .char (.int (nI c)) = .int (nI c) := by
  have e : nI c = nI c &&& 255 := by
    have := pk_andN (n := c) (by omega) (m := 255) 8 (by decide +kernel)
    rw [this, Nat.mod_eq_of_lt (by omega)]
  rw [e]
  exact sc_nar (nI c)
theorem cs_coder {w n : Nat} {R : RR} {I : II} {J : JJ} {Q : QT} (hn : n ≤ 90) (hw : w < 13) (kq : Q (some (.int (nI 0))) n R I J) : CT m_J0_coder_7d493 0 [.ref (2000 + w)] n R I J Q := by
  refine r_J0_coder_7d493 hn (fun F wk b0 b13 b14 => ?_)
  refine b0 _ _ _ _ _ _ (br_f (by decide +kernel) (And.intro ⟨by omega, by omega⟩ (b14 _ _ _ _ _ _ (And.intro (by decide) ?_))))
  rw [nI_0] at kq
  exact kq
theorem cs_latin {w n : Nat} {R : RR} {I : II} {J : JJ} {Q : QT} (hn : n ≤ 90) (hw : w < 13) (kq : Q (some (.int (nI 1))) n R I J) : CT m_J0_isLatin1_aae02 0 [.ref (2000 + w)] n R I J Q := by
  refine r_J0_isLatin1_aae02 hn (fun F wk b0 b17 b18 => ?_)
  exact b0 _ _ _ _ _ _ (br_f (by decide +kernel) (And.intro ⟨by omega, by omega⟩ (br_v (by decide +kernel) (b18 _ _ _ _ _ _ (And.intro (Or.inr nI_1') kq)))))
theorem cs_length {w n : Nat} {R : RR} {I : II} {J : JJ} {Q : QT} (hn : n ≤ 90) (hw : w < 13) (kq : Q (some (.int (nI (wln w)))) n R I J) : CT m_J0_length_8abf5 0 [.ref (2000 + w)] n R I J Q := by
  refine r_J0_length_8abf5 hn (fun F wk b0 => ?_)
  refine b0 _ _ _ _ _ _ (And.intro ⟨by omega, by omega⟩ (And.intro ⟨by omega, by omega⟩ (And.intro ⟨by omega, by omega⟩ ?_)))
  refine al_r8_in (Nat.le_of_ble_eq_true rfl) (cs_coder hn hw ?_)
  dsimp only [al_pu, o_iload, o_lload, o_aload, o_istore, o_astore, o_lstore, o_iinc, o_ic, o_lc, o_sc, o_iadd, o_isub, o_imul, o_iand, o_ior, o_ixor, o_ishl, o_ishr, o_ladd, o_lsub, o_land, o_lor, o_lxor, o_lshl, o_lshr, o_i2l, o_l2i, o_lcmp, o_dup, o_dup2, o_pop, o_getI, o_getJ, o_getR, o_putI, o_putZ, o_putJ, o_iald, o_zald, o_lald, o_aald, o_iast, o_zast, o_last, o_alen, o_cpyI, o_cpyJ, o_iret, o_zret, o_lret, o_aret, o_vret, o_idiv, o_irem, o_ineg, o_ifeq, o_ifne, o_iflt, o_ifge, o_ifgt, o_ifle, o_iceq, o_icne, o_iclt, o_icge, o_icgt, o_icle, al_gL, al_sL, al_sJ, al_gd]
  rw [show 2000 + w + 1000 - 3000 = w by omega, show nI (al_len.getD w 0) >>> (nI 0 &&& 31) = nI (wln w) by rw [nI_0]; exact sc_shr0 (by have := wln_le w hw; unfold wln at this; omega)]
  exact kq
theorem cs_chk3 {i l n : Nat} {v : Value} {R : RR} {I : II} {J : JJ} {Q : QT} (hn : n ≤ 90) (hv : v = .null ∨ v = .ref 4000) (hi : i < l) (hl : l < 2 ^ 31) (kq : Q (some (.int (nI i))) n R I J) : CT m_J3_checkIndex_8e157 0 [.int (nI i), .int (nI l), v] n R I J Q := by
  rcases hv with rfl | rfl
  · exact r_J3_checkIndex_n hn (fun F wk b0 b9 b16 => b0 _ _ _ _ _ _ (br_f (nI_pos (by omega)) (br_t (nI_lt hi hl) (b16 _ _ _ _ _ _ kq))))
  · exact r_J3_checkIndex_8e157 hn (fun F wk b0 b9 b16 => b0 _ _ _ _ _ _ (br_f (nI_pos (by omega)) (br_t (nI_lt hi hl) (b16 _ _ _ _ _ _ kq))))
theorem cs_chk {i l n : Nat} {R : RR} {I : II} {J : JJ} {Q : QT} (hn : n ≤ 90) (hi : i < l) (hl : l < 2 ^ 31) (kq : Q none n R I J) : CT m_J0_checkIndex_df160 0 [.int (nI i), .int (nI l)] n R I J Q := by
  refine r_J0_checkIndex_df160 hn (fun F wk b0 => ?_)
  exact b0 _ _ _ _ _ _ (And.intro (cs_chk3 hn (Or.inl rfl) hi hl kq) (cs_chk3 hn (Or.inr rfl) hi hl kq))
theorem cs_charAt {w i n : Nat} {R : RR} {I : II} {J : JJ} {Q : QT} (hn : n ≤ 90) (hw : w < 13) (hi : i < wln w) (kq : Q (some (.int (nI (wch w i)))) n R I J) : CT m_J0_charAt_5068e 0 [.ref (2000 + w), .int (nI i)] n R I J Q := by
  have h7 := wln_le w hw
  obtain ⟨v1, v2⟩ := wch_v w hw i hi
  refine r_J0_charAt_5068e hn (fun F wk b0 b16 => ?_)
  refine b0 _ _ _ _ _ _ (And.intro ⟨by omega, by omega⟩ (cs_latin hn hw (br_f (by decide +kernel) (And.intro ⟨by omega, by omega⟩ ?_))))
  refine r_J1_charAt_3b067 hn (fun F2 wk2 c0 => ?_)
  refine c0 _ _ _ _ _ _ (And.intro ⟨by omega, by omega⟩ ?_)
  have e : 2000 + w + 1000 - 3000 = w := by omega
  dsimp only [o_iload, o_lload, o_aload, o_istore, o_astore, o_lstore, o_iinc, o_ic, o_lc, o_sc, o_iadd, o_isub, o_imul, o_iand, o_ior, o_ixor, o_ishl, o_ishr, o_ladd, o_lsub, o_land, o_lor, o_lxor, o_lshl, o_lshr, o_i2l, o_l2i, o_lcmp, o_dup, o_dup2, o_pop, o_getI, o_getJ, o_getR, o_putI, o_putZ, o_putJ, o_iald, o_zald, o_lald, o_aald, o_iast, o_zast, o_last, o_alen, o_cpyI, o_cpyJ, o_iret, o_zret, o_lret, o_aret, o_vret, o_idiv, o_irem, o_ineg, o_ifeq, o_ifne, o_iflt, o_ifge, o_ifgt, o_ifle, o_iceq, o_icne, o_iclt, o_icge, o_icgt, o_icle, al_gL, al_sL, al_sJ, al_gd, o_cS, al_pop]
  refine al_r8_in (by decide) ?_
  rw [show al_len.getD (2000 + w + 1000 - 3000) 0 = wln w by rw [e]; rfl]
  refine cs_chk hn hi (by omega) ?_
  refine And.intro ⟨by omega, by omega⟩ (Exists.intro i (And.intro (by rw [e]; exact hi) (And.intro rfl ?_)))
  rw [e]
  dsimp only [o_iload, o_lload, o_aload, o_istore, o_astore, o_lstore, o_iinc, o_ic, o_lc, o_sc, o_iadd, o_isub, o_imul, o_iand, o_ior, o_ixor, o_ishl, o_ishr, o_ladd, o_lsub, o_land, o_lor, o_lxor, o_lshl, o_lshr, o_i2l, o_l2i, o_lcmp, o_dup, o_dup2, o_pop, o_getI, o_getJ, o_getR, o_putI, o_putZ, o_putJ, o_iald, o_zald, o_lald, o_aald, o_iast, o_zast, o_last, o_alen, o_cpyI, o_cpyJ, o_iret, o_zret, o_lret, o_aret, o_vret, o_idiv, o_irem, o_ineg, o_ifeq, o_ifne, o_iflt, o_ifge, o_ifgt, o_ifle, o_iceq, o_icne, o_iclt, o_icge, o_icgt, o_icle, al_gL, al_sL, al_sJ, al_gd, o_i2c, o_nret]
  rw [v1]
  exact And.intro (nar_ch v2) (And.intro (nar_ch v2) kq)
/-- bytes -/
def isL (b : Nat) : Bool := decide (97 ≤ b) && decide (b ≤ 122)
def isD (b : Nat) : Bool := decide (48 ≤ b) && decide (b ≤ 57)
theorem cx_isLetter {b n : Nat} {R : RR} {I : II} {J : JJ} {Q : QT} (hn : n ≤ 90) (hb : b < 256) (kq : Q (some (.int (nI (isL b).toNat))) n R I J) : CT m_X10_isLetter 0 [.int (nI b)] n R I J Q := by
  refine r_X10_isLetter hn (fun F wk b0 b16 b17 => ?_)
  have no : isL b = false → F 16 [some (.int (nI b))] [] n R I J := fun q => by
    rw [q] at kq
    exact b16 _ _ _ _ _ _ (b17 _ _ _ _ _ _ (And.intro (Or.inl nI_0) kq))
  refine b0 _ _ _ _ _ _ (And.intro (fun c => no ?_) (fun c => And.intro (fun c2 => no ?_) (fun c2 => b17 _ _ _ _ _ _ (And.intro (Or.inr nI_1') ?_))))
  · rw [nI_ltI (by omega) (by omega)] at c
    simp [isL]; omega
  · rw [nI_ltI (by omega) (by omega)] at c2
    simp [isL]; omega
  · rw [nI_ltI (by omega) (by omega)] at c c2
    rw [show isL b = true by simp [isL]; omega] at kq
    exact kq
theorem cx_isDigit {b n : Nat} {R : RR} {I : II} {J : JJ} {Q : QT} (hn : n ≤ 90) (hb : b < 256) (kq : Q (some (.int (nI (isD b).toNat))) n R I J) : CT m_X10_isDigit 0 [.int (nI b)] n R I J Q := by
  refine r_X10_isDigit hn (fun F wk b0 b16 b17 => ?_)
  have no : isD b = false → F 16 [some (.int (nI b))] [] n R I J := fun q => by
    rw [q] at kq
    exact b16 _ _ _ _ _ _ (b17 _ _ _ _ _ _ (And.intro (Or.inl nI_0) kq))
  refine b0 _ _ _ _ _ _ (And.intro (fun c => no ?_) (fun c => And.intro (fun c2 => no ?_) (fun c2 => b17 _ _ _ _ _ _ (And.intro (Or.inr nI_1') ?_))))
  · rw [nI_ltI (by omega) (by omega)] at c
    simp [isD]; omega
  · rw [nI_ltI (by omega) (by omega)] at c2
    simp [isD]; omega
  · rw [nI_ltI (by omega) (by omega)] at c c2
    rw [show isD b = true by simp [isD]; omega] at kq
    exact kq
/-- tokens: from a place e on; where it starts, what it is (0 end, 1 word, 2 number, 3 sign, 4 none), where it ends, its number -/
def stk (n : Nat) (y : Nat → Nat) (e : Nat) : Nat := fnx (fun j => !(decide (y j = 32))) e (n - e)
def kdk (n : Nat) (y : Nat → Nat) (e : Nat) : Nat := if n ≤ stk n y e then 0 else if isL (y (stk n y e)) = true then 1 else if isD (y (stk n y e)) = true then 2 else if y (stk n y e) = 59 then 3 else 4
def enk (n : Nat) (y : Nat → Nat) (e : Nat) : Nat := if n ≤ stk n y e then stk n y e else if isL (y (stk n y e)) = true then fnx (fun j => !(isL (y j))) (stk n y e) (n - stk n y e) else if isD (y (stk n y e)) = true then fnx (fun j => !(isD (y j))) (stk n y e) (n - stk n y e) else stk n y e + 1
def dgs (y : Nat → Nat) (s : Nat) : Nat → Nat
  | 0 => 0
  | k + 1 => if 10000 < 10 * dgs y s k + y (s + k) - 48 then 10000 else 10 * dgs y s k + y (s + k) - 48
def vlk (n : Nat) (y : Nat → Nat) (e : Nat) : Nat := dgs y (stk n y e) (enk n y e - stk n y e)
theorem dgs_le (y : Nat → Nat) (s : Nat) : ∀ k, dgs y s k ≤ 10000
  | 0 => Nat.zero_le _
  | k + 1 => by unfold dgs; split <;> omega
theorem stk_le {n : Nat} {y : Nat → Nat} {e : Nat} (h : e ≤ n) : e ≤ stk n y e ∧ stk n y e ≤ n := by
  have := fnx_le (P := fun j => !(decide (y j = 32))) (d := n - e) (s := e)
  unfold stk
  omega
theorem enk_le {n : Nat} {y : Nat → Nat} {e : Nat} (h : e ≤ n) : stk n y e ≤ enk n y e ∧ enk n y e ≤ n := by
  have h1 := stk_le (y := y) h
  unfold enk
  split
  · omega
  · split
    · have := fnx_le (P := fun j => !(isL (y j))) (d := n - stk n y e) (s := stk n y e)
      omega
    · split
      · have := fnx_le (P := fun j => !(isD (y j))) (d := n - stk n y e) (s := stk n y e)
        omega
      · omega
theorem kdk_lt (n : Nat) (y : Nat → Nat) (e : Nat) : kdk n y e ≤ 4 := by
  unfold kdk
  split
  · omega
  · split
    · omega
    · split
      · omega
      · split <;> omega
theorem enk_gt {n : Nat} {y : Nat → Nat} {e : Nat} (h : e ≤ n) (hk : ¬ kdk n y e = 0) : stk n y e < enk n y e ∧ stk n y e < n := by
  have h1 := stk_le (y := y) h
  unfold kdk at hk
  by_cases q : n ≤ stk n y e
  · rw [if_pos q] at hk; exact absurd rfl hk
  · refine ⟨?_, by omega⟩
    unfold enk
    rw [if_neg q]
    have e9 : n - stk n y e = (n - stk n y e - 1) + 1 := by omega
    split
    · rename_i a
      rw [e9, fnx_no (by simp [a])]
      have := fnx_le (P := fun j => !(isL (y j))) (d := n - stk n y e - 1) (s := stk n y e + 1)
      omega
    · split
      · rename_i a
        rw [e9, fnx_no (by simp [a])]
        have := fnx_le (P := fun j => !(isD (y j))) (d := n - stk n y e - 1) (s := stk n y e + 1)
        omega
      · omega
/-- a number behind a number stands behind a space -/
theorem num_gap {n : Nat} {y : Nat → Nat} {e : Nat} (h : e ≤ n) (h1 : kdk n y e = 2) (h2 : kdk n y (enk n y e) = 2) : enk n y e + 2 ≤ enk n y (enk n y e) := by
  have a1 := enk_le (y := y) h
  have b1 := stk_le (y := y) a1.2
  have b2 := enk_gt (y := y) a1.2 (by rw [h2]; decide)
  rcases Nat.lt_or_ge (enk n y e) (stk n y (enk n y e)) with q | q
  · omega
  · exfalso
    have e1 : stk n y (enk n y e) = enk n y e := by omega
    have hd2 : isD (y (enk n y e)) = true := by
      unfold kdk at h2
      rw [e1] at h2
      rw [if_neg (by omega)] at h2
      split at h2
      · cases h2
      · split at h2
        · rename_i a; exact a
        · split at h2 <;> cases h2
    unfold kdk at h1
    have s1 : ¬ n ≤ stk n y e := fun w => by rw [if_pos w] at h1; cases h1
    rw [if_neg s1] at h1
    have s2 : ¬ isL (y (stk n y e)) = true := fun w => by rw [if_pos w] at h1; cases h1
    rw [if_neg s2] at h1
    have s3 : isD (y (stk n y e)) = true := by
      split at h1
      · rename_i a; exact a
      · split at h1 <;> cases h1
    have he : enk n y e = fnx (fun j => !(isD (y j))) (stk n y e) (n - stk n y e) := by
      unfold enk
      rw [if_neg s1, if_neg s2, if_pos s3]
    have := fnx_at (P := fun j => !(isD (y j))) (d := n - stk n y e) (s := stk n y e) (by rw [← he]; omega)
    rw [← he, hd2] at this
    cases this
def LX (n : Nat) (y : Nat → Nat) (e : Nat) (I : II) : Prop := I 45 4 = nI (stk n y e) ∧ I 45 5 = nI (enk n y e) ∧ I 45 6 = nI (kdk n y e) ∧ (kdk n y e = 2 → I 45 7 = nI (vlk n y e))
def TP (n : Nat) (y : Nat → Nat) (I : II) : Prop := I 45 3 = nI n ∧ n ≤ 120 ∧ ∀ j, j < n → I 61 j = nI (y j) ∧ y j < 256
def k45 (I I' : II) : Prop := (∀ q, q ≠ 45 → I' q = I q) ∧ I' 45 3 = I 45 3
theorem k45.rf (I : II) : k45 I I := ⟨fun _ _ => rfl, rfl⟩
theorem k45.tr {I I' I'' : II} (h1 : k45 I I') (h2 : k45 I' I'') : k45 I I'' := ⟨fun q hq => (h2.1 q hq).trans (h1.1 q hq), h2.2.trans h1.2⟩
theorem k45.TP {n : Nat} {y : Nat → Nat} {I I' : II} (h : k45 I I') (ht : TP n y I) : TP n y I' := ⟨h.2.trans ht.1, ht.2.1, fun j hj => by rw [h.1 61 (by decide)]; exact ht.2.2 j hj⟩
