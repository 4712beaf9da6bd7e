/-! LOCALS, by continuation, so that lists stay written out -/
def al_gL : List (Option Value) → Nat → (Value → Prop) → Prop
  | [], _, _ => False
  | none :: _, 0, _ => False
  | some v :: _, 0, k => k v
  | _ :: L, i + 1, k => al_gL L i k
/-- the slot ahead of a store: a long there is gone -/
def al_gd (a : Option Value) (i : Nat) (k : Option Value → Prop) : Prop := match i with
  | 0 => (match a with
    | none => k none
    | some (.long _) => k none
    | some (.double _) => k none
    | some v => k (some v))
  | _ + 1 => k a
def al_sL : List (Option Value) → Nat → Value → (List (Option Value) → Prop) → Prop
  | [], _, _, _ => False
  | _ :: L, 0, v, k => k (some v :: L)
  | a :: L, i + 1, v, k => al_gd a i (fun a' => al_sL L i v (fun L' => k (a' :: L')))
def al_sJ : List (Option Value) → Nat → Value → (List (Option Value) → Prop) → Prop
  | [], _, _, _ => False
  | _ :: _ :: L, 0, v, k => k (some v :: none :: L)
  | [_], 0, _, _ => False
  | a :: L, i + 1, v, k => al_gd a i (fun a' => al_sJ L i v (fun L' => k (a' :: L')))
def al_le : List (Option Value) → List (Option Value) → Prop
  | [], _ => True
  | none :: L', _ :: L => al_le L' L
  | none :: _, [] => False
  | some v :: L', w :: L => w = some v ∧ al_le L' L
  | some _ :: _, [] => False
def al_cs : List Value → Nat
  | [] => 0
  | .long _ :: r => 2 + al_cs r
  | .double _ :: r => 2 + al_cs r
  | _ :: r => 1 + al_cs r
def al_r8 (r : List Value) (P : Prop) : Prop := match Nat.ble (al_cs r) 8 with
  | true => P
  | false => False
def al_pop : Nat → List Value → List Value → (List Value → List Value → Prop) → Prop
  | 0, st, acc, k => k acc st
  | m + 1, v :: st, acc, k => al_pop m st (v :: acc) k
  | _ + 1, [], _, _ => False
def al_Wd0 (t : TH) (U : State) (H : Heap) : Prop := va_K (th_D t) vwCl (al_tys t) U
/-! OPERATIONS: each turns 'what must hold behind it' into 'what must hold ahead of it' -/
def o_iload (i : Nat) (k : KT) : KT := fun L st n R I J => al_gL L i (fun v => match v with
  | .int x => k L (.int x :: st) n R I J
  | _ => False)
def o_lload (i : Nat) (k : KT) : KT := fun L st n R I J => al_gL L i (fun v => match v with
  | .long x => k L (.long x :: st) n R I J
  | _ => False)
def o_aload (i : Nat) (k : KT) : KT := fun L st n R I J => al_gL L i (fun v => match v with
  | .ref x => k L (.ref x :: st) n R I J
  | _ => False)
def o_istore (i : Nat) (k : KT) : KT := fun L st n R I J => match st with
  | .int x :: r => al_sL L i (.int x) (fun L' => k L' r n R I J)
  | _ => False
def o_astore (i : Nat) (k : KT) : KT := fun L st n R I J => match st with
  | .ref x :: r => al_sL L i (.ref x) (fun L' => k L' r n R I J)
  | _ => False
def o_lstore (i : Nat) (k : KT) : KT := fun L st n R I J => match st with
  | .long x :: r => al_sJ L i (.long x) (fun L' => k L' r n R I J)
  | _ => False
def o_iinc (i : Nat) (d : Int32) (k : KT) : KT := fun L st n R I J => al_gL L i (fun v => match v with
  | .int x => al_sL L i (.int (x + d)) (fun L' => k L' st n R I J)
  | _ => False)
def o_ic (v : Int32) (k : KT) : KT := fun L st n R I J => k L (.int v :: st) n R I J
def o_lc (v : Int64) (k : KT) : KT := fun L st n R I J => k L (.long v :: st) n R I J
def o_sc (j : Nat) (k : KT) : KT := fun L st n R I J => k L (.ref (2000 + j) :: st) n R I J
def o_iadd (k : KT) : KT := fun L st n R I J => match st with
  | .int y :: .int x :: r => k L (.int (x + y) :: r) n R I J
  | _ => False
def o_isub (k : KT) : KT := fun L st n R I J => match st with
  | .int y :: .int x :: r => k L (.int (x - y) :: r) n R I J
  | _ => False
def o_imul (k : KT) : KT := fun L st n R I J => match st with
  | .int y :: .int x :: r => k L (.int (x * y) :: r) n R I J
  | _ => False
def o_iand (k : KT) : KT := fun L st n R I J => match st with
  | .int y :: .int x :: r => k L (.int (x &&& y) :: r) n R I J
  | _ => False
def o_ior (k : KT) : KT := fun L st n R I J => match st with
  | .int y :: .int x :: r => k L (.int (x ||| y) :: r) n R I J
  | _ => False
def o_ixor (k : KT) : KT := fun L st n R I J => match st with
  | .int y :: .int x :: r => k L (.int (x ^^^ y) :: r) n R I J
  | _ => False
def o_ishl (k : KT) : KT := fun L st n R I J => match st with
  | .int y :: .int x :: r => k L (.int (x <<< (y &&& 31)) :: r) n R I J
  | _ => False
def o_ishr (k : KT) : KT := fun L st n R I J => match st with
  | .int y :: .int x :: r => k L (.int (x >>> (y &&& 31)) :: r) n R I J
  | _ => False
def o_iushr (k : KT) : KT := fun L st n R I J => match st with
  | .int y :: .int x :: r => k L (.int ((x.toUInt32 >>> (y.toUInt32 &&& Int32.toUInt32 31)).toInt32) :: r) n R I J
  | _ => False
def o_ineg (k : KT) : KT := fun L st n R I J => match st with
  | .int x :: r => k L (.int (-x) :: r) n R I J
  | _ => False
def o_i2b (k : KT) : KT := fun L st n R I J => match st with
  | .int x :: r => k L (.int (x.toInt8.toInt32) :: r) n R I J
  | _ => False
def o_i2s (k : KT) : KT := fun L st n R I J => match st with
  | .int x :: r => k L (.int (x.toInt16.toInt32) :: r) n R I J
  | _ => False
def o_i2c (k : KT) : KT := fun L st n R I J => match st with
  | .int x :: r => k L (.int ((x.toUInt32 % 65536).toInt32) :: r) n R I J
  | _ => False
def o_ladd (k : KT) : KT := fun L st n R I J => match st with
  | .long y :: .long x :: r => k L (.long (x + y) :: r) n R I J
  | _ => False
def o_lsub (k : KT) : KT := fun L st n R I J => match st with
  | .long y :: .long x :: r => k L (.long (x - y) :: r) n R I J
  | _ => False
def o_land (k : KT) : KT := fun L st n R I J => match st with
  | .long y :: .long x :: r => k L (.long (x &&& y) :: r) n R I J
  | _ => False
def o_lor (k : KT) : KT := fun L st n R I J => match st with
  | .long y :: .long x :: r => k L (.long (x ||| y) :: r) n R I J
  | _ => False
def o_lxor (k : KT) : KT := fun L st n R I J => match st with
  | .long y :: .long x :: r => k L (.long (x ^^^ y) :: r) n R I J
  | _ => False
def o_lshl (k : KT) : KT := fun L st n R I J => match st with
  | .int y :: .long x :: r => k L (.long (x <<< (y.toInt64 &&& 63)) :: r) n R I J
  | _ => False
def o_lshr (k : KT) : KT := fun L st n R I J => match st with
  | .int y :: .long x :: r => k L (.long (x >>> (y.toInt64 &&& 63)) :: r) n R I J
  | _ => False
def o_lushr (k : KT) : KT := fun L st n R I J => match st with
  | .int y :: .long x :: r => k L (.long ((x.toUInt64 >>> (y.toInt64.toUInt64 &&& Int64.toUInt64 63)).toInt64) :: r) n R I J
  | _ => False
def o_idiv (k : KT) : KT := fun L st n R I J => match st with
  | .int y :: .int x :: r => (¬ y = 0) ∧ k L (.int (x / y) :: r) n R I J
  | _ => False
def o_irem (k : KT) : KT := fun L st n R I J => match st with
  | .int y :: .int x :: r => (¬ y = 0) ∧ k L (.int (x - x / y * y) :: r) n R I J
  | _ => False
def o_i2l (k : KT) : KT := fun L st n R I J => match st with
  | .int x :: r => k L (.long x.toInt64 :: r) n R I J
  | _ => False
def o_l2i (k : KT) : KT := fun L st n R I J => match st with
  | .long x :: r => k L (.int x.toInt32 :: r) n R I J
  | _ => False
def o_lcmp (k : KT) : KT := fun L st n R I J => match st with
  | .long y :: .long x :: r => k L (.int (lg_cmp x y) :: r) n R I J
  | _ => False
def o_dup (k : KT) : KT := fun L st n R I J => match st with
  | .int x :: r => k L (.int x :: .int x :: r) n R I J
  | .ref x :: r => k L (.ref x :: .ref x :: r) n R I J
  | _ => False
def o_dup2 (k : KT) : KT := fun L st n R I J => match st with
  | .int x :: .ref y :: r => k L (.int x :: .ref y :: .int x :: .ref y :: r) n R I J
  | _ => False
def o_pop (k : KT) : KT := fun L st n R I J => match st with
  | .int _ :: r => k L r n R I J
  | _ => False
def o_ifeq (kt k : KT) : KT := fun L st n R I J => match st with
  | .int x :: r => (x = 0 → kt L r n R I J) ∧ (¬ x = 0 → k L r n R I J)
  | _ => False
def o_ifne (kt k : KT) : KT := fun L st n R I J => match st with
  | .int x :: r => (¬ x = 0 → kt L r n R I J) ∧ (x = 0 → k L r n R I J)
  | _ => False
def o_iflt (kt k : KT) : KT := fun L st n R I J => match st with
  | .int x :: r => (x < 0 → kt L r n R I J) ∧ (¬ x < 0 → k L r n R I J)
  | _ => False
def o_ifge (kt k : KT) : KT := fun L st n R I J => match st with
  | .int x :: r => (0 ≤ x → kt L r n R I J) ∧ (¬ 0 ≤ x → k L r n R I J)
  | _ => False
def o_ifgt (kt k : KT) : KT := fun L st n R I J => match st with
  | .int x :: r => (0 < x → kt L r n R I J) ∧ (¬ 0 < x → k L r n R I J)
  | _ => False
def o_ifle (kt k : KT) : KT := fun L st n R I J => match st with
  | .int x :: r => (x ≤ 0 → kt L r n R I J) ∧ (¬ x ≤ 0 → k L r n R I J)
  | _ => False
def o_iceq (kt k : KT) : KT := fun L st n R I J => match st with
  | .int y :: .int x :: r => (x = y → kt L r n R I J) ∧ (¬ x = y → k L r n R I J)
  | _ => False
def o_icne (kt k : KT) : KT := fun L st n R I J => match st with
  | .int y :: .int x :: r => (¬ x = y → kt L r n R I J) ∧ (x = y → k L r n R I J)
  | _ => False
def o_iclt (kt k : KT) : KT := fun L st n R I J => match st with
  | .int y :: .int x :: r => (x < y → kt L r n R I J) ∧ (¬ x < y → k L r n R I J)
  | _ => False
def o_icge (kt k : KT) : KT := fun L st n R I J => match st with
  | .int y :: .int x :: r => (y ≤ x → kt L r n R I J) ∧ (¬ y ≤ x → k L r n R I J)
  | _ => False
def o_icgt (kt k : KT) : KT := fun L st n R I J => match st with
  | .int y :: .int x :: r => (y < x → kt L r n R I J) ∧ (¬ y < x → k L r n R I J)
  | _ => False
def o_icle (kt k : KT) : KT := fun L st n R I J => match st with
  | .int y :: .int x :: r => (x ≤ y → kt L r n R I J) ∧ (¬ x ≤ y → k L r n R I J)
  | _ => False
def o_tsw : Int32 → List KT → KT → KT
  | _, [], d => fun L st n R I J => match st with
    | .int _ :: r => d L r n R I J
    | _ => False
  | a, k0 :: ks, d => fun L st n R I J => match st with
    | .int x :: r => (x = a → k0 L r n R I J) ∧ (¬ x = a → o_tsw (a + 1) ks d L (.int x :: r) n R I J)
    | _ => False
def o_getI (ci j : Nat) (k : KT) : KT := fun L st n R I J => match st with
  | .ref p :: r => al_isC n p ci (k L (.int (I p j) :: r) n R I J)
  | _ => False
def o_getJ (ci j : Nat) (k : KT) : KT := fun L st n R I J => match st with
  | .ref p :: r => al_isC n p ci (k L (.long (J p j) :: r) n R I J)
  | _ => False
def al_rk (v : Option Nat) (k : Nat → Prop) : Prop := match v with
  | some q => k q
  | none => False
def o_getR (ci j : Nat) (k : KT) : KT := fun L st n R I J => match st with
  | .ref p :: r => al_isC n p ci (al_rk (R p j) (fun q => k L (.ref q :: r) n R I J))
  | _ => False
def o_putI (ci j : Nat) (k : KT) : KT := fun L st n R I J => match st with
  | .int v :: .ref p :: r => al_isC n p ci (k L r n R (al_up I p j v) J)
  | _ => False
def o_putZ (ci j : Nat) (k : KT) : KT := fun L st n R I J => match st with
  | .int v :: .ref p :: r => al_isC n p ci ((v = 0 ∨ v = 1) ∧ k L r n R (al_up I p j v) J)
  | _ => False
def o_putJ (ci j : Nat) (k : KT) : KT := fun L st n R I J => match st with
  | .long v :: .ref p :: r => al_isC n p ci (k L r n R I (al_up J p j v))
  | _ => False
def o_putR (ci j : Nat) (k : KT) : KT := fun L st n R I J => match st with
  | .ref q :: .ref p :: r => al_isC n p ci (k L r n (al_up R p j (some q)) I J)
  | _ => False
def o_iald (k : KT) : KT := fun L st n R I J => match st with
  | .int i :: .ref p :: r => al_isA n p 0 (fun len => ∃ j : Nat, j < len ∧ i = nI j ∧ k L (.int (I p j) :: r) n R I J)
  | _ => False
def o_zald (k : KT) : KT := fun L st n R I J => match st with
  | .int i :: .ref p :: r => al_isA n p 2 (fun len => ∃ j : Nat, j < len ∧ i = nI j ∧ k L (.int (I p j) :: r) n R I J)
  | _ => False
def o_lald (k : KT) : KT := fun L st n R I J => match st with
  | .int i :: .ref p :: r => al_isA n p 1 (fun len => ∃ j : Nat, j < len ∧ i = nI j ∧ k L (.long (J p j) :: r) n R I J)
  | _ => False
def o_aald (ak : Nat) (k : KT) : KT := fun L st n R I J => match st with
  | .int i :: .ref p :: r => al_isA n p ak (fun len => ∃ j : Nat, j < len ∧ i = nI j ∧ al_rk (R p j) (fun q => k L (.ref q :: r) n R I J))
  | _ => False
def o_iast (k : KT) : KT := fun L st n R I J => match st with
  | .int v :: .int i :: .ref p :: r => al_isA n p 0 (fun len => ∃ j : Nat, j < len ∧ i = nI j ∧ k L r n R (al_up I p j v) J)
  | _ => False
def o_zast (k : KT) : KT := fun L st n R I J => match st with
  | .int v :: .int i :: .ref p :: r => al_isA n p 2 (fun len => ∃ j : Nat, j < len ∧ i = nI j ∧ (v = 0 ∨ v = 1) ∧ k L r n R (al_up I p j v) J)
  | _ => False
def o_last (k : KT) : KT := fun L st n R I J => match st with
  | .long v :: .int i :: .ref p :: r => al_isA n p 1 (fun len => ∃ j : Nat, j < len ∧ i = nI j ∧ k L r n R I (al_up J p j v))
  | _ => False
def o_aast (ak ci : Nat) (k : KT) : KT := fun L st n R I J => match st with
  | .ref q :: .int i :: .ref p :: r => al_isA n p ak (fun len => ∃ j : Nat, j < len ∧ i = nI j ∧ al_isC n q ci (k L r n (al_up R p j (some q)) I J))
  | _ => False
def al_st (q : Nat) : Prop := 2000 ≤ q ∧ q < 2013
def o_sast (k : KT) : KT := fun L st n R I J => match st with
  | .ref q :: .int i :: .ref p :: r => al_isA n p 6 (fun len => ∃ j : Nat, j < len ∧ i = nI j ∧ al_st q ∧ k L r n (al_up R p j (some q)) I J)
  | _ => False
def o_alen (ak : Nat) (k : KT) : KT := fun L st n R I J => match st with
  | .ref p :: r => al_isA n p ak (fun len => k L (.int (nI len) :: r) n R I J)
  | _ => False
def o_slen (LS : Nat) (k : KT) : KT := fun L st n R I J => match st with
  | .ref p :: r => p = 1000 ∧ k L (.int (nI LS) :: r) n R I J
  | _ => False
def o_sld (LS : Nat) (xs : Nat → Int32) (k : KT) : KT := fun L st n R I J => match st with
  | .int i :: .ref p :: r => p = 1000 ∧ ∃ j : Nat, j < LS ∧ i = nI j ∧ k L (.int (xs j) :: r) n R I J
  | _ => False
def al_new (n ci : Nat) (R : RR) (I : II) (J : JJ) : Prop := al_sk n = .inl ci ∧ (∀ j, R n j = none) ∧ (∀ j, I n j = 0) ∧ ∀ j, J n j = 0
def o_new (ne ci : Nat) (k : KT) : KT := fun L st n R I J => n < ne ∧ al_new n ci R I J ∧ k L (.ref n :: st) (n + 1) R I J
def o_newa (ne ak len : Nat) (k : KT) : KT := fun L st n R I J => match st with
  | .int x :: r => x = nI len ∧ n < ne ∧ al_sk n = .inr (ak, len) ∧ ((∀ j, R n j = none) ∧ (∀ j, I n j = 0) ∧ ∀ j, J n j = 0) ∧ k L (.ref n :: r) (n + 1) R I J
  | _ => False
def o_oinit (k : KT) : KT := fun L st n R I J => match st with
  | .ref _ :: r => al_r8 r (k L r n R I J)
  | _ => False
def o_mmax (k : KT) : KT := fun L st n R I J => match st with
  | .int y :: .int x :: r => al_r8 r (k L (.int (if x < y then y else x) :: r) n R I J)
  | _ => False
def o_mmin (k : KT) : KT := fun L st n R I J => match st with
  | .int y :: .int x :: r => al_r8 r (k L (.int (if y < x then y else x) :: r) n R I J)
  | _ => False
def o_mabs (k : KT) : KT := fun L st n R I J => match st with
  | .int x :: r => al_r8 r (k L (.int (if 0 ≤ x then x else 0 - x) :: r) n R I J)
  | _ => False
def al_cpy {α : Type} (f : Nat → Nat → α) (p q sp dp n : Nat) : Nat → Nat → α := fun a j => if a = q then (if dp ≤ j ∧ j < dp + n then f p (sp + (j - dp)) else f a j) else f a j
def o_cpyI (k : KT) : KT := fun L st n R I J => match st with
  | .int c :: .int dp :: .ref q :: .int sp :: .ref p :: r => al_r8 r (al_isA n p 0 (fun len => al_isA n q 0 (fun len2 => ∃ c' dp' sp' : Nat, c = nI c' ∧ dp = nI dp' ∧ sp = nI sp' ∧ sp' + c' ≤ len ∧ dp' + c' ≤ len2 ∧ k L r n R (al_cpy I p q sp' dp' c') J)))
  | _ => False
def o_cpyJ (k : KT) : KT := fun L st n R I J => match st with
  | .int c :: .int dp :: .ref q :: .int sp :: .ref p :: r => al_r8 r (al_isA n p 1 (fun len => al_isA n q 1 (fun len2 => ∃ c' dp' sp' : Nat, c = nI c' ∧ dp = nI dp' ∧ sp = nI sp' ∧ sp' + c' ≤ len ∧ dp' + c' ≤ len2 ∧ k L r n R I (al_cpy J p q sp' dp' c'))))
  | _ => False
def o_iret (Q : QT) : KT := fun _ st n R I J => match st with
  | [.int v] => Q (some (.int v)) n R I J
  | _ => False
def o_zret (Q : QT) : KT := fun _ st n R I J => match st with
  | [.int v] => (v = 0 ∨ v = 1) ∧ Q (some (.int v)) n R I J
  | _ => False
def o_lret (Q : QT) : KT := fun _ st n R I J => match st with
  | [.long v] => Q (some (.long v)) n R I J
  | _ => False
def o_aret (Q : QT) : KT := fun _ st n R I J => match st with
  | [.ref v] => Q (some (.ref v)) n R I J
  | _ => False
def o_vret (Q : QT) : KT := fun _ st n R I J => match st with
  | [] => Q none n R I J
  | _ => False
def o_cret (ne : Nat) (Q : QT) : KT := fun _ st n R I J => match st with
  | [] => n = ne ∧ Q none n R I J
  | _ => False
