/-! PLOTS -/
def wst (s : Int32) (r : Nat) (w : Int32) : Int32 := w ||| (((s >>> ((nI 4 * nI r) &&& 31)) &&& nI 15) <<< ((nI 5 * nI r) &&& 31))
def wdI (s : Int32) : Int32 := wst s 2 (wst s 1 (wst s 0 (nI 0)))
def coI (w : Int32) : Int32 := (((w ^^^ (w <<< (nI 1 &&& 31))) ^^^ (w <<< (nI 5 &&& 31))) ^^^ (w <<< (nI 6 &&& 31))) ||| (((w ^^^ (w <<< (nI 1 &&& 31))) &&& ((w ^^^ (w <<< (nI 6 &&& 31))) ^^^ (-1))) &&& (((w <<< (nI 1 &&& 31)) ^^^ (w <<< (nI 5 &&& 31))) ^^^ (-1)))
def hgs (w r : Int32) : Int32 := r ||| (((((r <<< (nI 1 &&& 31)) ||| (r >>> (nI 1 &&& 31))) ||| (r <<< (nI 5 &&& 31))) ||| (r >>> (nI 5 &&& 31))) &&& w)
def hgi (w : Int32) : Nat → Int32
  | 0 => w &&& (-w)
  | k + 1 => hgs w (hgi w k)
def plq (s : Nat) : Bool := decide (pcn 4 (uI (coI (wdI (nI s)))) = pcor s) && (decide (s = 0) || (decide (hgi (wdI (nI s)) 12 = wdI (nI s)) == phg s))
def pla (a : Nat) : Prop := ∀ b, b < 64 → plq (64 * a + b) = true
theorem pl_0 : ∀ b, b < 64 → plq (64 * 0 + b) = true := by decide +kernel
theorem pl_1 : ∀ b, b < 64 → plq (64 * 1 + b) = true := by decide +kernel
theorem pl_2 : ∀ b, b < 64 → plq (64 * 2 + b) = true := by decide +kernel
theorem pl_3 : ∀ b, b < 64 → plq (64 * 3 + b) = true := by decide +kernel
theorem pl_4 : ∀ b, b < 64 → plq (64 * 4 + b) = true := by decide +kernel
theorem pl_5 : ∀ b, b < 64 → plq (64 * 5 + b) = true := by decide +kernel
theorem pl_6 : ∀ b, b < 64 → plq (64 * 6 + b) = true := by decide +kernel
theorem pl_7 : ∀ b, b < 64 → plq (64 * 7 + b) = true := by decide +kernel
theorem pl_8 : ∀ b, b < 64 → plq (64 * 8 + b) = true := by decide +kernel
theorem pl_9 : ∀ b, b < 64 → plq (64 * 9 + b) = true := by decide +kernel
theorem pl_10 : ∀ b, b < 64 → plq (64 * 10 + b) = true := by decide +kernel
theorem pl_11 : ∀ b, b < 64 → plq (64 * 11 + b) = true := by decide +kernel
theorem pl_12 : ∀ b, b < 64 → plq (64 * 12 + b) = true := by decide +kernel
theorem pl_13 : ∀ b, b < 64 → plq (64 * 13 + b) = true := by decide +kernel
theorem pl_14 : ∀ b, b < 64 → plq (64 * 14 + b) = true := by decide +kernel
theorem pl_15 : ∀ b, b < 64 → plq (64 * 15 + b) = true := by decide +kernel
theorem pl_16 : ∀ b, b < 64 → plq (64 * 16 + b) = true := by decide +kernel
theorem pl_17 : ∀ b, b < 64 → plq (64 * 17 + b) = true := by decide +kernel
theorem pl_18 : ∀ b, b < 64 → plq (64 * 18 + b) = true := by decide +kernel
theorem pl_19 : ∀ b, b < 64 → plq (64 * 19 + b) = true := by decide +kernel
theorem pl_20 : ∀ b, b < 64 → plq (64 * 20 + b) = true := by decide +kernel
theorem pl_21 : ∀ b, b < 64 → plq (64 * 21 + b) = true := by decide +kernel
theorem pl_22 : ∀ b, b < 64 → plq (64 * 22 + b) = true := by decide +kernel
theorem pl_23 : ∀ b, b < 64 → plq (64 * 23 + b) = true := by decide +kernel
theorem pl_24 : ∀ b, b < 64 → plq (64 * 24 + b) = true := by decide +kernel
theorem pl_25 : ∀ b, b < 64 → plq (64 * 25 + b) = true := by decide +kernel
theorem pl_26 : ∀ b, b < 64 → plq (64 * 26 + b) = true := by decide +kernel
theorem pl_27 : ∀ b, b < 64 → plq (64 * 27 + b) = true := by decide +kernel
theorem pl_28 : ∀ b, b < 64 → plq (64 * 28 + b) = true := by decide +kernel
theorem pl_29 : ∀ b, b < 64 → plq (64 * 29 + b) = true := by decide +kernel
theorem pl_30 : ∀ b, b < 64 → plq (64 * 30 + b) = true := by decide +kernel
theorem pl_31 : ∀ b, b < 64 → plq (64 * 31 + b) = true := by decide +kernel
theorem pl_32 : ∀ b, b < 64 → plq (64 * 32 + b) = true := by decide +kernel
theorem pl_33 : ∀ b, b < 64 → plq (64 * 33 + b) = true := by decide +kernel
theorem pl_34 : ∀ b, b < 64 → plq (64 * 34 + b) = true := by decide +kernel
theorem pl_35 : ∀ b, b < 64 → plq (64 * 35 + b) = true := by decide +kernel
theorem pl_36 : ∀ b, b < 64 → plq (64 * 36 + b) = true := by decide +kernel
theorem pl_37 : ∀ b, b < 64 → plq (64 * 37 + b) = true := by decide +kernel
theorem pl_38 : ∀ b, b < 64 → plq (64 * 38 + b) = true := by decide +kernel
theorem pl_39 : ∀ b, b < 64 → plq (64 * 39 + b) = true := by decide +kernel
theorem pl_40 : ∀ b, b < 64 → plq (64 * 40 + b) = true := by decide +kernel
theorem pl_41 : ∀ b, b < 64 → plq (64 * 41 + b) = true := by decide +kernel
theorem pl_42 : ∀ b, b < 64 → plq (64 * 42 + b) = true := by decide +kernel
theorem pl_43 : ∀ b, b < 64 → plq (64 * 43 + b) = true := by decide +kernel
theorem pl_44 : ∀ b, b < 64 → plq (64 * 44 + b) = true := by decide +kernel
theorem pl_45 : ∀ b, b < 64 → plq (64 * 45 + b) = true := by decide +kernel
theorem pl_46 : ∀ b, b < 64 → plq (64 * 46 + b) = true := by decide +kernel
theorem pl_47 : ∀ b, b < 64 → plq (64 * 47 + b) = true := by decide +kernel
theorem pl_48 : ∀ b, b < 64 → plq (64 * 48 + b) = true := by decide +kernel
theorem pl_49 : ∀ b, b < 64 → plq (64 * 49 + b) = true := by decide +kernel
theorem pl_50 : ∀ b, b < 64 → plq (64 * 50 + b) = true := by decide +kernel
theorem pl_51 : ∀ b, b < 64 → plq (64 * 51 + b) = true := by decide +kernel
theorem pl_52 : ∀ b, b < 64 → plq (64 * 52 + b) = true := by decide +kernel
theorem pl_53 : ∀ b, b < 64 → plq (64 * 53 + b) = true := by decide +kernel
theorem pl_54 : ∀ b, b < 64 → plq (64 * 54 + b) = true := by decide +kernel
theorem pl_55 : ∀ b, b < 64 → plq (64 * 55 + b) = true := by decide +kernel
theorem pl_56 : ∀ b, b < 64 → plq (64 * 56 + b) = true := by decide +kernel
theorem pl_57 : ∀ b, b < 64 → plq (64 * 57 + b) = true := by decide +kernel
theorem pl_58 : ∀ b, b < 64 → plq (64 * 58 + b) = true := by decide +kernel
theorem pl_59 : ∀ b, b < 64 → plq (64 * 59 + b) = true := by decide +kernel
theorem pl_60 : ∀ b, b < 64 → plq (64 * 60 + b) = true := by decide +kernel
theorem pl_61 : ∀ b, b < 64 → plq (64 * 61 + b) = true := by decide +kernel
theorem pl_62 : ∀ b, b < 64 → plq (64 * 62 + b) = true := by decide +kernel
theorem pl_63 : ∀ b, b < 64 → plq (64 * 63 + b) = true := by decide +kernel
theorem pl_all : ∀ a, a < 64 → pla a
  | 0, _ => pl_0
  | 1, _ => pl_1
  | 2, _ => pl_2
  | 3, _ => pl_3
  | 4, _ => pl_4
  | 5, _ => pl_5
  | 6, _ => pl_6
  | 7, _ => pl_7
  | 8, _ => pl_8
  | 9, _ => pl_9
  | 10, _ => pl_10
  | 11, _ => pl_11
  | 12, _ => pl_12
  | 13, _ => pl_13
  | 14, _ => pl_14
  | 15, _ => pl_15
  | 16, _ => pl_16
  | 17, _ => pl_17
  | 18, _ => pl_18
  | 19, _ => pl_19
  | 20, _ => pl_20
  | 21, _ => pl_21
  | 22, _ => pl_22
  | 23, _ => pl_23
  | 24, _ => pl_24
  | 25, _ => pl_25
  | 26, _ => pl_26
  | 27, _ => pl_27
  | 28, _ => pl_28
  | 29, _ => pl_29
  | 30, _ => pl_30
  | 31, _ => pl_31
  | 32, _ => pl_32
  | 33, _ => pl_33
  | 34, _ => pl_34
  | 35, _ => pl_35
  | 36, _ => pl_36
  | 37, _ => pl_37
  | 38, _ => pl_38
  | 39, _ => pl_39
  | 40, _ => pl_40
  | 41, _ => pl_41
  | 42, _ => pl_42
  | 43, _ => pl_43
  | 44, _ => pl_44
  | 45, _ => pl_45
  | 46, _ => pl_46
  | 47, _ => pl_47
  | 48, _ => pl_48
  | 49, _ => pl_49
  | 50, _ => pl_50
  | 51, _ => pl_51
  | 52, _ => pl_52
  | 53, _ => pl_53
  | 54, _ => pl_54
  | 55, _ => pl_55
  | 56, _ => pl_56
  | 57, _ => pl_57
  | 58, _ => pl_58
  | 59, _ => pl_59
  | 60, _ => pl_60
  | 61, _ => pl_61
  | 62, _ => pl_62
  | 63, _ => pl_63
  | a + 64, h => absurd h (by omega)
theorem pl_at {s : Nat} (hs : s < 4096) : pcn 4 (uI (coI (wdI (nI s)))) = pcor s ∧ (0 < s → decide (hgi (wdI (nI s)) 12 = wdI (nI s)) = phg s) := by
  have h := pl_all (s / 64) (by omega) (s % 64) (by omega)
  rw [show 64 * (s / 64) + s % 64 = s by omega] at h
  unfold plq at h
  rw [Bool.and_eq_true, Bool.or_eq_true] at h
  refine ⟨of_decide_eq_true h.1, fun h0 => ?_⟩
  rcases h.2 with q | q
  · have := of_decide_eq_true q
    omega
  · exact eq_of_beq q
