/-! ===== level 2: bits (begun from the kit's rows to paste, BITS) ===== -/
def bt (x : Int32) (i : Nat) : Bool := x.toBitVec.getLsbD i
theorem b_ext {x y : Int32} (h : ∀ i, i < 32 → bt x i = bt y i) : x = y := Int32.toBitVec_inj.mp (BitVec.eq_of_getLsbD_eq (fun i hi => h i hi))
theorem b_or (x y : Int32) (i : Nat) : bt (x ||| y) i = (bt x i || bt y i) := by unfold bt; rw [Int32.toBitVec_or, BitVec.getLsbD_or]
theorem b_and (x y : Int32) (i : Nat) : bt (x &&& y) i = (bt x i && bt y i) := by unfold bt; rw [Int32.toBitVec_and, BitVec.getLsbD_and]
theorem b_xor (x y : Int32) (i : Nat) : bt (x ^^^ y) i = (bt x i ^^ bt y i) := by unfold bt; rw [Int32.toBitVec_xor, BitVec.getLsbD_xor]
theorem b_m1 : ∀ i, i < 32 → bt (-1) i = true := by decide +kernel
theorem b_0 (i : Nat) : bt 0 i = false := BitVec.getLsbD_zero
theorem b_1 : ∀ i, i < 32 → bt 1 i = decide (i = 0) := by decide +kernel
theorem s_l : ∀ n, n < 32 → ((nZ n &&& 31).toBitVec.smod 32).toNat = n := by decide +kernel
theorem b_shl (n : Nat) (hn : n < 32) (x : Int32) {i : Nat} (hi : i < 32) : bt (x <<< (nZ n &&& 31)) i = (decide (n ≤ i) && bt x (i - n)) := by
  unfold bt
  rw [Int32.toBitVec_shiftLeft]
  show (x.toBitVec <<< ((nZ n &&& 31).toBitVec.smod 32).toNat).getLsbD i = _
  rw [s_l n hn, BitVec.getLsbD_shiftLeft]
  rcases Nat.lt_or_ge i n with h | h
  · simp [h, Nat.not_le.mpr h]
  · simp [hi, h, Nat.not_lt.mpr h]
theorem b_sshr (n : Nat) (hn : n < 32) (x : Int32) {i : Nat} (hi : i < 32) : bt (x >>> (nZ n &&& 31)) i = if n + i < 32 then bt x (n + i) else bt x 31 := by
  unfold bt
  rw [Int32.toBitVec_shiftRight]
  show (x.toBitVec.sshiftRight ((nZ n &&& 31).toBitVec.smod 32).toNat).getLsbD i = _
  rw [s_l n hn, BitVec.getLsbD_sshiftRight, BitVec.msb_eq_getLsbD_last]
  simp [hi]
theorem and_1 (x : Int32) : (x &&& 1 = 0) ↔ bt x 0 = false := by
  constructor
  · intro h
    have := b_and x 1 0
    rw [h, b_0, b_1 0 (by omega)] at this
    simpa using this.symm
  · intro h
    refine b_ext fun i hi => ?_
    rw [b_and, b_0, b_1 i hi]
    by_cases z : i = 0
    · rw [z, h]
      rfl
    · simp [z]
/-- a bit is asked for -/
theorem tb0 {x : Int32} {i : Nat} (hi : i < 32) : (((x >>> (nZ i &&& 31)) &&& 1) = 0) ↔ bt x i = false := by
  rw [and_1, b_sshr i hi x (by omega : 0 < 32), Nat.add_zero, if_pos hi]
/-- a bit is set -/
theorem tb1 {x : Int32} {i j : Nat} (hi : i < 32) (hj : j < 32) : bt (x ||| ((1 : Int32) <<< (nZ i &&& 31))) j = (bt x j || decide (j = i)) := by
  rw [b_or, b_shl i hi 1 hj]
  by_cases z : i ≤ j
  · rw [b_1 (j - i) (by omega)]
    have : (j - i = 0) ↔ (j = i) := by omega
    simp [z, this]
  · have : ¬ j = i := by omega
    simp [z, this]
/-- bits are taken away -/
theorem tbn {x y : Int32} {j : Nat} (hj : j < 32) : bt (x &&& (y ^^^ (-1))) j = (bt x j && !bt y j) := by
  rw [b_and, b_xor, b_m1 j hj]
  cases bt x j <;> cases bt y j <;> rfl
