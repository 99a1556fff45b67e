/-! ===== level 2: the church: what is in the way, what is heard ===== -/
theorem n31 : ((31 : Int32) &&& 31) = 31 := by decide
theorem sg_a (x : Int32) : (x >>> ((31 : Int32) &&& 31)) = if x.toInt < 0 then -1 else 0 := by
  have h := pk_shr x 31 31 (by decide)
  have b := i32_b x
  rw [n31]
  have e : x.toInt >>> 31 = x.toInt / 2147483648 := Int.shiftRight_eq_div_pow x.toInt 31
  by_cases q : x.toInt < 0
  · rw [if_pos q]
    refine i32_eq.mpr ?_
    rw [h, e, n1]
    omega
  · rw [if_neg q]
    refine i32_eq.mpr ?_
    rw [h, e, z0]
    omega
theorem sg_b (y : Int32) : (y.toUInt32 >>> ((31 : Int32).toUInt32 &&& Int32.toUInt32 31)).toInt32 = if y.toInt < 0 then 1 else 0 := by
  have h := pk_ushr y 31 31 (by decide)
  have b := i32_b y
  have e : y.toInt = y.toBitVec.toInt := rfl
  have e2 := BitVec.toInt_eq_toNat_cond y.toBitVec
  have e3 := y.toBitVec.isLt
  by_cases q : y.toInt < 0
  · rw [if_pos q]
    refine Int32.toBitVec_inj.mp (BitVec.eq_of_toNat_eq ?_)
    rw [h, show (1 : Int32).toBitVec.toNat = 1 by decide]
    rw [e] at q
    split at e2 <;> omega
  · rw [if_neg q]
    refine Int32.toBitVec_inj.mp (BitVec.eq_of_toNat_eq ?_)
    rw [h, show (0 : Int32).toBitVec.toNat = 0 by decide]
    rw [e] at q
    split at e2 <;> omega
theorem neg32 {x : Int32} (h1 : -2147483648 < x.toInt) : (-x).toInt = -x.toInt := by
  have b := i32_b x
  rw [Int32.toInt_neg]
  exact Int.bmod_eq_of_le (by omega) (by omega)
theorem sgI_t {x : Int32} (h1 : -2147483648 < x.toInt) : sgI x = if 0 < x.toInt then 1 else if x.toInt = 0 then 0 else -1 := by
  unfold sgI
  rw [sg_a, sg_b, neg32 h1]
  by_cases q : 0 < x.toInt
  · rw [if_pos q, if_neg (by omega), if_pos (by omega)]; decide
  · rw [if_neg q]
    by_cases q2 : x.toInt = 0
    · rw [if_pos q2, if_neg (by omega), if_neg (by omega)]; decide
    · rw [if_neg q2, if_pos (by omega), if_neg (by omega)]; decide
theorem mn_gt (a b : Int32) (c : Int) : (c < (mnI a b).toInt) ↔ (c < a.toInt ∧ c < b.toInt) := by
  unfold mnI
  by_cases q : b < a
  · rw [if_pos q]; have := i32_lt.mp q; omega
  · rw [if_neg q]; have : ¬ b.toInt < a.toInt := fun z => q (i32_lt.mpr z); omega
theorem mx_lt (a b : Int32) (c : Int) : ((mxI a b).toInt < c) ↔ (a.toInt < c ∧ b.toInt < c) := by
  unfold mxI
  by_cases q : a < b
  · rw [if_pos q]; have := i32_lt.mp q; omega
  · rw [if_neg q]; have : ¬ a.toInt < b.toInt := fun z => q (i32_lt.mpr z); omega
theorem sg_pos {x : Int32} (h1 : -2147483648 < x.toInt) : (0 < (sgI x).toInt) ↔ 0 < x.toInt := by
  rw [sgI_t h1]
  by_cases q : 0 < x.toInt
  · rw [if_pos q, o1]; omega
  · rw [if_neg q]
    by_cases q2 : x.toInt = 0
    · rw [if_pos q2, z0]; omega
    · rw [if_neg q2, n1]; omega
theorem sg_neg {x : Int32} (h1 : -2147483648 < x.toInt) : ((sgI x).toInt < 0) ↔ x.toInt < 0 := by
  rw [sgI_t h1]
  by_cases q : 0 < x.toInt
  · rw [if_pos q, o1]; omega
  · rw [if_neg q]
    by_cases q2 : x.toInt = 0
    · rw [if_pos q2, z0]; omega
    · rw [if_neg q2, n1]; omega
/-- on which side of the line from (x, y) to the pulpit the point (cx, cy) lies -/
def dsd (PX PY x y cx cy : Int32) : Int32 := ((PX - x) * (cy - y)) - ((PY - y) * (cx - x))
/-- is the pillar in the way -/
def iwp (PX PY px py hf x y : Int32) : Int32 :=
  if mxI x PX < px - hf then 0 else if mnI x PX ≤ px + hf then
    if mxI y PY < py - hf then 0 else if mnI y PY ≤ py + hf then
      if 0 < mnI (mnI (dsd PX PY x y (px - hf) (py - hf)) (dsd PX PY x y (px + hf) (py - hf))) (mnI (dsd PX PY x y (px - hf) (py + hf)) (dsd PX PY x y (px + hf) (py + hf))) then 0
      else if mxI (mxI (dsd PX PY x y (px - hf) (py - hf)) (dsd PX PY x y (px + hf) (py - hf))) (mxI (dsd PX PY x y (px - hf) (py + hf)) (dsd PX PY x y (px + hf) (py + hf))) < 0 then 0 else 1
    else 0
  else 0
theorem inWay1 {p : Int32} (hp : ib p 8) (x y : Int32) (h : Hp) : fX1_isInWay p x y h = some (iwp (gI h 1 0 0) (gI h 1 0 1) (gI h 23 0 (ix p)) (gI h 24 0 (ix p)) (gI h 25 0 (ix p)) x y, h) := by
  unfold fX1_isInWay
  simp only [gd_p hp, lb_e, br, fX1_sideOf]
  unfold iwp dsd
  repeat' split
  all_goals rfl
theorem mul_b {a b : Int} {k l : Int} (ha : -k ≤ a ∧ a ≤ k) (hb : -l ≤ b ∧ b ≤ l) (hk : 0 ≤ k) (hl : 0 ≤ l) : -(k * l) ≤ a * b ∧ a * b ≤ k * l := by
  have h1 : (a * b).natAbs ≤ (k * l).natAbs := by
    rw [Int.natAbs_mul, Int.natAbs_mul]
    exact Nat.mul_le_mul (by omega) (by omega)
  have h2 : 0 ≤ k * l := Int.mul_nonneg hk hl
  omega
/-- points of the church, and how far a pillar's corner may lie beyond it -/
theorem dsd_b {PX PY x y cx cy : Int32} (h1 : 0 ≤ PX.toInt ∧ PX.toInt ≤ 60) (h2 : 0 ≤ PY.toInt ∧ PY.toInt ≤ 60) (h3 : 0 ≤ x.toInt ∧ x.toInt ≤ 91) (h4 : 0 ≤ y.toInt ∧ y.toInt ≤ 60) (h5 : -5 ≤ cx.toInt ∧ cx.toInt ≤ 65) (h6 : -5 ≤ cy.toInt ∧ cy.toInt ≤ 65) : -2147483648 < (dsd PX PY x y cx cy).toInt := by
  have a1 : (PX - x).toInt = PX.toInt - x.toInt := sub32 (by omega) (by omega)
  have a2 : (cy - y).toInt = cy.toInt - y.toInt := sub32 (by omega) (by omega)
  have a3 : (PY - y).toInt = PY.toInt - y.toInt := sub32 (by omega) (by omega)
  have a4 : (cx - x).toInt = cx.toInt - x.toInt := sub32 (by omega) (by omega)
  have m1 := mul_b (a := PX.toInt - x.toInt) (b := cy.toInt - y.toInt) (k := 100) (l := 100) (by omega) (by omega) (by omega) (by omega)
  have m2 := mul_b (a := PY.toInt - y.toInt) (b := cx.toInt - x.toInt) (k := 100) (l := 100) (by omega) (by omega) (by omega) (by omega)
  have e1 : ((PX - x) * (cy - y)).toInt = (PX.toInt - x.toInt) * (cy.toInt - y.toInt) := by rw [mul32 (by rw [a1, a2]; omega) (by rw [a1, a2]; omega), a1, a2]
  have e2 : ((PY - y) * (cx - x)).toInt = (PY.toInt - y.toInt) * (cx.toInt - x.toInt) := by rw [mul32 (by rw [a3, a4]; omega) (by rw [a3, a4]; omega), a3, a4]
  unfold dsd
  rw [sub32 (by rw [e1, e2]; omega) (by rw [e1, e2]; omega), e1, e2]
  omega
