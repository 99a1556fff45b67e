/-! ===== level 2: the church: hearing, class and reference ===== -/
/-- what is heard at (x, y) behind n pillars -/
def hev (loud PX PY x y n g : Int32) : Int32 := if g = 0 then (loud / (((10 : Int32) + ((PX - x) * (PX - x))) + ((PY - y) * (PY - y)))) >>> (n &&& 31) else (((loud / (((10 : Int32) + ((PX - x) * (PX - x))) + ((PY - y) * (PY - y)))) >>> (n &&& 31)) * 3) / 4
theorem n10 : (10 : Int32).toInt = 10 := by decide
theorem sq_t {a b : Int32} (ha : 0 ≤ a.toInt ∧ a.toInt ≤ 91) (hb : 0 ≤ b.toInt ∧ b.toInt ≤ 91) : ((a - b) * (a - b)).toInt = (a.toInt - b.toInt) * (a.toInt - b.toInt) ∧ 0 ≤ (a.toInt - b.toInt) * (a.toInt - b.toInt) ∧ (a.toInt - b.toInt) * (a.toInt - b.toInt) ≤ 10000 := by
  have e : (a - b).toInt = a.toInt - b.toInt := sub32 (by omega) (by omega)
  have m := mul_b (a := a.toInt - b.toInt) (b := a.toInt - b.toInt) (k := 100) (l := 100) (by omega) (by omega) (by omega) (by omega)
  have p : 0 ≤ (a.toInt - b.toInt) * (a.toInt - b.toInt) := by
    rcases Int.le_total 0 (a.toInt - b.toInt) with z | z
    · exact Int.mul_nonneg z z
    · have := Int.mul_nonneg (show 0 ≤ -(a.toInt - b.toInt) by omega) (show 0 ≤ -(a.toInt - b.toInt) by omega)
      rwa [Int.neg_mul_neg] at this
  exact ⟨by rw [mul32 (by rw [e]; omega) (by rw [e]; omega), e], p, by omega⟩
theorem sq_sym {a b : Int32} (ha : 0 ≤ a.toInt ∧ a.toInt ≤ 91) (hb : 0 ≤ b.toInt ∧ b.toInt ≤ 91) : (a - b) * (a - b) = (b - a) * (b - a) := by
  refine i32_eq.mpr ?_
  rw [(sq_t ha hb).1, (sq_t hb ha).1]
  rw [show a.toInt - b.toInt = -(b.toInt - a.toInt) by omega, Int.neg_mul_neg]
theorem den {PX PY x y : Int32} (h1 : 0 ≤ PX.toInt ∧ PX.toInt ≤ 60) (h2 : 0 ≤ PY.toInt ∧ PY.toInt ≤ 60) (h3 : 0 ≤ x.toInt ∧ x.toInt ≤ 91) (h4 : 0 ≤ y.toInt ∧ y.toInt ≤ 60) : 10 ≤ (((10 : Int32) + ((PX - x) * (PX - x))) + ((PY - y) * (PY - y))).toInt ∧ (((10 : Int32) + ((PX - x) * (PX - x))) + ((PY - y) * (PY - y))).toInt ≤ 20010 ∧ ¬ (((10 : Int32) + ((PX - x) * (PX - x))) + ((PY - y) * (PY - y))) = 0 := by
  have m1 := sq_t (a := PX) (b := x) (by omega) (by omega)
  have m2 := sq_t (a := PY) (b := y) (by omega) (by omega)
  have e1 : ((10 : Int32) + ((PX - x) * (PX - x))).toInt = 10 + (PX.toInt - x.toInt) * (PX.toInt - x.toInt) := by rw [add32 (by rw [n10, m1.1]; omega) (by rw [n10, m1.1]; omega), n10, m1.1]
  have e2 : (((10 : Int32) + ((PX - x) * (PX - x))) + ((PY - y) * (PY - y))).toInt = 10 + (PX.toInt - x.toInt) * (PX.toInt - x.toInt) + (PY.toInt - y.toInt) * (PY.toInt - y.toInt) := by rw [add32 (by rw [e1, m2.1]; omega) (by rw [e1, m2.1]; omega), e1, m2.1]
  refine ⟨by rw [e2]; omega, by rw [e2]; omega, fun z => ?_⟩
  rw [z, z0] at e2
  omega
theorem heard1 {x y n g : Int32} {h : Hp} (h1 : 0 ≤ (gI h 1 0 0).toInt ∧ (gI h 1 0 0).toInt ≤ 60) (h2 : 0 ≤ (gI h 1 0 1).toInt ∧ (gI h 1 0 1).toInt ≤ 60) (h3 : 0 ≤ x.toInt ∧ x.toInt ≤ 91) (h4 : 0 ≤ y.toInt ∧ y.toInt ≤ 60) : fX1_heardAt x y n g h = some (hev (gI h 1 0 2) (gI h 1 0 0) (gI h 1 0 1) x y n g, h) := by
  unfold fX1_heardAt hev
  have d := den h1 h2 h3 h4
  simp only [lb_e, br]
  rw [gd_p d.2.2]
  by_cases q : g = 0
  · rw [if_pos q, if_pos q]
  · rw [if_neg q, if_neg q]
theorem hev_b {loud PX PY x y n g : Int32} (h0 : 1 ≤ loud.toInt ∧ loud.toInt ≤ 100000) (h1 : 0 ≤ PX.toInt ∧ PX.toInt ≤ 60) (h2 : 0 ≤ PY.toInt ∧ PY.toInt ≤ 60) (h3 : 0 ≤ x.toInt ∧ x.toInt ≤ 91) (h4 : 0 ≤ y.toInt ∧ y.toInt ≤ 60) (hn : 0 ≤ n.toInt ∧ n.toInt ≤ 8) : 0 ≤ (hev loud PX PY x y n g).toInt ∧ (hev loud PX PY x y n g).toInt ≤ 10000 := by
  have d := den h1 h2 h3 h4
  unfold hev
  generalize ((10 : Int32) + ((PX - x) * (PX - x))) + ((PY - y) * (PY - y)) = D at d ⊢
  have e1 : (loud / D).toInt = loud.toInt / D.toInt := div32 (by omega) (by omega)
  have e2 : 0 ≤ loud.toInt / D.toInt := Int.ediv_nonneg (by omega) (by omega)
  have e3 : loud.toInt / D.toInt ≤ 10000 := by
    refine Int.le_trans (Int.ediv_le_ediv (by omega) h0.2) ?_
    exact Int.ediv_le_of_le_mul (by omega) (by omega)
  have e4 := shv (a := loud / D) hn
  rw [e1] at e4
  have hp : (0 : Int) < 2 ^ n.toInt.toNat := Int.pow_pos (by omega)
  have e5 : 0 ≤ loud.toInt / D.toInt / 2 ^ n.toInt.toNat := Int.ediv_nonneg e2 (by omega)
  have e6 : loud.toInt / D.toInt / 2 ^ n.toInt.toNat ≤ loud.toInt / D.toInt := Int.ediv_le_self _ e2
  by_cases q : g = 0
  · rw [if_pos q, e4]; omega
  · rw [if_neg q]
    have e7 : (((loud / D) >>> (n &&& 31)) * 3).toInt = ((loud / D) >>> (n &&& 31)).toInt * 3 := by rw [mul32 (by rw [n3, e4]; omega) (by rw [n3, e4]; omega), n3]
    rw [div32 (by rw [e7, e4]; omega) (by rw [n4]; omega), e7, e4, n4]
    omega
theorem mul3 (v : Int32) : (3 : Int32) * v = v * 3 := Int32.mul_comm _ _
/-- what is heard at unit u of bench b -/
def heb (h : Hp) (b u : Int32) : Int32 := hev (gI h 12 0 15) (gI h 12 0 13) (gI h 12 0 14) (gI h 61 0 (ix b) + u) (gI h 62 0 (ix b)) (iwb h b u) (gI h 64 0 (ix b))
theorem hear12 {a1 a2 : Int32} {h : Hp} (C : Cm h) (hb : 0 ≤ a1.toInt ∧ a1.toInt < (gI h 12 0 7).toInt) (hu : 0 ≤ a2.toInt ∧ a2.toInt < (gI h 63 0 (ix a1)).toInt) : fX12_hearing a1 a2 h = some (heb h a1 a2, h) := by
  obtain ⟨C1, C2, C3, C4, C5, C6, C7⟩ := id C
  obtain ⟨B1, B2, B3, B4⟩ := C7 (ix a1) (by unfold ix; omega)
  have hi1 : ib a1 8 := ⟨hb.1, by show _ < ((8 : Nat) : Int); omega⟩
  have ex : (gI h 61 0 (ix a1) + a2).toInt = (gI h 61 0 (ix a1)).toInt + a2.toInt := add32 (by omega) (by omega)
  have hx : 0 ≤ (gI h 61 0 (ix a1) + a2).toInt ∧ (gI h 61 0 (ix a1) + a2).toInt ≤ 91 := by omega
  have d := den C1 C2 hx B2
  have s1 := sq_sym (a := gI h 61 0 (ix a1) + a2) (b := gI h 12 0 13) (by omega) (by omega)
  have s2 := sq_sym (a := gI h 62 0 (ix a1)) (b := gI h 12 0 14) (by omega) (by omega)
  have hn := iwb_b h C a1 a2
  unfold fX12_hearing heb
  rw [gd_p hi1, lb_e, gd_p hi1, lb_e]
  simp only [s1, s2]
  rw [gd_p d.2.2, lb_e, bd_s (inWay12_t C hb hu)]
  obtain ⟨v, hv⟩ := halve a1 h FU (gI h 12 0 15 / (((10 : Int32) + ((gI h 12 0 13 - (gI h 61 0 (ix a1) + a2)) * (gI h 12 0 13 - (gI h 61 0 (ix a1) + a2)))) + ((gI h 12 0 14 - gI h 62 0 (ix a1)) * (gI h 12 0 14 - gI h 62 0 (ix a1))))) (iwb h a1 a2) (by rw [div32 (by omega) (by omega)]; exact Int.ediv_nonneg (by omega) (by omega)) hn (by show _ < 100000; omega)
  rw [bd_s hv, lb_e, lb_e, gd_p hi1]
  unfold br hev
  by_cases q : gI h 64 0 (ix a1) = 0
  · rw [if_pos q, if_pos q]
  · rw [if_neg q, if_neg q, mul3]
