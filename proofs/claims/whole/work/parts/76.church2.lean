/-! ===== level 2: the church: the reference's side, counts of pillars ===== -/
theorem isPos4 {a b c d : Int32} (ha : -2147483648 < a.toInt) (hb : -2147483648 < b.toInt) (hc : -2147483648 < c.toInt) (hd : -2147483648 < d.toInt) : (0 < mnI (mnI (sgI a) (sgI b)) (mnI (sgI c) (sgI d))) ↔ (0 < mnI (mnI a b) (mnI c d)) := by
  rw [i32_lt, i32_lt, z0, mn_gt, mn_gt, mn_gt, mn_gt, mn_gt, mn_gt, sg_pos ha, sg_pos hb, sg_pos hc, sg_pos hd]
theorem isNeg4 {a b c d : Int32} (ha : -2147483648 < a.toInt) (hb : -2147483648 < b.toInt) (hc : -2147483648 < c.toInt) (hd : -2147483648 < d.toInt) : (mxI (mxI (sgI a) (sgI b)) (mxI (sgI c) (sgI d)) < 0) ↔ (mxI (mxI a b) (mxI c d) < 0) := by
  rw [i32_lt, i32_lt, z0, mx_lt, mx_lt, mx_lt, mx_lt, mx_lt, mx_lt, sg_neg ha, sg_neg hb, sg_neg hc, sg_neg hd]
theorem not_le32 {x y : Int32} : (y < x) ↔ ¬ x ≤ y := by rw [i32_lt, i32_le]; omega
theorem inWay12 {p : Int32} (hp : ib p 8) {x y : Int32} {h : Hp} (h1 : 0 ≤ (gI h 12 0 13).toInt ∧ (gI h 12 0 13).toInt ≤ 60) (h2 : 0 ≤ (gI h 12 0 14).toInt ∧ (gI h 12 0 14).toInt ≤ 60) (h3 : 0 ≤ (gI h 58 0 (ix p)).toInt ∧ (gI h 58 0 (ix p)).toInt ≤ 60) (h4 : 0 ≤ (gI h 59 0 (ix p)).toInt ∧ (gI h 59 0 (ix p)).toInt ≤ 60) (h5 : 0 ≤ (gI h 60 0 (ix p)).toInt ∧ (gI h 60 0 (ix p)).toInt ≤ 5) (h6 : 0 ≤ x.toInt ∧ x.toInt ≤ 91) (h7 : 0 ≤ y.toInt ∧ y.toInt ≤ 60) : fX12_isInWay p x y h = some (iwp (gI h 12 0 13) (gI h 12 0 14) (gI h 58 0 (ix p)) (gI h 59 0 (ix p)) (gI h 60 0 (ix p)) x y, h) := by
  unfold fX12_isInWay
  simp only [gd_p hp, lb_e, br, fX12_side]
  generalize gI h 12 0 13 = PX at *
  generalize gI h 12 0 14 = PY at *
  generalize gI h 58 0 (ix p) = px at *
  generalize gI h 59 0 (ix p) = py at *
  generalize gI h 60 0 (ix p) = hf at *
  have c1 : (px - hf).toInt = px.toInt - hf.toInt := sub32 (by omega) (by omega)
  have c2 : (px + hf).toInt = px.toInt + hf.toInt := add32 (by omega) (by omega)
  have c3 : (py - hf).toInt = py.toInt - hf.toInt := sub32 (by omega) (by omega)
  have c4 : (py + hf).toInt = py.toInt + hf.toInt := add32 (by omega) (by omega)
  have b1 := dsd_b (cx := px - hf) (cy := py - hf) h1 h2 h6 h7 (by omega) (by omega)
  have b2 := dsd_b (cx := px + hf) (cy := py - hf) h1 h2 h6 h7 (by omega) (by omega)
  have b3 := dsd_b (cx := px - hf) (cy := py + hf) h1 h2 h6 h7 (by omega) (by omega)
  have b4 := dsd_b (cx := px + hf) (cy := py + hf) h1 h2 h6 h7 (by omega) (by omega)
  have e1 := isPos4 b1 b2 b3 b4
  have e2 := isNeg4 b1 b2 b3 b4
  unfold dsd at e1 e2
  unfold iwp dsd
  have f1 : (px + hf < mnI x PX) ↔ ¬ (mnI x PX ≤ px + hf) := not_le32
  simp only [e1, e2, f1]
  by_cases k1 : mxI x PX < px - hf
  · simp only [k1, if_true]
  · by_cases k2 : mnI x PX ≤ px + hf
    · by_cases k3 : mxI y PY < py - hf
      · simp [k1, k2, k3]
      · by_cases k4 : mnI y PY ≤ py + hf
        · simp only [k1, k2, k3, k4, if_true, if_false, not_true_eq_false]
          repeat' split
          all_goals rfl
        · simp [k1, k2, k3, k4]
    · simp [k1, k2]
theorem iwp_z (PX PY px py hf x y : Int32) : iwp PX PY px py hf x y = 0 ∨ iwp PX PY px py hf x y = 1 := by
  unfold iwp
  repeat' split
  all_goals first | exact Or.inl rfl | exact Or.inr rfl
/-- a count -/
def iwn (F : Nat → Int32) : Nat → Int32
  | 0 => 0
  | n + 1 => iwn F n + F n
theorem iwn_b {F : Nat → Int32} (hF : ∀ p, F p = 0 ∨ F p = 1) : ∀ n : Nat, n ≤ 1000 → 0 ≤ (iwn F n).toInt ∧ (iwn F n).toInt ≤ (n : Int) := by
  intro n
  induction n with
  | zero => intro _; exact ⟨by show 0 ≤ (0 : Int32).toInt; rw [z0]; omega, by show (0 : Int32).toInt ≤ _; rw [z0]; omega⟩
  | succ n ih =>
    intro hn
    have i := ih (by omega)
    have e : (iwn F (n + 1)).toInt = (iwn F n).toInt + (F n).toInt := by
      show (iwn F n + F n).toInt = _
      rcases hF n with z | z <;> rw [z]
      · exact add32 (by rw [z0]; omega) (by rw [z0]; omega)
      · exact add32 (by rw [o1]; omega) (by rw [o1]; omega)
    rw [e]
    rcases hF n with z | z <;> rw [z]
    · rw [z0]; omega
    · rw [o1]; omega
theorem iwn_eq {F G : Nat → Int32} : ∀ n : Nat, (∀ p, p < n → F p = G p) → iwn F n = iwn G n := by
  intro n
  induction n with
  | zero => intro _; rfl
  | succ n ih => intro hp; show iwn F n + F n = iwn G n + G n; rw [ih (fun p z => hp p (by omega)), hp n (by omega)]
def F1 (h : Hp) (x y : Int32) (p : Nat) : Int32 := iwp (gI h 1 0 0) (gI h 1 0 1) (gI h 23 0 p) (gI h 24 0 p) (gI h 25 0 p) x y
def F12 (h : Hp) (x y : Int32) (p : Nat) : Int32 := iwp (gI h 12 0 13) (gI h 12 0 14) (gI h 58 0 p) (gI h 59 0 p) (gI h 60 0 p) x y
theorem cnt1 (a1 a2 x y : Int32) (h : Hp) (hP : 0 ≤ (gI h 1 0 3).toInt ∧ (gI h 1 0 3).toInt ≤ 8) : ∀ (n j : Nat) (a6 : Int32), a6.toInt = (j : Int) → (j : Int) ≤ (gI h 1 0 3).toInt → ((gI h 1 0 3).toInt - j).toNat < n → ∃ v, fX1_measureBench_L35 n a1 a2 x y (iwn (F1 h x y) j) a6 h = some ((iwn (F1 h x y) (ix (gI h 1 0 3)), v), h) := by
  intro n
  induction n with
  | zero => intro j a6 _ _ q; omega
  | succ n ih =>
    intro j a6 e1 q1 q2
    rw [fX1_measureBench_L35]
    by_cases q : gI h 1 0 3 ≤ a6
    · have := i32_le.mp q
      rw [br_p q, show ix (gI h 1 0 3) = j by unfold ix; omega]
      exact ⟨_, rfl⟩
    · have hlt : a6.toInt < (gI h 1 0 3).toInt := Int.not_le.mp fun z => q (i32_le.mpr z)
      have e2 : (a6 + 1).toInt = a6.toInt + 1 := i32_succ hlt (by omega)
      have e3 : ix a6 = j := by unfold ix; omega
      rw [br_n q, bd_s (inWay1 ⟨by omega, by show _ < ((8 : Nat) : Int); omega⟩ x y h)]
      obtain ⟨v, hv⟩ := ih (j + 1) (a6 + 1) (by omega) (by omega) (by omega)
      refine ⟨v, ?_⟩
      have e4 : F1 h x y j = iwp (gI h 1 0 0) (gI h 1 0 1) (gI h 23 0 (ix a6)) (gI h 24 0 (ix a6)) (gI h 25 0 (ix a6)) x y := by rw [e3]; rfl
      rw [← e4]
      rcases iwp_z (gI h 1 0 0) (gI h 1 0 1) (gI h 23 0 j) (gI h 24 0 j) (gI h 25 0 j) x y with z | z
      · rw [br_p (show F1 h x y j = 0 from z), lb_e, lb_e]
        rw [show iwn (F1 h x y) j + 0 = iwn (F1 h x y) (j + 1) by show _ = iwn (F1 h x y) j + F1 h x y j; rw [show F1 h x y j = 0 from z]]
        exact hv
      · rw [br_n (by rw [show F1 h x y j = 1 from z]; decide), lb_e, lb_e]
        rw [show iwn (F1 h x y) j + 1 = iwn (F1 h x y) (j + 1) by show _ = iwn (F1 h x y) j + F1 h x y j; rw [show F1 h x y j = 1 from z]]
        exact hv
