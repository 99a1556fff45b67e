/-! ===== level 2: terms, fund ===== -/
def Rt (h : Hp) : Prop := gI h 11 0 12 = gI h 12 0 16 ∧ gI h 11 0 13 = gI h 12 0 17
def Rf (h : Hp) : Prop := gJ h 11 0 14 = gJ h 12 0 12
def w_terms (k i : Nat) : Bool := (k == 11 && (i == 12 || i == 13)) || (k == 12 && (i == 0 || i == 16 || i == 17))
theorem s_terms (a1 a2 : Int32) (h : Hp) (R : Rt h) : ∃ (r : Int32) (h2 h3 : Hp), fX11_terms a1 a2 h = some (r, h2) ∧ fX12_terms a1 a2 h2 = some (r, h3) ∧ Eqx w_terms h h2 ∧ Eqx w_terms h h3 ∧ Rt h3 := by
  have l1 : (2 : Int32).toInt = 2 := by decide
  have l2 : (30 : Int32).toInt = 30 := by decide
  have l3 : (0 : Int32).toInt = 0 := by decide
  have l4 : (100 : Int32).toInt = 100 := by decide
  have m1 : (2 : Int64).toInt = 2 := by decide
  have m2 : (30 : Int64).toInt = 30 := by decide
  have m3 : (0 : Int64).toInt = 0 := by decide
  have m4 : (100 : Int64).toInt = 100 := by decide
  unfold fX11_terms fX12_terms
  simp only [isWithin_0, in_0, to64, l1, l2, l3, l4, m1, m2, m3, m4, lb_e]
  by_cases q1 : 2 ≤ a1.toInt ∧ a1.toInt ≤ 30
  · by_cases q2 : 0 ≤ a2.toInt ∧ a2.toInt ≤ 100
    · simp only [q1, q2, not_true_eq_false, br, if_false]
      refine ⟨_, _, _, rfl, rfl, ?_, ?_, ?_⟩
      · exact (Eqx_I _ _ _ _ _ (by decide)).tr (Eqx_I _ _ _ _ _ (by decide))
      · exact (((Eqx_I _ _ _ _ _ (by decide)).tr (Eqx_I _ _ _ _ _ (by decide))).tr (Eqx_I _ _ _ _ _ (by decide))).tr ((Eqx_I _ _ _ _ _ (by decide)).tr (Eqx_I _ _ _ _ _ (by decide)))
      · unfold Rt
        simp [gI_sI]
    · simp only [q1, q2, not_true_eq_false, not_false_eq_true, br, if_false, if_true]
      refine ⟨_, _, _, rfl, rfl, Eqx.rf _ _, Eqx_I _ _ _ _ _ (by decide), ?_⟩
      unfold Rt at R ⊢
      simpa [gI_sI] using R
  · simp only [q1, not_false_eq_true, br, if_true]
    refine ⟨_, _, _, rfl, rfl, Eqx.rf _ _, Eqx_I _ _ _ _ _ (by decide), ?_⟩
    unfold Rt at R ⊢
    simpa [gI_sI] using R
def w_thrown (k i : Nat) : Bool := k == 12 && i == 0
theorem s_fund (h : Hp) (R : Rf h) : ∃ h3 : Hp, fX12_fund h = some (fX11_fund h, h3) ∧ Eqx w_thrown h h3 := by
  refine ⟨sI h 12 0 0 0, ?_, Eqx_I _ _ _ _ _ (by decide)⟩
  unfold fX12_fund fX11_fund
  rw [show gJ h 11 0 14 = gJ h 12 0 12 from R]
  rfl
