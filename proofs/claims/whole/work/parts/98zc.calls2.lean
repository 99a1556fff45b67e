/-! ===== level 2: the calls, kept whole: rows, terms, fund ===== -/
def wRo : List Nat := [38, 39, 40, 54, 55, 56, 57, 13000]
theorem rows_s : ∀ k i, wi wRo k i = false → w_rows k i = false := fun k i z => by
  cases hw : w_rows k i
  · rfl
  · exfalso
    unfold w_rows at hw
    simp only [Bool.or_eq_true, beq_iff_eq, Bool.and_eq_true] at hw
    rcases hw with ((((((rfl | rfl) | rfl) | rfl) | rfl) | rfl) | rfl) | ⟨rfl, rfl⟩
    all_goals first
      | exact absurd z (by decide)
      | (rw [wi_k (by omega)] at z; exact absurd z (by decide))
theorem thrown_s : ∀ k i, wi [13000] k i = false → w_thrown k i = false := fun k i z => by
  cases hw : w_thrown k i
  · rfl
  · exfalso
    unfold w_thrown at hw
    simp only [beq_iff_eq, Bool.and_eq_true] at hw
    obtain ⟨rfl, rfl⟩ := hw
    exact absurd z (by decide)
theorem s_terms2 (a1 a2 : Int32) (h : Hp) (R : Rt2 h) : Op [12012, 12013, 13000, 13016, 13017] (fX11_terms a1 a2) (fX12_terms a1 a2) h Rt2 := by
  have l1 : (2 : Int32).toInt = 2 := by decide
  have l2 : (30 : Int32).toInt = 30 := by decide
  have l3 : (0 : Int32).toInt = 0 := by decide
  have l4 : (100 : Int32).toInt = 100 := by decide
  have m1 : (2 : Int64).toInt = 2 := by decide
  have m2 : (30 : Int64).toInt = 30 := by decide
  have m3 : (0 : Int64).toInt = 0 := by decide
  have m4 : (100 : Int64).toInt = 100 := by decide
  have f0 : Fr [13000] h (sI h 12 0 0 0) := Fr_I _ _ _ _ _ rfl
  unfold Op fX11_terms fX12_terms
  simp only [isWithin_0, in_0, to64, l1, l2, l3, l4, m1, m2, m3, m4, lb_e]
  by_cases q1 : 2 ≤ a1.toInt ∧ a1.toInt ≤ 30
  · by_cases q2 : 0 ≤ a2.toInt ∧ a2.toInt ≤ 100
    · simp only [q1, q2, not_true_eq_false, br, if_false]
      refine ⟨_, _, _, rfl, rfl, ?_, ?_, ?_⟩
      · exact (Fr_I _ _ _ _ _ rfl).tr (Fr_I _ _ _ _ _ rfl)
      · exact ((((Fr_I _ _ _ _ _ rfl).tr (Fr_I _ _ _ _ _ rfl)).tr (Fr_I _ _ _ _ _ rfl)).tr (Fr_I _ _ _ _ _ rfl)).tr (Fr_I _ _ _ _ _ rfl)
      · unfold Rt2 Rt
        simp [gI_sI]
        omega
    · simp only [q1, q2, not_true_eq_false, not_false_eq_true, br, if_false, if_true]
      exact ⟨_, _, _, rfl, rfl, Fr.rf _ _, f0.wk rfl, Rt2_sm (f0.sm rfl) R⟩
  · simp only [q1, not_false_eq_true, br, if_true]
    exact ⟨_, _, _, rfl, rfl, Fr.rf _ _, f0.wk rfl, Rt2_sm (f0.sm rfl) R⟩
theorem k_fund (h : Hp) (A : RAll h) : ∃ h3, fX12_fund h = some (fX11_fund h, h3) ∧ RAll h3 := by
  obtain ⟨h3, e1, e2⟩ := s_fund h A.2.2.2.2.2.2.2.1
  have o : Op [13000] (fun x => some (fX11_fund x, x)) fX12_fund h (fun _ => True) := ⟨_, h, h3, rfl, e1, Fr.rf _ _, e2.fr thrown_s, trivial⟩
  obtain ⟨r, x2, x3, y1, y2, -, y4⟩ := St_ro A o (by decide +kernel) (by decide +kernel) (by decide +kernel)
  cases y1
  exact ⟨x3, y2, y4⟩
theorem k_terms (x1 x2 : Int32) (h : Hp) (A : RAll h) : St (fX11_terms x1 x2) (fX12_terms x1 x2) h := by
  obtain ⟨a1, a2, a3, a4, a5, a6, a7, a8, a9, a10, a11, a12, a13, a14, a15, a16⟩ := A
  obtain ⟨r, h2, h3, e1, e2, f2, f3, p⟩ := s_terms2 x1 x2 h a7
  have eH : nH h3 = nH h := by unfold nH; rw [f3.I 12 0 8 (by decide +kernel)]
  have eY : yr h3 = yr h := by unfold yr; rw [f3.I 12 0 5 (by decide +kernel)]
  have eB : nB h3 = nB h := by unfold nB; rw [f3.I 1 0 7 (by decide +kernel)]
  have eU : un h3 = un h := funext fun b => by unfold un; rw [f3.A 28 0 b (by decide +kernel)]
  refine ⟨r, h2, h3, e1, e2, ?_, ?_⟩
  · rw [(f2.2.2 (by decide +kernel)).1, (f2.2.2 (by decide +kernel)).2]
    exact a16.b
  · unfold RAll
    rw [eH, eY, eB, eU]
    exact ⟨RC_sm (f3.sm (by decide +kernel)) a1, RP_sm (f3.sm (by decide +kernel)) a2, Ry_sm (f3.sm (by decide +kernel)) a3, RR_c (f3.sm (by decide +kernel)) (RR_m (f3.sm (by decide +kernel)) a4), RPl_sm (f3.sm (by decide +kernel)) (f3.sm (by decide +kernel)) a5, Rs_sm (f3.sm (by decide +kernel)) a6, p, Rf_sm (f3.sm (by decide +kernel)) a8, Rr_sm (f3.sm (by decide +kernel)) a9, RA_c (f3.sm (by decide +kernel)) (RA_m (f3.sm (by decide +kernel)) a10), RK_sm (f3.sm (by decide +kernel)) (by omega) a11, RG_sm (f3.sm (by decide +kernel)) a12, RSn_sm (f3.sm (by decide +kernel)) a13, RHi_sm (f3.sm (by decide +kernel)) (f3.sm (by decide +kernel)) a14, RYs_sm (f3.sm (by decide +kernel)) a15, RM_sm (f3.sm (by decide +kernel)) (f3.2.2 (by decide +kernel)) a16⟩
theorem sv_tear (x1 : Int32) (h : Hp) (R : Rr h) : Op wRo (fX11_tear x1) (fX12_tear x1) h Rr := by
  obtain ⟨r, h2, h3, e1, e2, q1, q2, p⟩ := s_tear x1 h R
  exact ⟨r, h2, h3, e1, e2, q1.fr rows_s, q2.fr rows_s, p⟩
theorem k_tear (x1 : Int32) (h : Hp) (A : RAll h) : St (fX11_tear x1) (fX12_tear x1) h := by
  obtain ⟨a1, a2, a3, a4, a5, a6, a7, a8, a9, a10, a11, a12, a13, a14, a15, a16⟩ := A
  obtain ⟨r, h2, h3, e1, e2, f2, f3, p⟩ := sv_tear x1 h a9
  have eH : nH h3 = nH h := by unfold nH; rw [f3.I 12 0 8 (by decide +kernel)]
  have eY : yr h3 = yr h := by unfold yr; rw [f3.I 12 0 5 (by decide +kernel)]
  have eB : nB h3 = nB h := by unfold nB; rw [f3.I 1 0 7 (by decide +kernel)]
  have eU : un h3 = un h := funext fun b => by unfold un; rw [f3.A 28 0 b (by decide +kernel)]
  refine ⟨r, h2, h3, e1, e2, ?_, ?_⟩
  · rw [(f2.2.2 (by decide +kernel)).1, (f2.2.2 (by decide +kernel)).2]
    exact a16.b
  · unfold RAll
    rw [eH, eY, eB, eU]
    exact ⟨RC_sm (f3.sm (by decide +kernel)) a1, RP_sm (f3.sm (by decide +kernel)) a2, Ry_sm (f3.sm (by decide +kernel)) a3, RR_c (f3.sm (by decide +kernel)) (RR_m (f3.sm (by decide +kernel)) a4), RPl_sm (f3.sm (by decide +kernel)) (f3.sm (by decide +kernel)) a5, Rs_sm (f3.sm (by decide +kernel)) a6, Rt2_sm (f3.sm (by decide +kernel)) a7, Rf_sm (f3.sm (by decide +kernel)) a8, p, RA_c (f3.sm (by decide +kernel)) (RA_m (f3.sm (by decide +kernel)) a10), RK_sm (f3.sm (by decide +kernel)) (by omega) a11, RG_sm (f3.sm (by decide +kernel)) a12, RSn_sm (f3.sm (by decide +kernel)) a13, RHi_sm (f3.sm (by decide +kernel)) (f3.sm (by decide +kernel)) a14, RYs_sm (f3.sm (by decide +kernel)) a15, RM_sm (f3.sm (by decide +kernel)) (f3.2.2 (by decide +kernel)) a16⟩
theorem sv_row (x1 x2 x3 : Int32) (h : Hp) (R : Rr h) : Op wRo (fX11_row x1 x2 x3) (fX12_row x1 x2 x3) h Rr := by
  obtain ⟨r, h2, h3, e1, e2, q1, q2, p⟩ := s_row x1 x2 x3 h R
  exact ⟨r, h2, h3, e1, e2, q1.fr rows_s, q2.fr rows_s, p⟩
theorem k_row (x1 x2 x3 : Int32) (h : Hp) (A : RAll h) : St (fX11_row x1 x2 x3) (fX12_row x1 x2 x3) h := by
  obtain ⟨a1, a2, a3, a4, a5, a6, a7, a8, a9, a10, a11, a12, a13, a14, a15, a16⟩ := A
  obtain ⟨r, h2, h3, e1, e2, f2, f3, p⟩ := sv_row x1 x2 x3 h a9
  have eH : nH h3 = nH h := by unfold nH; rw [f3.I 12 0 8 (by decide +kernel)]
  have eY : yr h3 = yr h := by unfold yr; rw [f3.I 12 0 5 (by decide +kernel)]
  have eB : nB h3 = nB h := by unfold nB; rw [f3.I 1 0 7 (by decide +kernel)]
  have eU : un h3 = un h := funext fun b => by unfold un; rw [f3.A 28 0 b (by decide +kernel)]
  refine ⟨r, h2, h3, e1, e2, ?_, ?_⟩
  · rw [(f2.2.2 (by decide +kernel)).1, (f2.2.2 (by decide +kernel)).2]
    exact a16.b
  · unfold RAll
    rw [eH, eY, eB, eU]
    exact ⟨RC_sm (f3.sm (by decide +kernel)) a1, RP_sm (f3.sm (by decide +kernel)) a2, Ry_sm (f3.sm (by decide +kernel)) a3, RR_c (f3.sm (by decide +kernel)) (RR_m (f3.sm (by decide +kernel)) a4), RPl_sm (f3.sm (by decide +kernel)) (f3.sm (by decide +kernel)) a5, Rs_sm (f3.sm (by decide +kernel)) a6, Rt2_sm (f3.sm (by decide +kernel)) a7, Rf_sm (f3.sm (by decide +kernel)) a8, p, RA_c (f3.sm (by decide +kernel)) (RA_m (f3.sm (by decide +kernel)) a10), RK_sm (f3.sm (by decide +kernel)) (by omega) a11, RG_sm (f3.sm (by decide +kernel)) a12, RSn_sm (f3.sm (by decide +kernel)) a13, RHi_sm (f3.sm (by decide +kernel)) (f3.sm (by decide +kernel)) a14, RYs_sm (f3.sm (by decide +kernel)) a15, RM_sm (f3.sm (by decide +kernel)) (f3.2.2 (by decide +kernel)) a16⟩
theorem sv_write (x1 x2 : Int32) (x3 : Int64) (h : Hp) (R : Rr h) : Op wRo (fX11_write x1 x2 x3) (fX12_write x1 x2 x3) h Rr := by
  obtain ⟨r, h2, h3, e1, e2, q1, q2, p⟩ := s_write x1 x2 x3 h R
  exact ⟨r, h2, h3, e1, e2, q1.fr rows_s, q2.fr rows_s, p⟩
theorem k_write (x1 x2 : Int32) (x3 : Int64) (h : Hp) (A : RAll h) : St (fX11_write x1 x2 x3) (fX12_write x1 x2 x3) h := by
  obtain ⟨a1, a2, a3, a4, a5, a6, a7, a8, a9, a10, a11, a12, a13, a14, a15, a16⟩ := A
  obtain ⟨r, h2, h3, e1, e2, f2, f3, p⟩ := sv_write x1 x2 x3 h a9
  have eH : nH h3 = nH h := by unfold nH; rw [f3.I 12 0 8 (by decide +kernel)]
  have eY : yr h3 = yr h := by unfold yr; rw [f3.I 12 0 5 (by decide +kernel)]
  have eB : nB h3 = nB h := by unfold nB; rw [f3.I 1 0 7 (by decide +kernel)]
  have eU : un h3 = un h := funext fun b => by unfold un; rw [f3.A 28 0 b (by decide +kernel)]
  refine ⟨r, h2, h3, e1, e2, ?_, ?_⟩
  · rw [(f2.2.2 (by decide +kernel)).1, (f2.2.2 (by decide +kernel)).2]
    exact a16.b
  · unfold RAll
    rw [eH, eY, eB, eU]
    exact ⟨RC_sm (f3.sm (by decide +kernel)) a1, RP_sm (f3.sm (by decide +kernel)) a2, Ry_sm (f3.sm (by decide +kernel)) a3, RR_c (f3.sm (by decide +kernel)) (RR_m (f3.sm (by decide +kernel)) a4), RPl_sm (f3.sm (by decide +kernel)) (f3.sm (by decide +kernel)) a5, Rs_sm (f3.sm (by decide +kernel)) a6, Rt2_sm (f3.sm (by decide +kernel)) a7, Rf_sm (f3.sm (by decide +kernel)) a8, p, RA_c (f3.sm (by decide +kernel)) (RA_m (f3.sm (by decide +kernel)) a10), RK_sm (f3.sm (by decide +kernel)) (by omega) a11, RG_sm (f3.sm (by decide +kernel)) a12, RSn_sm (f3.sm (by decide +kernel)) a13, RHi_sm (f3.sm (by decide +kernel)) (f3.sm (by decide +kernel)) a14, RYs_sm (f3.sm (by decide +kernel)) a15, RM_sm (f3.sm (by decide +kernel)) (f3.2.2 (by decide +kernel)) a16⟩
theorem sv_paste (x1 x2 x3 x4 x5 : Int32) (h : Hp) (R : Rr h) : Op wRo (fX11_paste x1 x2 x3 x4 x5) (fX12_paste x1 x2 x3 x4 x5) h Rr := by
  obtain ⟨r, h2, h3, e1, e2, q1, q2, p⟩ := s_paste x1 x2 x3 x4 x5 h R
  exact ⟨r, h2, h3, e1, e2, q1.fr rows_s, q2.fr rows_s, p⟩
theorem k_paste (x1 x2 x3 x4 x5 : Int32) (h : Hp) (A : RAll h) : St (fX11_paste x1 x2 x3 x4 x5) (fX12_paste x1 x2 x3 x4 x5) h := by
  obtain ⟨a1, a2, a3, a4, a5, a6, a7, a8, a9, a10, a11, a12, a13, a14, a15, a16⟩ := A
  obtain ⟨r, h2, h3, e1, e2, f2, f3, p⟩ := sv_paste x1 x2 x3 x4 x5 h a9
  have eH : nH h3 = nH h := by unfold nH; rw [f3.I 12 0 8 (by decide +kernel)]
  have eY : yr h3 = yr h := by unfold yr; rw [f3.I 12 0 5 (by decide +kernel)]
  have eB : nB h3 = nB h := by unfold nB; rw [f3.I 1 0 7 (by decide +kernel)]
  have eU : un h3 = un h := funext fun b => by unfold un; rw [f3.A 28 0 b (by decide +kernel)]
  refine ⟨r, h2, h3, e1, e2, ?_, ?_⟩
  · rw [(f2.2.2 (by decide +kernel)).1, (f2.2.2 (by decide +kernel)).2]
    exact a16.b
  · unfold RAll
    rw [eH, eY, eB, eU]
    exact ⟨RC_sm (f3.sm (by decide +kernel)) a1, RP_sm (f3.sm (by decide +kernel)) a2, Ry_sm (f3.sm (by decide +kernel)) a3, RR_c (f3.sm (by decide +kernel)) (RR_m (f3.sm (by decide +kernel)) a4), RPl_sm (f3.sm (by decide +kernel)) (f3.sm (by decide +kernel)) a5, Rs_sm (f3.sm (by decide +kernel)) a6, Rt2_sm (f3.sm (by decide +kernel)) a7, Rf_sm (f3.sm (by decide +kernel)) a8, p, RA_c (f3.sm (by decide +kernel)) (RA_m (f3.sm (by decide +kernel)) a10), RK_sm (f3.sm (by decide +kernel)) (by omega) a11, RG_sm (f3.sm (by decide +kernel)) a12, RSn_sm (f3.sm (by decide +kernel)) a13, RHi_sm (f3.sm (by decide +kernel)) (f3.sm (by decide +kernel)) a14, RYs_sm (f3.sm (by decide +kernel)) a15, RM_sm (f3.sm (by decide +kernel)) (f3.2.2 (by decide +kernel)) a16⟩
