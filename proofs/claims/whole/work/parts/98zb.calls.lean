/-! ===== level 2: the calls, kept whole ===== -/
theorem hu_of {h : Hp} (R : RC h) : nB h ≤ 8 ∧ ∀ b, b < nB h → un h b ≤ 32 := ⟨R.v.2.2.1, fun b hb => (R.v.2.2.2 b hb).2.2.2⟩
theorem k_unit (x1 x2 x3 : Int32) (h : Hp) (A : RAll h) : St (fX11_unit x1 x2 x3) (fX12_unit x1 x2 x3) h := by
  have A' := A
  obtain ⟨a1, a2, a3, a4, a5, a6, a7, a8, a9, a10, a11, a12, a13, a14, a15, a16⟩ := A
  exact St_ro A' (s_unit x1 x2 x3 h a1) (by decide +kernel) (by decide +kernel) (by decide +kernel)
theorem k_rightOf (x1 x2 : Int32) (h : Hp) (A : RAll h) : St (fX11_rightOf x1 x2) (fX12_rightOf x1 x2) h := by
  have A' := A
  obtain ⟨a1, a2, a3, a4, a5, a6, a7, a8, a9, a10, a11, a12, a13, a14, a15, a16⟩ := A
  exact St_ro A' (s_rightOf x1 x2 h a4) (by decide +kernel) (by decide +kernel) (by decide +kernel)
theorem k_plotOf (x1 x2 : Int32) (h : Hp) (A : RAll h) : St (fX11_plotOf x1 x2) (fX12_plotOf x1 x2) h := by
  have A' := A
  obtain ⟨a1, a2, a3, a4, a5, a6, a7, a8, a9, a10, a11, a12, a13, a14, a15, a16⟩ := A
  exact St_ro A' (s_plotOf x1 x2 h a5) (by decide +kernel) (by decide +kernel) (by decide +kernel)
theorem k_belongs (x1 x2 x3 x4 x5 : Int32) (h : Hp) (A : RAll h) : St (fX11_belongs x1 x2 x3 x4 x5) (fX12_belongs x1 x2 x3 x4 x5) h := by
  have A' := A
  obtain ⟨a1, a2, a3, a4, a5, a6, a7, a8, a9, a10, a11, a12, a13, a14, a15, a16⟩ := A
  exact St_ro A' (s_belongs x1 x2 x3 x4 x5 h a1 a2 a3 a4 a5) (by decide +kernel) (by decide +kernel) (by decide +kernel)
theorem k_judge (x1 x2 x3 x4 x5 x6 : Int32) (h : Hp) (A : RAll h) : St (fX11_judge x1 x2 x3 x4 x5 x6) (fX12_judge x1 x2 x3 x4 x5 x6) h := by
  have A' := A
  obtain ⟨a1, a2, a3, a4, a5, a6, a7, a8, a9, a10, a11, a12, a13, a14, a15, a16⟩ := A
  exact St_ro A' (s_judge x1 x2 x3 x4 x5 x6 h a1 a2 a3 a4 a5) (by decide +kernel) (by decide +kernel) (by decide +kernel)
theorem k_knocked (x1 x2 : Int32) (h : Hp) (A : RAll h) : St (fX11_knocked x1 x2) (fX12_knocked x1 x2) h := by
  have A' := A
  obtain ⟨a1, a2, a3, a4, a5, a6, a7, a8, a9, a10, a11, a12, a13, a14, a15, a16⟩ := A
  exact St_ro A' (s_knocked x1 x2 h a2 a11) (by decide +kernel) (by decide +kernel) (by decide +kernel)
theorem k_changedTo (x1 : Int32) (h : Hp) (A : RAll h) : St (fX11_changedTo x1) (fX12_changedTo x1) h := by
  have A' := A
  obtain ⟨a1, a2, a3, a4, a5, a6, a7, a8, a9, a10, a11, a12, a13, a14, a15, a16⟩ := A
  exact St_ro A' (s_changedTo x1 h a2 a12) (by decide +kernel) (by decide +kernel) (by decide +kernel)
theorem k_sat (x1 : Int32) (h : Hp) (A : RAll h) : St (fX11_sat x1) (fX12_sat x1) h := by
  have A' := A
  obtain ⟨a1, a2, a3, a4, a5, a6, a7, a8, a9, a10, a11, a12, a13, a14, a15, a16⟩ := A
  exact St_ro A' (s_sat x1 h a13) (by decide +kernel) (by decide +kernel) (by decide +kernel)
theorem k_seat (x1 x2 x3 : Int32) (h : Hp) (A : RAll h) : St (fX11_seat x1 x2 x3) (fX12_seat x1 x2 x3) h := by
  have A' := A
  obtain ⟨a1, a2, a3, a4, a5, a6, a7, a8, a9, a10, a11, a12, a13, a14, a15, a16⟩ := A
  exact St_ro A' (s_seat x1 x2 x3 h a2 a3 (hu_of a1).1 (hu_of a1).2 a14) (by decide +kernel) (by decide +kernel) (by decide +kernel)
theorem k_moved (x1 x2 : Int32) (h : Hp) (A : RAll h) : St (fX11_moved x1 x2) (fX12_moved x1 x2) h := by
  have A' := A
  obtain ⟨a1, a2, a3, a4, a5, a6, a7, a8, a9, a10, a11, a12, a13, a14, a15, a16⟩ := A
  exact St_ro A' (s_moved x1 x2 h a2 a3 (hu_of a1).1 (hu_of a1).2 a14) (by decide +kernel) (by decide +kernel) (by decide +kernel)
theorem k_householdOf (x1 x2 : Int32) (h : Hp) (A : RAll h) : St (fX11_householdOf x1 x2) (fX12_householdOf x1 x2) h := by
  have A' := A
  obtain ⟨a1, a2, a3, a4, a5, a6, a7, a8, a9, a10, a11, a12, a13, a14, a15, a16⟩ := A
  exact St_ro A' (s_householdOf x1 x2 h a2 a3 a4 a5 a15) (by decide +kernel) (by decide +kernel) (by decide +kernel)
theorem k_benchOf (x1 x2 : Int32) (h : Hp) (A : RAll h) : St (fX11_benchOf x1 x2) (fX12_benchOf x1 x2) h := by
  have A' := A
  obtain ⟨a1, a2, a3, a4, a5, a6, a7, a8, a9, a10, a11, a12, a13, a14, a15, a16⟩ := A
  exact St_ro A' (s_benchOf x1 x2 h a1 a3 a4 a5) (by decide +kernel) (by decide +kernel) (by decide +kernel)
theorem k_worth (x1 x2 x3 : Int32) (h : Hp) (A : RAll h) : St (fX11_worth x1 x2 x3) (fX12_worth x1 x2 x3) h := by
  have A' := A
  obtain ⟨a1, a2, a3, a4, a5, a6, a7, a8, a9, a10, a11, a12, a13, a14, a15, a16⟩ := A
  exact St_ro A' (s_worth x1 x2 x3 h a1 a2) (by decide +kernel) (by decide +kernel) (by decide +kernel)
theorem k_count (x1 : Int32) (h : Hp) (A : RAll h) : St (fX11_count x1) (fX12_count x1) h := by
  have A' := A
  obtain ⟨a1, a2, a3, a4, a5, a6, a7, a8, a9, a10, a11, a12, a13, a14, a15, a16⟩ := A
  exact St_ro A' (s_count x1 h a1 a2 a3 a4 a9 a6 (a10.2.1.trans a10.1.symm)) (by decide +kernel) (by decide +kernel) (by decide +kernel)
theorem k_pulpit (x1 x2 x3 : Int32) (h : Hp) (A : RAll h) : St (fX11_pulpit x1 x2 x3) (fX12_pulpit x1 x2 x3) h := by
  obtain ⟨a1, a2, a3, a4, a5, a6, a7, a8, a9, a10, a11, a12, a13, a14, a15, a16⟩ := A
  obtain ⟨r, h2, h3, e1, e2, f2, f3, p⟩ := s_pulpit x1 x2 x3 h a1
  have eH : nH h3 = nH h := by unfold nH; rw [f3.I 12 0 8 (by decide +kernel)]
  have eY : yr h3 = yr h := by unfold yr; rw [f3.I 12 0 5 (by decide +kernel)]
  have eB : nB h3 = nB h := by unfold nB; rw [f3.I 1 0 7 (by decide +kernel)]
  have eU : un h3 = un h := funext fun b => by unfold un; rw [f3.A 28 0 b (by decide +kernel)]
  refine ⟨r, h2, h3, e1, e2, ?_, ?_⟩
  · rw [(f2.2.2 (by decide +kernel)).1, (f2.2.2 (by decide +kernel)).2]
    exact a16.b
  · unfold RAll
    rw [eH, eY, eB, eU]
    exact ⟨p, RP_sm (f3.sm (by decide +kernel)) a2, Ry_sm (f3.sm (by decide +kernel)) a3, RR_c (f3.sm (by decide +kernel)) (RR_m (f3.sm (by decide +kernel)) a4), RPl_sm (f3.sm (by decide +kernel)) (f3.sm (by decide +kernel)) a5, Rs_sm (f3.sm (by decide +kernel)) a6, Rt2_sm (f3.sm (by decide +kernel)) a7, Rf_sm (f3.sm (by decide +kernel)) a8, Rr_sm (f3.sm (by decide +kernel)) a9, RA_c (f3.sm (by decide +kernel)) (RA_m (f3.sm (by decide +kernel)) a10), RK_sm (f3.sm (by decide +kernel)) (by omega) a11, RG_sm (f3.sm (by decide +kernel)) a12, RSn_sm (f3.sm (by decide +kernel)) a13, RHi_sm (f3.sm (by decide +kernel)) (f3.sm (by decide +kernel)) a14, RYs_sm (f3.sm (by decide +kernel)) a15, RM_sm (f3.sm (by decide +kernel)) (f3.2.2 (by decide +kernel)) a16⟩
theorem k_pillar (x1 x2 x3 : Int32) (h : Hp) (A : RAll h) : St (fX11_pillar x1 x2 x3) (fX12_pillar x1 x2 x3) h := by
  obtain ⟨a1, a2, a3, a4, a5, a6, a7, a8, a9, a10, a11, a12, a13, a14, a15, a16⟩ := A
  obtain ⟨r, h2, h3, e1, e2, f2, f3, p⟩ := s_pillar x1 x2 x3 h a1
  have eH : nH h3 = nH h := by unfold nH; rw [f3.I 12 0 8 (by decide +kernel)]
  have eY : yr h3 = yr h := by unfold yr; rw [f3.I 12 0 5 (by decide +kernel)]
  have eB : nB h3 = nB h := by unfold nB; rw [f3.I 1 0 7 (by decide +kernel)]
  have eU : un h3 = un h := funext fun b => by unfold un; rw [f3.A 28 0 b (by decide +kernel)]
  refine ⟨r, h2, h3, e1, e2, ?_, ?_⟩
  · rw [(f2.2.2 (by decide +kernel)).1, (f2.2.2 (by decide +kernel)).2]
    exact a16.b
  · unfold RAll
    rw [eH, eY, eB, eU]
    exact ⟨p, RP_sm (f3.sm (by decide +kernel)) a2, Ry_sm (f3.sm (by decide +kernel)) a3, RR_c (f3.sm (by decide +kernel)) (RR_m (f3.sm (by decide +kernel)) a4), RPl_sm (f3.sm (by decide +kernel)) (f3.sm (by decide +kernel)) a5, Rs_sm (f3.sm (by decide +kernel)) a6, Rt2_sm (f3.sm (by decide +kernel)) a7, Rf_sm (f3.sm (by decide +kernel)) a8, Rr_sm (f3.sm (by decide +kernel)) a9, RA_c (f3.sm (by decide +kernel)) (RA_m (f3.sm (by decide +kernel)) a10), RK_sm (f3.sm (by decide +kernel)) (by omega) a11, RG_sm (f3.sm (by decide +kernel)) a12, RSn_sm (f3.sm (by decide +kernel)) a13, RHi_sm (f3.sm (by decide +kernel)) (f3.sm (by decide +kernel)) a14, RYs_sm (f3.sm (by decide +kernel)) a15, RM_sm (f3.sm (by decide +kernel)) (f3.2.2 (by decide +kernel)) a16⟩
theorem k_changed (x1 x2 x3 x4 : Int32) (h : Hp) (A : RAll h) : St (fX11_changed x1 x2 x3 x4) (fX12_changed x1 x2 x3 x4) h := by
  obtain ⟨a1, a2, a3, a4, a5, a6, a7, a8, a9, a10, a11, a12, a13, a14, a15, a16⟩ := A
  obtain ⟨r, h2, h3, e1, e2, f2, f3, p⟩ := s_changed x1 x2 x3 x4 h a2
  have eH : nH h3 = nH h := by unfold nH; rw [f3.I 12 0 8 (by decide +kernel)]
  have eY : yr h3 = yr h := by unfold yr; rw [f3.I 12 0 5 (by decide +kernel)]
  have eB : nB h3 = nB h := by unfold nB; rw [f3.I 1 0 7 (by decide +kernel)]
  have eU : un h3 = un h := funext fun b => by unfold un; rw [f3.A 28 0 b (by decide +kernel)]
  refine ⟨r, h2, h3, e1, e2, ?_, ?_⟩
  · rw [(f2.2.2 (by decide +kernel)).1, (f2.2.2 (by decide +kernel)).2]
    exact a16.b
  · unfold RAll
    rw [eH, eY, eB, eU]
    exact ⟨RC_sm (f3.sm (by decide +kernel)) a1, p, Ry_sm (f3.sm (by decide +kernel)) a3, RR_c (f3.sm (by decide +kernel)) (RR_m (f3.sm (by decide +kernel)) a4), RPl_sm (f3.sm (by decide +kernel)) (f3.sm (by decide +kernel)) a5, Rs_sm (f3.sm (by decide +kernel)) a6, Rt2_sm (f3.sm (by decide +kernel)) a7, Rf_sm (f3.sm (by decide +kernel)) a8, Rr_sm (f3.sm (by decide +kernel)) a9, RA_c (f3.sm (by decide +kernel)) (RA_m (f3.sm (by decide +kernel)) a10), RK_sm (f3.sm (by decide +kernel)) (by omega) a11, RG_sm (f3.sm (by decide +kernel)) a12, RSn_sm (f3.sm (by decide +kernel)) a13, RHi_sm (f3.sm (by decide +kernel)) (f3.sm (by decide +kernel)) a14, RYs_sm (f3.sm (by decide +kernel)) a15, RM_sm (f3.sm (by decide +kernel)) (f3.2.2 (by decide +kernel)) a16⟩
theorem k_ends (x1 : Int32) (h : Hp) (A : RAll h) : St (fX11_ends x1) (fX12_ends x1) h := by
  obtain ⟨a1, a2, a3, a4, a5, a6, a7, a8, a9, a10, a11, a12, a13, a14, a15, a16⟩ := A
  obtain ⟨r, h2, h3, e1, e2, f2, f3, p⟩ := s_ends x1 h a3 a4
  have eH : nH h3 = nH h := by unfold nH; rw [f3.I 12 0 8 (by decide +kernel)]
  have eY : yr h3 = yr h := by unfold yr; rw [f3.I 12 0 5 (by decide +kernel)]
  have eB : nB h3 = nB h := by unfold nB; rw [f3.I 1 0 7 (by decide +kernel)]
  have eU : un h3 = un h := funext fun b => by unfold un; rw [f3.A 28 0 b (by decide +kernel)]
  refine ⟨r, h2, h3, e1, e2, ?_, ?_⟩
  · rw [(f2.2.2 (by decide +kernel)).1, (f2.2.2 (by decide +kernel)).2]
    exact a16.b
  · unfold RAll
    rw [eH, eY, eB, eU]
    exact ⟨RC_sm (f3.sm (by decide +kernel)) a1, RP_sm (f3.sm (by decide +kernel)) a2, Ry_sm (f3.sm (by decide +kernel)) a3, p.1, RPl_sm (f3.sm (by decide +kernel)) (f3.sm (by decide +kernel)) a5, Rs_sm (f3.sm (by decide +kernel)) a6, Rt2_sm (f3.sm (by decide +kernel)) a7, Rf_sm (f3.sm (by decide +kernel)) a8, Rr_sm (f3.sm (by decide +kernel)) a9, RA_c (f3.sm (by decide +kernel)) (RA_m (f3.sm (by decide +kernel)) a10), RK_sm (f3.sm (by decide +kernel)) (by omega) a11, RG_sm (f3.sm (by decide +kernel)) a12, RSn_sm (f3.sm (by decide +kernel)) a13, RHi_sm (f3.sm (by decide +kernel)) (f3.sm (by decide +kernel)) a14, RYs_sm (f3.sm (by decide +kernel)) a15, RM_sm (f3.sm (by decide +kernel)) (f3.2.2 (by decide +kernel)) a16⟩
theorem k_sell (x1 x2 : Int32) (h : Hp) (A : RAll h) : St (fX11_sell x1 x2) (fX12_sell x1 x2) h := by
  obtain ⟨a1, a2, a3, a4, a5, a6, a7, a8, a9, a10, a11, a12, a13, a14, a15, a16⟩ := A
  obtain ⟨r, h2, h3, e1, e2, f2, f3, p⟩ := s_sell x1 x2 h a2 a3 a5 a6
  have eH : nH h3 = nH h := by unfold nH; rw [f3.I 12 0 8 (by decide +kernel)]
  have eY : yr h3 = yr h := by unfold yr; rw [f3.I 12 0 5 (by decide +kernel)]
  have eB : nB h3 = nB h := by unfold nB; rw [f3.I 1 0 7 (by decide +kernel)]
  have eU : un h3 = un h := funext fun b => by unfold un; rw [f3.A 28 0 b (by decide +kernel)]
  refine ⟨r, h2, h3, e1, e2, ?_, ?_⟩
  · rw [(f2.2.2 (by decide +kernel)).1, (f2.2.2 (by decide +kernel)).2]
    exact a16.b
  · unfold RAll
    rw [eH, eY, eB, eU]
    exact ⟨RC_sm (f3.sm (by decide +kernel)) a1, RP_sm (f3.sm (by decide +kernel)) a2, Ry_sm (f3.sm (by decide +kernel)) a3, RR_c (f3.sm (by decide +kernel)) (RR_m (f3.sm (by decide +kernel)) a4), p.1, p.2, Rt2_sm (f3.sm (by decide +kernel)) a7, Rf_sm (f3.sm (by decide +kernel)) a8, Rr_sm (f3.sm (by decide +kernel)) a9, RA_c (f3.sm (by decide +kernel)) (RA_m (f3.sm (by decide +kernel)) a10), RK_sm (f3.sm (by decide +kernel)) (by omega) a11, RG_sm (f3.sm (by decide +kernel)) a12, RSn_sm (f3.sm (by decide +kernel)) a13, RHi_sm (f3.sm (by decide +kernel)) (f3.sm (by decide +kernel)) a14, RYs_sm (f3.sm (by decide +kernel)) a15, RM_sm (f3.sm (by decide +kernel)) (f3.2.2 (by decide +kernel)) a16⟩
theorem k_lot (x1 x2 x3 x4 : Int32) (h : Hp) (A : RAll h) : St (fX11_lot x1 x2 x3 x4) (fX12_lot x1 x2 x3 x4) h := by
  obtain ⟨a1, a2, a3, a4, a5, a6, a7, a8, a9, a10, a11, a12, a13, a14, a15, a16⟩ := A
  obtain ⟨r, h2, h3, e1, e2, f2, f3, p⟩ := s_lot x1 x2 x3 x4 h a1 a10
  have eH : nH h3 = nH h := by unfold nH; rw [f3.I 12 0 8 (by decide +kernel)]
  have eY : yr h3 = yr h := by unfold yr; rw [f3.I 12 0 5 (by decide +kernel)]
  have eB : nB h3 = nB h := by unfold nB; rw [f3.I 1 0 7 (by decide +kernel)]
  have eU : un h3 = un h := funext fun b => by unfold un; rw [f3.A 28 0 b (by decide +kernel)]
  refine ⟨r, h2, h3, e1, e2, ?_, ?_⟩
  · rw [(f2.2.2 (by decide +kernel)).1, (f2.2.2 (by decide +kernel)).2]
    exact a16.b
  · unfold RAll
    rw [eH, eY, eB, eU]
    exact ⟨RC_sm (f3.sm (by decide +kernel)) a1, RP_sm (f3.sm (by decide +kernel)) a2, Ry_sm (f3.sm (by decide +kernel)) a3, RR_c (f3.sm (by decide +kernel)) (RR_m (f3.sm (by decide +kernel)) a4), RPl_sm (f3.sm (by decide +kernel)) (f3.sm (by decide +kernel)) a5, Rs_sm (f3.sm (by decide +kernel)) a6, Rt2_sm (f3.sm (by decide +kernel)) a7, Rf_sm (f3.sm (by decide +kernel)) a8, Rr_sm (f3.sm (by decide +kernel)) a9, p, RK_sm (f3.sm (by decide +kernel)) (by omega) a11, RG_sm (f3.sm (by decide +kernel)) a12, RSn_sm (f3.sm (by decide +kernel)) a13, RHi_sm (f3.sm (by decide +kernel)) (f3.sm (by decide +kernel)) a14, RYs_sm (f3.sm (by decide +kernel)) a15, RM_sm (f3.sm (by decide +kernel)) (f3.2.2 (by decide +kernel)) a16⟩
theorem k_offers (x1 x2 : Int32) (h : Hp) (A : RAll h) : St (fX11_offers x1 x2) (fX12_offers x1 x2) h := by
  obtain ⟨a1, a2, a3, a4, a5, a6, a7, a8, a9, a10, a11, a12, a13, a14, a15, a16⟩ := A
  obtain ⟨r, h2, h3, e1, e2, f2, f3, p⟩ := s_offers x1 x2 h a2 a9 a10
  have eH : nH h3 = nH h := by unfold nH; rw [f3.I 12 0 8 (by decide +kernel)]
  have eY : yr h3 = yr h := by unfold yr; rw [f3.I 12 0 5 (by decide +kernel)]
  have eB : nB h3 = nB h := by unfold nB; rw [f3.I 1 0 7 (by decide +kernel)]
  have eU : un h3 = un h := funext fun b => by unfold un; rw [f3.A 28 0 b (by decide +kernel)]
  refine ⟨r, h2, h3, e1, e2, ?_, ?_⟩
  · rw [(f2.2.2 (by decide +kernel)).1, (f2.2.2 (by decide +kernel)).2]
    exact a16.b
  · unfold RAll
    rw [eH, eY, eB, eU]
    exact ⟨RC_sm (f3.sm (by decide +kernel)) a1, RP_sm (f3.sm (by decide +kernel)) a2, Ry_sm (f3.sm (by decide +kernel)) a3, RR_c (f3.sm (by decide +kernel)) (RR_m (f3.sm (by decide +kernel)) a4), RPl_sm (f3.sm (by decide +kernel)) (f3.sm (by decide +kernel)) a5, Rs_sm (f3.sm (by decide +kernel)) a6, Rt2_sm (f3.sm (by decide +kernel)) a7, Rf_sm (f3.sm (by decide +kernel)) a8, Rr_sm (f3.sm (by decide +kernel)) a9, p, RK_sm (f3.sm (by decide +kernel)) (by omega) a11, RG_sm (f3.sm (by decide +kernel)) a12, RSn_sm (f3.sm (by decide +kernel)) a13, RHi_sm (f3.sm (by decide +kernel)) (f3.sm (by decide +kernel)) a14, RYs_sm (f3.sm (by decide +kernel)) a15, RM_sm (f3.sm (by decide +kernel)) (f3.2.2 (by decide +kernel)) a16⟩
theorem k_sunday (x1 x2 : Int32) (h : Hp) (A : RAll h) : St (fX11_sunday x1 x2) (fX12_sunday x1 x2) h := by
  obtain ⟨a1, a2, a3, a4, a5, a6, a7, a8, a9, a10, a11, a12, a13, a14, a15, a16⟩ := A
  obtain ⟨r, h2, h3, e1, e2, f2, f3, p⟩ := s_sunday x1 x2 h a1 a2 a3 a4 a5 a7.1 a14 a9 a13
  have eH : nH h3 = nH h := by unfold nH; rw [f3.I 12 0 8 (by decide +kernel)]
  have eY : yr h3 = yr h := by unfold yr; rw [f3.I 12 0 5 (by decide +kernel)]
  have eB : nB h3 = nB h := by unfold nB; rw [f3.I 1 0 7 (by decide +kernel)]
  have eU : un h3 = un h := funext fun b => by unfold un; rw [f3.A 28 0 b (by decide +kernel)]
  refine ⟨r, h2, h3, e1, e2, ?_, ?_⟩
  · rw [(f2.2.2 (by decide +kernel)).1, (f2.2.2 (by decide +kernel)).2]
    exact a16.b
  · unfold RAll
    rw [eH, eY, eB, eU]
    exact ⟨RC_sm (f3.sm (by decide +kernel)) a1, RP_sm (f3.sm (by decide +kernel)) a2, Ry_sm (f3.sm (by decide +kernel)) a3, RR_c (f3.sm (by decide +kernel)) (RR_m (f3.sm (by decide +kernel)) a4), RPl_sm (f3.sm (by decide +kernel)) (f3.sm (by decide +kernel)) a5, Rs_sm (f3.sm (by decide +kernel)) a6, Rt2_sm (f3.sm (by decide +kernel)) a7, Rf_sm (f3.sm (by decide +kernel)) a8, Rr_sm (f3.sm (by decide +kernel)) a9, RA_c (f3.sm (by decide +kernel)) (RA_m (f3.sm (by decide +kernel)) a10), RK_sm (f3.sm (by decide +kernel)) (by omega) a11, RG_sm (f3.sm (by decide +kernel)) a12, p, RHi_sm (f3.sm (by decide +kernel)) (f3.sm (by decide +kernel)) a14, RYs_sm (f3.sm (by decide +kernel)) a15, RM_sm (f3.sm (by decide +kernel)) (f3.2.2 (by decide +kernel)) a16⟩
theorem k_change (x1 : Int32) (h : Hp) (A : RAll h) : St (fX11_change x1) (fX12_change x1) h := by
  obtain ⟨a1, a2, a3, a4, a5, a6, a7, a8, a9, a10, a11, a12, a13, a14, a15, a16⟩ := A
  obtain ⟨r, h2, h3, e1, e2, f2, f3, p⟩ := s_change x1 h a1 a2 a3 a14 a12
  have eH : nH h3 = nH h := by unfold nH; rw [f3.I 12 0 8 (by decide +kernel)]
  have eY : yr h3 = yr h := by unfold yr; rw [f3.I 12 0 5 (by decide +kernel)]
  have eB : nB h3 = nB h := by unfold nB; rw [f3.I 1 0 7 (by decide +kernel)]
  have eU : un h3 = un h := funext fun b => by unfold un; rw [f3.A 28 0 b (by decide +kernel)]
  refine ⟨r, h2, h3, e1, e2, ?_, ?_⟩
  · rw [(f2.2.2 (by decide +kernel)).1, (f2.2.2 (by decide +kernel)).2]
    exact a16.b
  · unfold RAll
    rw [eH, eY, eB, eU]
    exact ⟨RC_sm (f3.sm (by decide +kernel)) a1, RP_sm (f3.sm (by decide +kernel)) a2, Ry_sm (f3.sm (by decide +kernel)) a3, RR_c (f3.sm (by decide +kernel)) (RR_m (f3.sm (by decide +kernel)) a4), RPl_sm (f3.sm (by decide +kernel)) (f3.sm (by decide +kernel)) a5, Rs_sm (f3.sm (by decide +kernel)) a6, Rt2_sm (f3.sm (by decide +kernel)) a7, Rf_sm (f3.sm (by decide +kernel)) a8, Rr_sm (f3.sm (by decide +kernel)) a9, RA_c (f3.sm (by decide +kernel)) (RA_m (f3.sm (by decide +kernel)) a10), RK_sm (f3.sm (by decide +kernel)) (by omega) a11, p, RSn_sm (f3.sm (by decide +kernel)) a13, RHi_sm (f3.sm (by decide +kernel)) (f3.sm (by decide +kernel)) a14, RYs_sm (f3.sm (by decide +kernel)) a15, RM_sm (f3.sm (by decide +kernel)) (f3.2.2 (by decide +kernel)) a16⟩
theorem k_beside (x1 : Int32) (h : Hp) (A : RAll h) : St (fX11_beside x1) (fX12_beside x1) h := by
  obtain ⟨a1, a2, a3, a4, a5, a6, a7, a8, a9, a10, a11, a12, a13, a14, a15, a16⟩ := A
  obtain ⟨r, h2, h3, e1, e2, f2, f3, p⟩ := s_beside x1 h a1 a2 a3 a4 a5 a7.1 a14
  have eH : nH h3 = nH h := by unfold nH; rw [f3.I 12 0 8 (by decide +kernel)]
  have eY : yr h3 = yr h := by unfold yr; rw [f3.I 12 0 5 (by decide +kernel)]
  have eB : nB h3 = nB h := by unfold nB; rw [f3.I 1 0 7 (by decide +kernel)]
  have eU : un h3 = un h := funext fun b => by unfold un; rw [f3.A 28 0 b (by decide +kernel)]
  refine ⟨r, h2, h3, e1, e2, ?_, ?_⟩
  · rw [(f2.2.2 (by decide +kernel)).1, (f2.2.2 (by decide +kernel)).2]
    exact a16.b
  · unfold RAll
    rw [eH, eY, eB, eU]
    exact ⟨RC_sm (f3.sm (by decide +kernel)) a1, RP_sm (f3.sm (by decide +kernel)) a2, Ry_sm (f3.sm (by decide +kernel)) a3, RR_c (f3.sm (by decide +kernel)) (RR_m (f3.sm (by decide +kernel)) a4), RPl_sm (f3.sm (by decide +kernel)) (f3.sm (by decide +kernel)) a5, Rs_sm (f3.sm (by decide +kernel)) a6, Rt2_sm (f3.sm (by decide +kernel)) a7, Rf_sm (f3.sm (by decide +kernel)) a8, Rr_sm (f3.sm (by decide +kernel)) a9, RA_c (f3.sm (by decide +kernel)) (RA_m (f3.sm (by decide +kernel)) a10), RK_sm (f3.sm (by decide +kernel)) (by omega) a11, RG_sm (f3.sm (by decide +kernel)) a12, RSn_sm (f3.sm (by decide +kernel)) a13, p, RYs_sm (f3.sm (by decide +kernel)) a15, RM_sm (f3.sm (by decide +kernel)) (f3.2.2 (by decide +kernel)) a16⟩
