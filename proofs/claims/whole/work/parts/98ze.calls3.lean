/-! ===== level 2: right, household kept whole ===== -/
theorem na_isRun (a1 a2 a3 : Int32) (h : Hp) : NA h (fX12_isRun a1 a2 a3 h) := by
  unfold fX12_isRun
  exact NA_br (NA_some ⟨rfl, rfl⟩) (NA_br (NA_some ⟨rfl, rfl⟩) (NA_br (NA_some ⟨rfl, rfl⟩) (NA_gd (NA_br (NA_some ⟨rfl, rfl⟩) (NA_some ⟨rfl, rfl⟩)))))
theorem na_right (a1 a2 a3 a4 a5 a6 a7 a8 : Int32) (h : Hp) : NA h (fX12_right a1 a2 a3 a4 a5 a6 a7 a8 h) := by
  unfold fX12_right
  refine NA_lb (NA_lb ?_)
  refine NA_br ?_ ?_
  all_goals
    refine NA_br (NA_some ⟨rfl, rfl⟩) (NA_bd (NA_to (g := sI h 12 0 0 0) ⟨rfl, rfl⟩ (na_isRun _ _ _ _)) fun r h' q => ?_)
    refine NA_br (NA_some q) (NA_br (NA_some q) (NA_br (NA_some q) (NA_br (NA_some q) (NA_br (NA_some q) (NA_bd (NA_to q (na_adds _ _ _ _ _ _ _ _ _ _ _)) fun r h' q => NA_some q)))))
theorem k_right (x1 x2 x3 x4 x5 x6 x7 x8 : Int32) (q8 : x8 = 0 ∨ x8 = 1) (h : Hp) (A : RAll h) : St (fX11_right x1 x2 x3 x4 x5 x6 x7 x8) (fX12_right x1 x2 x3 x4 x5 x6 x7 x8) h := by
  obtain ⟨a1, a2, a3, a4, a5, a6, a7, a8, a9, a10, a11, a12, a13, a14, a15, a16⟩ := A
  obtain ⟨r, h2, h3, e1, e2, f2, f3, p⟩ := s_right x1 x2 x3 x4 x5 x6 x7 x8 q8 h a1 a2 a3 a4
  have eH : nH h3 = nH h := by unfold nH; rw [f3.I 12 0 8 (by decide +kernel)]
  have eY : yr h3 = yr h := by unfold yr; rw [f3.I 12 0 5 (by decide +kernel)]
  have eB : nB h3 = nB h := by unfold nB; rw [f3.I 1 0 7 (by decide +kernel)]
  have eU : un h3 = un h := funext fun b => by unfold un; rw [f3.A 28 0 b (by decide +kernel)]
  have rm : RM h3 := by
    have n3 := p.1.2.2.1
    have p2 := p.2
    unfold RM at a16 ⊢
    rw [eH, eY]
    rcases p2 with ⟨w1, w2, w3⟩ | ⟨w1, w2, w3⟩
    · rw [w1, w2, w3]; exact a16
    · rw [w1] at n3 ⊢
      rw [w2, w3]
      omega
  have na := na_right _ _ _ _ _ _ _ _ _ _ _ e2
  refine ⟨r, h2, h3, e1, e2, ?_, ?_⟩
  · rw [← na.1, ← na.2]
    exact rm.b
  · unfold RAll
    rw [eH, eY, eB, eU]
    exact ⟨RC_sm (f3.sm (by decide +kernel)) a1, RP_sm (f3.sm (by decide +kernel)) a2, Ry_sm (f3.sm (by decide +kernel)) a3, p.1, RPl_sm (f3.sm (by decide +kernel)) (f3.sm (by decide +kernel)) a5, Rs_sm (f3.sm (by decide +kernel)) a6, Rt2_sm (f3.sm (by decide +kernel)) a7, Rf_sm (f3.sm (by decide +kernel)) a8, Rr_sm (f3.sm (by decide +kernel)) a9, RA_c (f3.sm (by decide +kernel)) (RA_m (f3.sm (by decide +kernel)) a10), RK_sm (f3.sm (by decide +kernel)) (by omega) a11, RG_sm (f3.sm (by decide +kernel)) a12, RSn_sm (f3.sm (by decide +kernel)) a13, RHi_sm (f3.sm (by decide +kernel)) (f3.sm (by decide +kernel)) a14, RYs_sm (f3.sm (by decide +kernel)) a15, rm⟩
theorem k_household (x1 x2 x3 : Int32) (h : Hp) (A : RAll h) : St (fX11_household x1 x2 x3) (fX12_household x1 x2 x3) h := by
  obtain ⟨a1, a2, a3, a4, a5, a6, a7, a8, a9, a10, a11, a12, a13, a14, a15, a16⟩ := A
  obtain ⟨r, h2, h3, e1, e2, f2, f3, p⟩ := s_household x1 x2 x3 h a2
  have eY : yr h3 = yr h := by unfold yr; rw [f3.I 12 0 5 (by decide +kernel)]
  have eR : nR h3 = nR h := by unfold nR; rw [f3.I 12 0 9 (by decide +kernel)]
  have eB : nB h3 = nB h := by unfold nB; rw [f3.I 1 0 7 (by decide +kernel)]
  have eU : un h3 = un h := funext fun b => by unfold un; rw [f3.A 28 0 b (by decide +kernel)]
  have n3 := p.1.2.2.1
  have y3 : yr h ≤ 199 := a3.e.2.2
  have hle : nH h ≤ nH h3 := by rcases p.2 with w | w <;> omega
  have rm : RM h3 := by
    unfold RM at a16 ⊢
    rw [eR, eY]
    rcases p.2 with ⟨w1, w2, w3, -⟩ | ⟨w1, w2, w3, -⟩
    · rw [w1, w2, w3]; exact a16
    · rw [w3] at n3 ⊢
      rw [w1, w2]
      omega
  have ys : RYs h3 := fun i hi => by
    have e88 : cnt (fun y => !decide (gI h3 88 0 (200 * i + y) = -1)) (yr h3) = cnt (fun y => !decide (gI h 88 0 (200 * i + y) = -1)) (yr h) := by
      rw [eY]
      exact cnt_ext fun y _ => by rw [f3.A 88 0 _ (by decide +kernel)]
    rw [e88]
    rcases p.2 with ⟨w1, w2, w3, w4⟩ | ⟨w1, w2, w3, w4, w5⟩
    · rw [w4 i]
      exact a15 i (by omega)
    · by_cases z : i = nH h
      · rw [z, w5, cnt_0 fun y hy => by
          rw [a14.2.2.2.2 y (nH h) (by omega) (by omega) (Or.inr (Nat.le_refl _))]
          rfl]
        rfl
      · rw [w4 i (by omega)]
        exact a15 i (by omega)
  have na := na_household _ _ _ _ _ _ e2
  refine ⟨r, h2, h3, e1, e2, ?_, ?_⟩
  · rw [← na.1, ← na.2]
    exact rm.b
  · unfold RAll
    rw [eY, eB, eU]
    exact ⟨RC_sm (f3.sm (by decide +kernel)) a1, p.1, Ry_sm (f3.sm (by decide +kernel)) a3, RR_mono (RR_c (f3.sm (by decide +kernel)) (RR_m (f3.sm (by decide +kernel)) a4)) hle (Int.le_refl _) (Nat.le_refl _) (fun _ _ => rfl), (fun i hi => by have w := RPl_sm (c := h) (c' := h3) (m := h) (m' := h3) (f3.sm (by decide +kernel)) (f3.sm (by decide +kernel)) a5 i hi; exact ⟨w.1, w.2.1, by omega⟩), Rs_sm (f3.sm (by decide +kernel)) a6, Rt2_sm (f3.sm (by decide +kernel)) a7, Rf_sm (f3.sm (by decide +kernel)) a8, Rr_sm (f3.sm (by decide +kernel)) a9, RA_mono (RA_c (f3.sm (by decide +kernel)) (RA_m (f3.sm (by decide +kernel)) a10)) hle (Nat.le_refl _) (fun _ _ => rfl), RK_sm (f3.sm (by decide +kernel)) (by omega) a11, RG_sm (f3.sm (by decide +kernel)) a12, RSn_sm (f3.sm (by decide +kernel)) a13, RHi_mono (RHi_sm (f3.sm (by decide +kernel)) (f3.sm (by decide +kernel)) a14) hle (Nat.le_refl _) (fun _ _ => rfl), ys, rm⟩
