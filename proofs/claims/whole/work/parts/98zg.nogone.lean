/-! ===== level 2: gone makes no cell on the reference's side ===== -/
theorem na_isThere (a1 : Int32) (h : Hp) : NA h (fX12_isThere a1 h) := by
  unfold fX12_isThere
  exact NA_br (NA_some ⟨rfl, rfl⟩) (NA_gd (NA_br (NA_some ⟨rfl, rfl⟩) (NA_some ⟨rfl, rfl⟩)))
theorem na_gone45 : ∀ (n : Nat) (a1 a2 a3 a4 a5 : Int32) (h : Hp), NA h (fX12_gone_L45 n a1 a2 a3 a4 a5 h) := by
  intro n
  induction n with
  | zero => intro a1 a2 a3 a4 a5 h; exact NA_none
  | succ n ih =>
    intro a1 a2 a3 a4 a5 h
    rw [fX12_gone_L45]
    refine NA_br (NA_some ⟨rfl, rfl⟩) (NA_gd (NA_lb ?_))
    exact NA_br (ih _ _ _ _ _ _) (NA_gd (NA_br (NA_gd (NA_br (ih _ _ _ _ _ _) (NA_gd (NA_br (ih _ _ _ _ _ _) (NA_br (ih _ _ _ _ _ _) (ih _ _ _ _ _ _)))))) (ih _ _ _ _ _ _)))
theorem na_stops (a1 : Int32) (h : Hp) : NA h (fX12_stops a1 h) := by
  unfold fX12_stops
  repeat' (first
    | exact NA_some ⟨rfl, rfl⟩
    | (with_reducible refine NA_gd ?_)
    | (with_reducible refine NA_lb ?_)
    | (with_reducible refine NA_br ?_ ?_))
theorem na_gone136 : ∀ (n : Nat) (a1 a2 a3 a4 a5 : Int32) (h : Hp), NA h (fX12_gone_L136 n a1 a2 a3 a4 a5 h) := by
  intro n
  induction n with
  | zero => intro a1 a2 a3 a4 a5 h; exact NA_none
  | succ n ih =>
    intro a1 a2 a3 a4 a5 h
    rw [fX12_gone_L136]
    have st : ∀ h30, gC h30 = gC h ∧ gS h30 = gS h → NA h (bd (fX12_stops a5 h30) (fun r31 h32 => lb (a5 + 1) (fun v33 => fX12_gone_L136 n a1 a2 a3 a4 v33 h32))) := fun h30 q => NA_bd (NA_to q (na_stops _ _)) fun r h' q' => NA_to q' (ih _ _ _ _ _ _)
    refine NA_br (NA_some ⟨rfl, rfl⟩) (NA_gd (NA_br (ih _ _ _ _ _ _) (NA_gd (NA_br (NA_gd (NA_br (NA_gd (NA_lb (NA_lb ?_))) (ih _ _ _ _ _ _))) (ih _ _ _ _ _ _)))))
    refine NA_br (st h ⟨rfl, rfl⟩) (NA_br (st h ⟨rfl, rfl⟩) ?_)
    iterate 8 refine NA_gd ?_
    exact NA_bd (na_adds _ _ _ _ _ _ _ _ _ _ _) fun r h' q => st h' q
theorem na_owns5 : ∀ (n : Nat) (a1 a2 a3 : Int32) (h : Hp), NA h (fX12_owns_L5 n a1 a2 a3 h) := by
  intro n
  induction n with
  | zero => intro a1 a2 a3 h; exact NA_none
  | succ n ih =>
    intro a1 a2 a3 h
    rw [fX12_owns_L5]
    exact NA_br (NA_some ⟨rfl, rfl⟩) (NA_gd (NA_lb (NA_lb (NA_to ⟨rfl, rfl⟩ (ih _ _ _ (sI h 69 0 _ a2))))))
theorem na_owns (a1 a2 : Int32) (h : Hp) : NA h (fX12_owns a1 a2 h) := by
  unfold fX12_owns
  exact NA_lb (NA_bd (na_owns5 _ _ _ _ _) fun r h' q => NA_some q)
theorem na_gone286 : ∀ (n : Nat) (a1 a2 a4 a5 : Int32) (h : Hp), NA h (fX12_gone_L286 n a1 a2 a4 a5 h) := by
  intro n
  induction n with
  | zero => intro a1 a2 a4 a5 h; exact NA_none
  | succ n ih =>
    intro a1 a2 a4 a5 h
    rw [fX12_gone_L286]
    exact NA_br (NA_some ⟨rfl, rfl⟩) (NA_gd (NA_br (NA_bd (na_owns _ _ _) fun r h' q => NA_lb (NA_to q (ih _ _ _ _ _))) (NA_lb (ih _ _ _ _ _))))
theorem na_gone (a1 a2 : Int32) (h : Hp) : NA h (fX12_gone a1 a2 h) := by
  unfold fX12_gone
  refine NA_lb (NA_bd (NA_to (g := sI h 12 0 0 0) ⟨rfl, rfl⟩ (na_isThere _ _)) fun r2 h3 q3 => NA_br (NA_some q3) (NA_lb ?_))
  have st : ∀ h5, gC h5 = gC h ∧ gS h5 = gS h → NA h (lb (gI h5 12 0 9) (fun v6 => bd (fX12_gone_L45 FU a1 a2 v6 0 0 h5) (fun t19 h18 => lb t19.1 (fun v20 => lb t19.2 (fun v21 => br (((gI h18 12 0 9) + v20) ≤ 100) (bd (fX12_gone_L136 FU a1 a2 v6 v20 0 h18) (fun v49 h47 => bd (fX12_gone_L286 FU a1 a2 v20 0 h47) (fun v57 h55 => gd (ib a1 12) (lb (sI h55 68 0 (ix a1) 1) (fun h59 => some (v20, h59)))))) (some ((-3), h18))))))) := fun h5 q5 => NA_lb (NA_bd (NA_to q5 (na_gone45 _ _ _ _ _ _ _)) fun t h18 q => NA_lb (NA_lb (NA_br (NA_bd (NA_to q (na_gone136 _ _ _ _ _ _ _)) fun v h47 q => NA_bd (NA_to q (na_gone286 _ _ _ _ _ _)) fun v h55 q => NA_gd (NA_lb (NA_some q))) (NA_some q))))
  exact NA_br (st h3 q3) (NA_bd (NA_to q3 (na_isThere _ _)) fun r h' q => NA_br (NA_some q) (NA_br (NA_some q) (st h' q)))
theorem k_gone (x1 x2 : Int32) (h : Hp) (A : RAll h) : St (fX11_gone x1 x2) (fX12_gone x1 x2) h := by
  obtain ⟨a1, a2, a3, a4, a5, a6, a7, a8, a9, a10, a11, a12, a13, a14, a15, a16⟩ := A
  obtain ⟨r, h2, h3, e1, e2, f2, f3, p⟩ := s_gone x1 x2 h a2 a3 a4 a5 a10
  have eH : nH h3 = nH h := by unfold nH; rw [f3.I 12 0 8 (by decide +kernel)]
  have eY : yr h3 = yr h := by unfold yr; rw [f3.I 12 0 5 (by decide +kernel)]
  have eB : nB h3 = nB h := by unfold nB; rw [f3.I 1 0 7 (by decide +kernel)]
  have eU : un h3 = un h := funext fun b => by unfold un; rw [f3.A 28 0 b (by decide +kernel)]
  have rm : RM h3 := by
    have n3 := p.2.1.2.2.1
    obtain ⟨n, w1, w2, w3⟩ := p.2.2.2.2
    unfold RM at a16 ⊢
    rw [eH, eY]
    rw [w1] at n3 ⊢
    rw [w2, w3]
    omega
  have na := na_gone _ _ _ _ _ e2
  refine ⟨r, h2, h3, e1, e2, ?_, ?_⟩
  · rw [← na.1, ← na.2]
    exact rm.b
  · unfold RAll
    rw [eH, eY, eB, eU]
    exact ⟨RC_sm (f3.sm (by decide +kernel)) a1, p.1, Ry_sm (f3.sm (by decide +kernel)) a3, p.2.1, p.2.2.1, Rs_sm (f3.sm (by decide +kernel)) a6, Rt2_sm (f3.sm (by decide +kernel)) a7, Rf_sm (f3.sm (by decide +kernel)) a8, Rr_sm (f3.sm (by decide +kernel)) a9, p.2.2.2.1, RK_sm (f3.sm (by decide +kernel)) (by omega) a11, RG_sm (f3.sm (by decide +kernel)) a12, RSn_sm (f3.sm (by decide +kernel)) a13, RHi_sm (f3.sm (by decide +kernel)) (f3.sm (by decide +kernel)) a14, RYs_sm (f3.sm (by decide +kernel)) a15, rm⟩
