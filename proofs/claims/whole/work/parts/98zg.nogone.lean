/-! ===== level 2: gone makes no cell on the reference's side ===== -/
theorem na_isThere (a1 : Int32) (h : Hp) : NA h (fX12_isThere a1 h) := by
  unfold fX12_isThere
  exact NA_br (NA_some ⟨rfl, rfl⟩) (NA_gd (NA_br (NA_some ⟨rfl, rfl⟩) (NA_some ⟨rfl, rfl⟩)))
theorem na_gone45 : ∀ (n : Nat) (a1 a2 a3 a4 a5 : Int32) (h : Hp), NA h (fX12_gone_L45 n a1 a2 a3 a4 a5 h) := by
  intro n
  induction n with
  | zero => intro a1 a2 a3 a4 a5 h; exact NA_none
  | succ n ih =>
    intro a1 a2 a3 a4 a5 h
    rw [fX12_gone_L45]
    refine NA_br (NA_some ⟨rfl, rfl⟩) (NA_gd (NA_lb ?_))
    exact NA_br (ih _ _ _ _ _ _) (NA_gd (NA_br (NA_gd (NA_br (ih _ _ _ _ _ _) (NA_gd (NA_br (ih _ _ _ _ _ _) (NA_br (ih _ _ _ _ _ _) (ih _ _ _ _ _ _)))))) (ih _ _ _ _ _ _)))
