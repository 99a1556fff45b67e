/-! ===== level 2: gone makes no cell on the reference's side ===== -/
theorem na_isThere (a1 : Int32) (h : Hp) : NA h (fX12_isThere a1 h) := by
  unfold fX12_isThere
  exact NA_br (NA_some ⟨rfl, rfl⟩) (NA_gd (NA_br (NA_some ⟨rfl, rfl⟩) (NA_some ⟨rfl, rfl⟩)))
theorem na_gone45 : ∀ (n : Nat) (a1 a2 a3 a4 a5 : Int32) (h : Hp), NA h (fX12_gone_L45 n a1 a2 a3 a4 a5 h) := by
  intro n
  induction n with
  | zero => intro a1 a2 a3 a4 a5 h; exact NA_none
  | succ n ih =>
    intro a1 a2 a3 a4 a5 h
    rw [fX12_gone_L45]
    refine NA_br (NA_some ⟨rfl, rfl⟩) (NA_gd (NA_lb ?_))
    exact NA_br (ih _ _ _ _ _ _) (NA_gd (NA_br (NA_gd (NA_br (ih _ _ _ _ _ _) (NA_gd (NA_br (ih _ _ _ _ _ _) (NA_br (ih _ _ _ _ _ _) (ih _ _ _ _ _ _)))))) (ih _ _ _ _ _ _)))
theorem na_stops (a1 : Int32) (h : Hp) : NA h (fX12_stops a1 h) := by
  unfold fX12_stops
  repeat' (first
    | exact NA_some ⟨rfl, rfl⟩
    | (with_reducible refine NA_gd ?_)
    | (with_reducible refine NA_lb ?_)
    | (with_reducible refine NA_br ?_ ?_))
theorem na_gone136 : ∀ (n : Nat) (a1 a2 a3 a4 a5 : Int32) (h : Hp), NA h (fX12_gone_L136 n a1 a2 a3 a4 a5 h) := by
  intro n
  induction n with
  | zero => intro a1 a2 a3 a4 a5 h; exact NA_none
  | succ n ih =>
    intro a1 a2 a3 a4 a5 h
    rw [fX12_gone_L136]
    have st : ∀ h30, gC h30 = gC h ∧ gS h30 = gS h → NA h (bd (fX12_stops a5 h30) (fun r31 h32 => lb (a5 + 1) (fun v33 => fX12_gone_L136 n a1 a2 a3 a4 v33 h32))) := fun h30 q => NA_bd (NA_to q (na_stops _ _)) fun r h' q' => NA_to q' (ih _ _ _ _ _ _)
    refine NA_br (NA_some ⟨rfl, rfl⟩) (NA_gd (NA_br (ih _ _ _ _ _ _) (NA_gd (NA_br (NA_gd (NA_br (NA_gd (NA_lb (NA_lb ?_))) (ih _ _ _ _ _ _))) (ih _ _ _ _ _ _)))))
    refine NA_br (st h ⟨rfl, rfl⟩) (NA_br (st h ⟨rfl, rfl⟩) ?_)
    iterate 8 refine NA_gd ?_
    exact NA_bd (na_adds _ _ _ _ _ _ _ _ _ _ _) fun r h' q => st h' q
