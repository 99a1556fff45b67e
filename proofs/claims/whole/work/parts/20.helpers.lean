/-! functions and ties, printed by program (wip/gen/dec.py) -/
theorem dX11_isWithin_0 : decode cX11_isWithin 0 = .ok (.iload_n 0, 1) := by decide +kernel
theorem dX11_isWithin_1 : decode cX11_isWithin 1 = .ok (.iload_n 1, 1) := by decide +kernel
theorem dX11_isWithin_2 : decode cX11_isWithin 2 = .ok (.if_icmp .lt 12, 3) := by decide +kernel
theorem dX11_isWithin_5 : decode cX11_isWithin 5 = .ok (.iload_n 0, 1) := by decide +kernel
theorem dX11_isWithin_6 : decode cX11_isWithin 6 = .ok (.iload_n 2, 1) := by decide +kernel
theorem dX11_isWithin_7 : decode cX11_isWithin 7 = .ok (.if_icmp .gt 7, 3) := by decide +kernel
theorem dX11_isWithin_10 : decode cX11_isWithin 10 = .ok (.iconst 1, 1) := by decide +kernel
theorem dX11_isWithin_11 : decode cX11_isWithin 11 = .ok (.goto 4, 3) := by decide +kernel
theorem dX11_isWithin_14 : decode cX11_isWithin 14 = .ok (.iconst 0, 1) := by decide +kernel
theorem dX11_isWithin_15 : decode cX11_isWithin 15 = .ok (.ireturn, 1) := by decide +kernel
def fX11_isWithin (a0 : Int32) (a1 : Int32) (a2 : Int32) (h : Hp) : Int32 := br (a0 < a1) (0) (br (a2 < a0) (0) (1))
set_option maxRecDepth 20000 in
theorem tX11_isWithin {X : Cz} (a0 : Int32) (a1 : Int32) (a2 : Int32) (h : Hp) : Ct X mX11_isWithin true [zi a0, zi a1, zi a2] h (some (zi (fX11_isWithin a0 a1 a2 h))) h := by
  refine Ct_of (by decide) (Nat.le_of_ble_eq_true rfl) (ls := [(0, zi a0), (1, zi a1), (2, zi a2)]) rfl ?_
  obtain ⟨rE, hF⟩ : ∃ z, fX11_isWithin a0 a1 a2 h = z := ⟨_, rfl⟩
  rw [hF]
  unfold fX11_isWithin at hF
  refine v_iload_n (j := 0) dX11_isWithin_0 rfl ?_
  refine v_iload_n (j := 1) dX11_isWithin_1 rfl ?_
  refine v_icmp_lt dX11_isWithin_2 (by decide : _ = ((14 : Nat) : Int)) (fun q => ?_) (fun q => ?_)
  · replace hF := brT q hF
    refine v_iconst (v := 0) dX11_isWithin_14 (by decide) ?_
    subst hF
    exact v_zret rfl (Or.inl rfl) dX11_isWithin_15
  · replace hF := brF q hF
    refine v_iload_n (j := 0) dX11_isWithin_5 rfl ?_
    refine v_iload_n (j := 2) dX11_isWithin_6 rfl ?_
    refine v_icmp_gt dX11_isWithin_7 (by decide : _ = ((14 : Nat) : Int)) (fun q => ?_) (fun q => ?_)
    · replace hF := brT q hF
      refine v_iconst (v := 0) dX11_isWithin_14 (by decide) ?_
      subst hF
      exact v_zret rfl (Or.inl rfl) dX11_isWithin_15
    · replace hF := brF q hF
      refine v_iconst (v := 1) dX11_isWithin_10 (by decide) ?_
      refine v_goto (tgt := 15) dX11_isWithin_11 (by decide) ?_
      subst hF
      exact v_zret rfl (Or.inr rfl) dX11_isWithin_15
theorem zX11_isWithin (a0 : Int32) (a1 : Int32) (a2 : Int32) (h : Hp) : fX11_isWithin a0 a1 a2 h = 0 ∨ fX11_isWithin a0 a1 a2 h = 1 := by
  unfold fX11_isWithin
  try unfold br
  try unfold lb
  try dsimp only
  repeat' split
  all_goals first | exact Or.inl rfl | exact Or.inr rfl
theorem dX11_isYear_0 : decode cX11_isYear 0 = .ok (.iload_n 0, 1) := by decide +kernel
theorem dX11_isYear_1 : decode cX11_isYear 1 = .ok (.iconst 0, 1) := by decide +kernel
theorem dX11_isYear_2 : decode cX11_isYear 2 = .ok (.sipush 199, 3) := by decide +kernel
theorem dX11_isYear_5 : decode cX11_isYear 5 = .ok (.invokestatic 96, 3) := by decide +kernel
theorem dX11_isYear_8 : decode cX11_isYear 8 = .ok (.ireturn, 1) := by decide +kernel
def fX11_isYear (a0 : Int32) (h : Hp) : Int32 := fX11_isWithin a0 0 199 h
set_option maxRecDepth 20000 in
theorem tX11_isYear {X : Cz} (a0 : Int32) (h : Hp) : Ct X mX11_isYear true [zi a0] h (some (zi (fX11_isYear a0 h))) h := by
  refine Ct_of (by decide) (Nat.le_of_ble_eq_true rfl) (ls := [(0, zi a0)]) rfl ?_
  obtain ⟨rE, hF⟩ : ∃ z, fX11_isYear a0 h = z := ⟨_, rfl⟩
  rw [hF]
  unfold fX11_isYear at hF
  refine v_iload_n (j := 0) dX11_isYear_0 rfl ?_
  refine v_iconst (v := 0) dX11_isYear_1 (by decide) ?_
  refine v_sipush (v := 199) dX11_isYear_2 (by decide) ?_
  refine v_cS (hm := h) (av := [zi a0, zi 0, zi 199]) (st := []) (stn := [zi (fX11_isWithin a0 0 199 h)]) (tX11_isWithin a0 0 199 h) lcX11_isWithin mlX11_96 sxX11_isWithin rfl ⟨by decide, by decide⟩ (Nat.le_of_ble_eq_true rfl) dX11_isYear_5 rfl rfl ?_
  subst hF
  exact v_zret rfl (zX11_isWithin a0 0 199 h) dX11_isYear_8
theorem zX11_isYear (a0 : Int32) (h : Hp) : fX11_isYear a0 h = 0 ∨ fX11_isYear a0 h = 1 := by
  unfold fX11_isYear
  try unfold br
  try unfold lb
  try dsimp only
  repeat' split
  all_goals first | exact Or.inl rfl | exact Or.inr rfl | exact zX11_isWithin _ _ _ _ 
theorem dX11_isPoint_0 : decode cX11_isPoint 0 = .ok (.iload_n 0, 1) := by decide +kernel
theorem dX11_isPoint_1 : decode cX11_isPoint 1 = .ok (.iconst 0, 1) := by decide +kernel
theorem dX11_isPoint_2 : decode cX11_isPoint 2 = .ok (.bipush 60, 2) := by decide +kernel
theorem dX11_isPoint_4 : decode cX11_isPoint 4 = .ok (.invokestatic 96, 3) := by decide +kernel
theorem dX11_isPoint_7 : decode cX11_isPoint 7 = .ok (.ireturn, 1) := by decide +kernel
def fX11_isPoint (a0 : Int32) (h : Hp) : Int32 := fX11_isWithin a0 0 60 h
set_option maxRecDepth 20000 in
theorem tX11_isPoint {X : Cz} (a0 : Int32) (h : Hp) : Ct X mX11_isPoint true [zi a0] h (some (zi (fX11_isPoint a0 h))) h := by
  refine Ct_of (by decide) (Nat.le_of_ble_eq_true rfl) (ls := [(0, zi a0)]) rfl ?_
  obtain ⟨rE, hF⟩ : ∃ z, fX11_isPoint a0 h = z := ⟨_, rfl⟩
  rw [hF]
  unfold fX11_isPoint at hF
  refine v_iload_n (j := 0) dX11_isPoint_0 rfl ?_
  refine v_iconst (v := 0) dX11_isPoint_1 (by decide) ?_
  refine v_bipush (v := 60) dX11_isPoint_2 (by decide) ?_
  refine v_cS (hm := h) (av := [zi a0, zi 0, zi 60]) (st := []) (stn := [zi (fX11_isWithin a0 0 60 h)]) (tX11_isWithin a0 0 60 h) lcX11_isWithin mlX11_96 sxX11_isWithin rfl ⟨by decide, by decide⟩ (Nat.le_of_ble_eq_true rfl) dX11_isPoint_4 rfl rfl ?_
  subst hF
  exact v_zret rfl (zX11_isWithin a0 0 60 h) dX11_isPoint_7
theorem zX11_isPoint (a0 : Int32) (h : Hp) : fX11_isPoint a0 h = 0 ∨ fX11_isPoint a0 h = 1 := by
  unfold fX11_isPoint
  try unfold br
  try unfold lb
  try dsimp only
  repeat' split
  all_goals first | exact Or.inl rfl | exact Or.inr rfl | exact zX11_isWithin _ _ _ _ 
theorem dX11_isHouseholdAsTold_0 : decode cX11_isHouseholdAsTold 0 = .ok (.iload_n 0, 1) := by decide +kernel
theorem dX11_isHouseholdAsTold_1 : decode cX11_isHouseholdAsTold 1 = .ok (.iconst 0, 1) := by decide +kernel
theorem dX11_isHouseholdAsTold_2 : decode cX11_isHouseholdAsTold 2 = .ok (.bipush 99, 2) := by decide +kernel
theorem dX11_isHouseholdAsTold_4 : decode cX11_isHouseholdAsTold 4 = .ok (.invokestatic 96, 3) := by decide +kernel
theorem dX11_isHouseholdAsTold_7 : decode cX11_isHouseholdAsTold 7 = .ok (.ifCond .eq 27, 3) := by decide +kernel
theorem dX11_isHouseholdAsTold_10 : decode cX11_isHouseholdAsTold 10 = .ok (.iload_n 1, 1) := by decide +kernel
theorem dX11_isHouseholdAsTold_11 : decode cX11_isHouseholdAsTold 11 = .ok (.iconst 1, 1) := by decide +kernel
theorem dX11_isHouseholdAsTold_12 : decode cX11_isHouseholdAsTold 12 = .ok (.bipush 12, 2) := by decide +kernel
theorem dX11_isHouseholdAsTold_14 : decode cX11_isHouseholdAsTold 14 = .ok (.invokestatic 96, 3) := by decide +kernel
theorem dX11_isHouseholdAsTold_17 : decode cX11_isHouseholdAsTold 17 = .ok (.ifCond .eq 17, 3) := by decide +kernel
theorem dX11_isHouseholdAsTold_20 : decode cX11_isHouseholdAsTold 20 = .ok (.iload_n 2, 1) := by decide +kernel
theorem dX11_isHouseholdAsTold_21 : decode cX11_isHouseholdAsTold 21 = .ok (.iconst 0, 1) := by decide +kernel
theorem dX11_isHouseholdAsTold_22 : decode cX11_isHouseholdAsTold 22 = .ok (.bipush 9, 2) := by decide +kernel
theorem dX11_isHouseholdAsTold_24 : decode cX11_isHouseholdAsTold 24 = .ok (.invokestatic 96, 3) := by decide +kernel
theorem dX11_isHouseholdAsTold_27 : decode cX11_isHouseholdAsTold 27 = .ok (.ifCond .eq 7, 3) := by decide +kernel
theorem dX11_isHouseholdAsTold_30 : decode cX11_isHouseholdAsTold 30 = .ok (.iconst 1, 1) := by decide +kernel
theorem dX11_isHouseholdAsTold_31 : decode cX11_isHouseholdAsTold 31 = .ok (.goto 4, 3) := by decide +kernel
theorem dX11_isHouseholdAsTold_34 : decode cX11_isHouseholdAsTold 34 = .ok (.iconst 0, 1) := by decide +kernel
theorem dX11_isHouseholdAsTold_35 : decode cX11_isHouseholdAsTold 35 = .ok (.ireturn, 1) := by decide +kernel
def fX11_isHouseholdAsTold (a0 : Int32) (a1 : Int32) (a2 : Int32) (h : Hp) : Int32 := br ((fX11_isWithin a0 0 99 h) = 0) (0) (br ((fX11_isWithin a1 1 12 h) = 0) (0) (br ((fX11_isWithin a2 0 9 h) = 0) (0) (1)))
set_option maxRecDepth 20000 in
theorem tX11_isHouseholdAsTold {X : Cz} (a0 : Int32) (a1 : Int32) (a2 : Int32) (h : Hp) : Ct X mX11_isHouseholdAsTold true [zi a0, zi a1, zi a2] h (some (zi (fX11_isHouseholdAsTold a0 a1 a2 h))) h := by
  refine Ct_of (by decide) (Nat.le_of_ble_eq_true rfl) (ls := [(0, zi a0), (1, zi a1), (2, zi a2)]) rfl ?_
  obtain ⟨rE, hF⟩ : ∃ z, fX11_isHouseholdAsTold a0 a1 a2 h = z := ⟨_, rfl⟩
  rw [hF]
  unfold fX11_isHouseholdAsTold at hF
  refine v_iload_n (j := 0) dX11_isHouseholdAsTold_0 rfl ?_
  refine v_iconst (v := 0) dX11_isHouseholdAsTold_1 (by decide) ?_
  refine v_bipush (v := 99) dX11_isHouseholdAsTold_2 (by decide) ?_
  refine v_cS (hm := h) (av := [zi a0, zi 0, zi 99]) (st := []) (stn := [zi (fX11_isWithin a0 0 99 h)]) (tX11_isWithin a0 0 99 h) lcX11_isWithin mlX11_96 sxX11_isWithin rfl ⟨by decide, by decide⟩ (Nat.le_of_ble_eq_true rfl) dX11_isHouseholdAsTold_4 rfl rfl ?_
  refine v_if_eq dX11_isHouseholdAsTold_7 (by decide : _ = ((34 : Nat) : Int)) (fun q => ?_) (fun q => ?_)
  · replace hF := brT q hF
    refine v_iconst (v := 0) dX11_isHouseholdAsTold_34 (by decide) ?_
    subst hF
    exact v_zret rfl (Or.inl rfl) dX11_isHouseholdAsTold_35
  · replace hF := brF q hF
    refine v_iload_n (j := 1) dX11_isHouseholdAsTold_10 rfl ?_
    refine v_iconst (v := 1) dX11_isHouseholdAsTold_11 (by decide) ?_
    refine v_bipush (v := 12) dX11_isHouseholdAsTold_12 (by decide) ?_
    refine v_cS (hm := h) (av := [zi a1, zi 1, zi 12]) (st := []) (stn := [zi (fX11_isWithin a1 1 12 h)]) (tX11_isWithin a1 1 12 h) lcX11_isWithin mlX11_96 sxX11_isWithin rfl ⟨by decide, by decide⟩ (Nat.le_of_ble_eq_true rfl) dX11_isHouseholdAsTold_14 rfl rfl ?_
    refine v_if_eq dX11_isHouseholdAsTold_17 (by decide : _ = ((34 : Nat) : Int)) (fun q => ?_) (fun q => ?_)
    · replace hF := brT q hF
      refine v_iconst (v := 0) dX11_isHouseholdAsTold_34 (by decide) ?_
      subst hF
      exact v_zret rfl (Or.inl rfl) dX11_isHouseholdAsTold_35
    · replace hF := brF q hF
      refine v_iload_n (j := 2) dX11_isHouseholdAsTold_20 rfl ?_
      refine v_iconst (v := 0) dX11_isHouseholdAsTold_21 (by decide) ?_
      refine v_bipush (v := 9) dX11_isHouseholdAsTold_22 (by decide) ?_
      refine v_cS (hm := h) (av := [zi a2, zi 0, zi 9]) (st := []) (stn := [zi (fX11_isWithin a2 0 9 h)]) (tX11_isWithin a2 0 9 h) lcX11_isWithin mlX11_96 sxX11_isWithin rfl ⟨by decide, by decide⟩ (Nat.le_of_ble_eq_true rfl) dX11_isHouseholdAsTold_24 rfl rfl ?_
      refine v_if_eq dX11_isHouseholdAsTold_27 (by decide : _ = ((34 : Nat) : Int)) (fun q => ?_) (fun q => ?_)
      · replace hF := brT q hF
        refine v_iconst (v := 0) dX11_isHouseholdAsTold_34 (by decide) ?_
        subst hF
        exact v_zret rfl (Or.inl rfl) dX11_isHouseholdAsTold_35
      · replace hF := brF q hF
        refine v_iconst (v := 1) dX11_isHouseholdAsTold_30 (by decide) ?_
        refine v_goto (tgt := 35) dX11_isHouseholdAsTold_31 (by decide) ?_
        subst hF
        exact v_zret rfl (Or.inr rfl) dX11_isHouseholdAsTold_35
theorem zX11_isHouseholdAsTold (a0 : Int32) (a1 : Int32) (a2 : Int32) (h : Hp) : fX11_isHouseholdAsTold a0 a1 a2 h = 0 ∨ fX11_isHouseholdAsTold a0 a1 a2 h = 1 := by
  unfold fX11_isHouseholdAsTold
  try unfold br
  try unfold lb
  try dsimp only
  repeat' split
  all_goals first | exact Or.inl rfl | exact Or.inr rfl | exact zX11_isWithin _ _ _ _ 
