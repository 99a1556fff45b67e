/-! ===== level 2: what a call does not touch stays ===== -/
theorem Ry_sm {h h' : Hp} (e : Sm [13005, 12011] h h') (R : Ry h) : Ry h' := by
  unfold Ry at R ⊢
  rw [e.I 12 0 5 (by decide), e.I 11 0 11 (by decide)]
  exact R
theorem Rs_sm {h h' : Hp} (e : Sm [4002, 13011] h h') (R : Rs h) : Rs h' := by
  unfold Rs at R ⊢
  rw [e.I 3 0 2 (by decide), e.I 12 0 11 (by decide)]
  exact R
theorem Rt2_sm {h h' : Hp} (e : Sm [12012, 12013, 13016, 13017] h h') (R : Rt2 h) : Rt2 h' := by
  unfold Rt2 Rt at R ⊢
  rw [e.I 11 0 12 (by decide), e.I 11 0 13 (by decide), e.I 12 0 16 (by decide), e.I 12 0 17 (by decide)]
  exact R
theorem Rf_sm {h h' : Hp} (e : Sm [12014, 13012] h h') (R : Rf h) : Rf h' := by
  unfold Rf at R ⊢
  rw [e.J 11 0 14 (by decide), e.J 12 0 12 (by decide)]
  exact R
theorem Rr_sm {h h' : Hp} (e : Sm [38, 39, 40, 54, 55, 56] h h') (R : Rr h) : Rr h' := by
  refine ⟨fun p hp => ?_, fun j hj => ?_⟩
  · have := R.1 p hp
    rw [e.A 39 0 p (by decide), e.A 54 0 p (by decide), e.A 55 0 p (by decide), e.A 40 0 p (by decide)]
    exact this
  · rw [e.AJ 38 0 j (by decide), e.AJ 56 0 j (by decide)]
    exact R.2 j hj
theorem RK_sm {h h' : Hp} (e : Sm [1009, 1012, 13056, 13060, 13061, 21, 22, 96, 98] h h') (eH : nH h ≤ nH h') (R : RK h) : RK h' := by
  refine ⟨?_, fun z => ?_⟩
  · rw [e.I 0 0 9 (by decide), e.I 12 0 56 (by decide)]
    exact R.1
  · rw [e.I 12 0 56 (by decide)] at z
    obtain ⟨k, k1, k2, k3, k4, k5⟩ := R.2 z
    refine ⟨k, by rw [e.I 12 0 60 (by decide)]; exact k1, by omega, fun i hi => ?_, fun i h1 h2 => ?_, ?_⟩
    · rw [e.A 21 0 i (by decide), e.A 96 0 i (by decide), e.A 22 0 i (by decide), e.AJ 98 0 i (by decide)]
      exact k3 i hi
    · rw [e.A 21 0 i (by decide), e.A 22 0 i (by decide)]
      exact k4 i h1 h2
    · rw [e.I 0 0 12 (by decide), e.J 12 0 61 (by decide)]
      exact k5
theorem RSn_sm {h h' : Hp} (e : Sm [10007, 13077, 47, 112] h h') (R : RSn h) : RSn h' := by
  obtain ⟨k, k1, k2, k3, k4⟩ := R
  refine ⟨k, k1, by rw [e.I 9 0 7 (by decide)]; exact k2, by rw [e.I 12 0 77 (by decide)]; exact k3, fun i hi => ?_⟩
  rw [e.A 47 0 i (by decide), e.A 112 0 i (by decide)]
  exact k4 i hi
theorem RYs_sm {h h' : Hp} (e : Sm [13008, 13005, 3004, 88] h h') (R : RYs h) : RYs h' := fun i hi => by
  have eH : nH h' = nH h := by unfold nH; rw [e.I 12 0 8 (by decide)]
  have eY : yr h' = yr h := by unfold yr; rw [e.I 12 0 5 (by decide)]
  rw [eH] at hi
  rw [e.I 2 i 4 (by decide), R i hi, eY]
  congr 1
  exact cnt_ext fun y _ => by rw [e.A 88 0 _ (by decide)]
theorem RM_sm {h h' : Hp} (e : Sm [13008, 13009, 13005] h h') (c : gC h' = gC h ∧ gS h' = gS h) (R : RM h) : RM h' := by
  have eH : nH h' = nH h := by unfold nH; rw [e.I 12 0 8 (by decide)]
  have eR : nR h' = nR h := by unfold nR; rw [e.I 12 0 9 (by decide)]
  have eY : yr h' = yr h := by unfold yr; rw [e.I 12 0 5 (by decide)]
  unfold RM at R ⊢
  rw [eH, eR, eY, c.1, c.2]
  exact R
theorem RM.b {h : Hp} (R : RM h) : gC h ≤ 600000 ∧ gS h ≤ 7302249 := ⟨by have := R.1; omega, by have := R.2; omega⟩
/-- a step of the script, both sides -/
def St {α : Type} (f g : Hp → Option (α × Hp)) (h : Hp) : Prop := ∃ r h2 h3, f h = some (r, h2) ∧ g h2 = some (r, h3) ∧ (gC h2 ≤ 600000 ∧ gS h2 ≤ 7302249) ∧ RAll h3
def fAll : List Nat := fRC ++ fRP ++ [13005, 12011] ++ fRRc ++ fRRm ++ [33, 69] ++ [4002, 13011] ++ [12012, 12013, 13016, 13017] ++ [12014, 13012] ++ [38, 39, 40, 54, 55, 56] ++ fRAc ++ fRAm ++ [1009, 1012, 13056, 13060, 13061, 21, 22, 96, 98] ++ [37, 13075, 109] ++ [10007, 13077, 47, 112] ++ fRHc ++ fRHm ++ [3004]
/-- a call that only reads -/
theorem St_ro {α : Type} {W : List Nat} {f g : Hp → Option (α × Hp)} {h : Hp} {P : Hp → Prop} (A : RAll h) (o : Op W f g h P) (w : fAll.all (fun c => !W.elem c) = true) (w9 : W.elem 999 = false) (w8 : W.elem 13008 = false) : St f g h := by
  obtain ⟨r, h2, h3, e1, e2, f2, f3, -⟩ := o
  obtain ⟨a1, a2, a3, a4, a5, a6, a7, a8, a9, a10, a11, a12, a13, a14, a15, a16⟩ := A
  have s : Sm fAll h h3 := f3.sm w
  have sub : ∀ F : List Nat, F.all (fun c => fAll.elem c) = true → Sm F h h3 := fun F hF => f3.sm (by
    rw [List.all_eq_true] at w hF ⊢
    intro c hc
    exact w c (by simpa using hF c hc))
  have sC : Sm fRC h h3 := sub _ (by decide +kernel)
  have sP : Sm fRP h h3 := sub _ (by decide +kernel)
  have eH : nH h3 = nH h := by unfold nH; rw [sP.I 12 0 8 (by decide)]
  have sY : Sm [13005, 12011] h h3 := sub _ (by decide +kernel)
  have eY : yr h3 = yr h := by unfold yr; rw [sY.I 12 0 5 (by decide)]
  have eB : nB h3 = nB h := nB_sm sC
  have eU : un h3 = un h := funext fun b => un_sm sC b
  refine ⟨r, h2, h3, e1, e2, ?_, ?_⟩
  · rw [(f2.2.2 w9).1, (f2.2.2 w9).2]
    exact a16.b
  · refine ⟨RC_sm sC a1, RP_sm sP a2, Ry_sm sY a3, ?_, ?_, Rs_sm (sub _ (by decide +kernel)) a6, Rt2_sm (sub _ (by decide +kernel)) a7, Rf_sm (sub _ (by decide +kernel)) a8, Rr_sm (sub _ (by decide +kernel)) a9, ?_, RK_sm (sub _ (by decide +kernel)) (by omega) a11, RG_sm (sub _ (by decide +kernel)) a12, RSn_sm (sub _ (by decide +kernel)) a13, ?_, RYs_sm (sub _ (by decide +kernel)) a15, RM_sm (sub _ (by decide +kernel)) (f3.2.2 w9) a16⟩
    · rw [eH, eY, eB, eU]
      exact RR_c (sub _ (by decide +kernel)) (RR_m (sub _ (by decide +kernel)) a4)
    · rw [eH]
      exact RPl_sm (sub _ (by decide +kernel)) (sub _ (by decide +kernel)) a5
    · rw [eH, eB, eU]
      exact RA_c (sub _ (by decide +kernel)) (RA_m (sub _ (by decide +kernel)) a10)
    · rw [eH, eY, eB, eU]
      exact RHi_sm (sub _ (by decide +kernel)) (sub _ (by decide +kernel)) a14
