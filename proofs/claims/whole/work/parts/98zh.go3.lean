/-! ===== level 2: go kept whole ===== -/
def Opn {α : Type} (W : List Nat) (f g : Hp → Option (α × Hp)) (h : Hp) (P : Hp → Prop) : Prop := ∃ r h2 h3, f h = some (r, h2) ∧ g h2 = some (r, h3) ∧ Fr W h h2 ∧ Fr W h h3 ∧ (gC h3 = gC h2 ∧ gS h3 = gS h2) ∧ P h3
theorem s_go2 (h : Hp) (R : RC h) (P : RP h) (Y : Ry h) (T : RR (nH h) (yr h) (nB h) (un h) h h) (L : RPl (nH h) h h) (Tt : Rt2 h) (HI : RHi (nH h) (yr h) (nB h) (un h) h h) (YS : RYs h) : Opn w_go fX11_go fX12_go h (fun h3 => Ry h3 ∧ RR (nH h) (yr h3) (nB h) (un h) h3 h3 ∧ RHi (nH h) (yr h3) (nB h) (un h) h3 h3 ∧ RYs h3 ∧ (yr h3 = yr h ∧ nR h3 = nR h ∧ gC h3 = gC h ∧ gS h3 = gS h ∨ yr h3 = yr h + 1 ∧ ∃ n, nR h3 = nR h + n ∧ gC h3 = gC h + 5 + n ∧ gS h3 = gS h + 53 + 13 * n)) := by
  obtain ⟨y1, y2, y3⟩ := Y.e
  by_cases hy : yr h ≤ 198
  · obtain ⟨c1, c2, c3, c5, e1, e2, f1, f2, e3, f3, ⟨v5, e5⟩, f5, run⟩ := go_run R P Y T L Tt HI YS hy
    obtain ⟨c4, ec4⟩ : ∃ z, z = sR c3 52 0 (yr h) (some (yr h + 1)) := ⟨_, rfl⟩
    have f4 : Fr [52] c3 c4 := by rw [ec4]; exact Fr_R _ _ _ _ _ rfl
    rw [← ec4] at e5 f5
    obtain ⟨c6, ec6⟩ : ∃ z, z = sI c5 11 0 11 (nZ (yr h + 1)) := ⟨_, rfl⟩
    have f6 : Fr [12011] c5 c6 := by rw [ec6]; exact Fr_I _ _ _ _ _ rfl
    have fc5 : Fr wCg h c5 := ((((f1.wk rfl).tr (f2.wk rfl)).tr (f3.wk rfl)).tr (f4.wk rfl)).tr (f5.wk rfl)
    have fc5' : Fr (wCg.erase 12011) h c5 := ((((f1.wk rfl).tr (f2.wk rfl)).tr (f3.wk rfl)).tr (f4.wk rfl)).tr (f5.wk rfl)
    have fc6 : Fr wCg h c6 := fc5.tr (f6.wk rfl)
    have fz : Fr [13000] c6 (sI c6 12 0 0 0) := Fr_I _ _ _ _ _ rfl
    have fm : Fr (13000 :: wCg) h (sI c6 12 0 0 0) := (fc6.wk rfl).tr (fz.wk rfl)
    obtain ⟨n1, m1', m2, m4, m5, a1, ⟨w2, a2⟩, a3, a4, ⟨fm45, e25⟩, a5, a6, a7, a8, a9, n, b1, b2, b3⟩ := run _ fm
    have f56 : Fr (13000 :: 12011 :: wMg) c5 m5 := ((f6.wk rfl).tr (fz.wk rfl)).tr (a5.wk rfl)
    have y5 : gI m5 12 0 5 = nZ (yr h + 1) := by rw [fm45.I 12 0 5 rfl, a3, gI_q]
    have y11 : gI m5 11 0 11 = nZ (yr h + 1) := by rw [a5.I 11 0 11 rfl, fz.I 11 0 11 rfl, ec6, gI_q]
    have ey : yr m5 = yr h + 1 := by
      have : yr m5 = ix (gI m5 12 0 5) := rfl
      rw [this, y5, nZ_ix (by omega)]
    have fall : Fr w_go h m5 := (fm.wk rfl).tr (a5.wk rfl)
    have eH : nH m5 = nH h := by unfold nH; rw [fall.I 12 0 8 rfl]
    obtain ⟨w4, a4'⟩ := a4 (nZ n1)
    refine ⟨nZ n1, c6, m5, ?_, ?_, fc6.wk rfl, fall, ((fz.wk rfl).tr (a5.wk rfl) : Fr (13000 :: wMg) c6 m5).2.2 rfl, ?_, ?_, ?_, ?_, Or.inr ⟨ey, n, b1, ?_, ?_⟩⟩
    · unfold fX11_go
      have g8 : gN h 8 = yr h + 1 := HI.1.1
      have f13 : Fr [508, 541, 542, 543, 544, 999, 9000, 9001, 9002, 9003, 9004, 41, 42, 43, 44, 34, 53, 11005, 48, 49, 50, 51] h c3 := ((f1.wk rfl).tr (f2.wk rfl)).tr (f3.wk rfl)
      rw [y2, br_p (by show nZ (yr h) < nZ 199; rw [nZ_lt (by omega) (by omega)]; omega)]
      simp only [lb_e]
      rw [g8, bd_s e1, f1.I 11 0 11 rfl, y2, bd_s e2, f2.I 11 0 13 rfl, f1.I 11 0 13 rfl, bd_s e3, f13.I 11 0 11 rfl, y2, gd_p (by rw [nZ_ib (by omega)]; omega), nZ_ix (by omega), ← ec4, bd_s e5, fc5'.I 11 0 11 rfl, y2, nZ_suc, ← ec6, f6.I 8 _ 4 rfl, a6]
    · unfold fX12_go
      have ez : gI (sI c6 12 0 0 0) 12 0 5 = nZ (yr h) := by rw [fm.I 12 0 5 rfl]; exact y1
      rw [lb_e, ez, br_n (by show ¬ nZ (yr h) = nZ 199; rw [nZ_eq (by omega) (by omega)]; omega), bd_s a1, bd_s a2]
      simp only [lb_e]
      rw [e25, nZ_suc, ← a3, bd_s a4']
    · unfold Ry
      rw [y5, y11, nZ_t (by omega)]
      exact ⟨rfl, by omega, by omega⟩
    · rw [ey]
      exact RR_c (f56.sm rfl) a7
    · rw [ey]
      exact RHi_sm (f56.sm rfl) (Fr.sm (Fr.rf [] _) rfl) a8
    · intro i hi
      rw [eH] at hi
      rw [ey, f56.I 2 i 4 rfl]
      exact a9 i hi
    · rw [(f56.2.2 rfl).1]
      exact b2
    · rw [(f56.2.2 rfl).2]
      exact b3
  · have e199 : yr h = 199 := by omega
    have fz : Fr [13000] h (sI h 12 0 0 0) := Fr_I _ _ _ _ _ rfl
    have eyz : yr (sI h 12 0 0 0) = yr h := rfl
    refine ⟨-9, h, sI h 12 0 0 0, ?_, ?_, Fr.rf _ _, fz.wk rfl, ⟨rfl, rfl⟩, Y, RR_m (fz.sm rfl) (RR_c (fz.sm rfl) T), RHi_sm (fz.sm rfl) (fz.sm rfl) HI, YS, Or.inl ⟨rfl, rfl, rfl, rfl⟩⟩
    · unfold fX11_go
      rw [y2, e199]
      rfl
    · unfold fX12_go
      rw [lb_e, gI_p (by decide), y1, e199]
      rfl
theorem k_go (h : Hp) (A : RAll h) : St fX11_go fX12_go h := by
  obtain ⟨a1, a2, a3, a4, a5, a6, a7, a8, a9, a10, a11, a12, a13, a14, a15, a16⟩ := A
  obtain ⟨r, h2, h3, e1, e2, f2, f3, na, p1, p2, p3, p4, p5⟩ := s_go2 h a1 a2 a3 a4 a5 a7 a14 a15
  have eH : nH h3 = nH h := by unfold nH; rw [f3.I 12 0 8 (by decide +kernel)]
  have eB : nB h3 = nB h := by unfold nB; rw [f3.I 1 0 7 (by decide +kernel)]
  have eU : un h3 = un h := funext fun b => by unfold un; rw [f3.A 28 0 b (by decide +kernel)]
  have rm : RM h3 := by
    have n3 := p2.2.2.1
    have y3 : yr h3 ≤ 199 := p1.e.2.2
    unfold RM at a16 ⊢
    rw [eH]
    rcases p5 with ⟨w1, w2, w3, w4⟩ | ⟨w1, n, w2, w3, w4⟩
    · rw [w1, w2, w3, w4]; exact a16
    · rw [w2] at n3 ⊢
      rw [w1] at y3 ⊢
      rw [w3, w4]
      omega
  refine ⟨r, h2, h3, e1, e2, ?_, ?_⟩
  · rw [← na.1, ← na.2]
    exact rm.b
  · unfold RAll
    rw [eH, eB, eU]
    exact ⟨RC_sm (f3.sm (by decide +kernel)) a1, RP_sm (f3.sm (by decide +kernel)) a2, p1, p2, RPl_sm (f3.sm (by decide +kernel)) (f3.sm (by decide +kernel)) a5, Rs_sm (f3.sm (by decide +kernel)) a6, Rt2_sm (f3.sm (by decide +kernel)) a7, Rf_sm (f3.sm (by decide +kernel)) a8, Rr_sm (f3.sm (by decide +kernel)) a9, RA_c (f3.sm (by decide +kernel)) (RA_m (f3.sm (by decide +kernel)) a10), RK_sm (f3.sm (by decide +kernel)) (by omega) a11, RG_sm (f3.sm (by decide +kernel)) a12, RSn_sm (f3.sm (by decide +kernel)) a13, p3, p4, rm⟩
