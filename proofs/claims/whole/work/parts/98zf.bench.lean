/-! ===== level 2: bench kept whole ===== -/
theorem s_bench2 (a1 a2 a3 a4 : Int32) (h4 : a4 = 0 ∨ a4 = 1) (h : Hp) (R : RC h) (Y : Ry h) : Op w_bench (fX11_bench a1 a2 a3 a4) (fX12_bench a1 a2 a3 a4) h (fun h3 => RC h3 ∧ nB h ≤ nB h3 ∧ ∀ b, b < nB h → un h3 b = un h b) := by
  obtain ⟨R1, C, K⟩ := id R
  have C5 := C.2.2.2.2.1
  by_cases q : (0 ≤ a1.toInt ∧ a1.toInt ≤ 60) ∧ (0 ≤ a2.toInt ∧ a2.toInt ≤ 60) ∧ (4 ≤ a3.toInt ∧ a3.toInt ≤ 32)
  · have e13 : (a1 + a3 - 1).toInt = a1.toInt + a3.toInt - 1 := by
      have e := add32 (x := a1) (y := a3) (by omega) (by omega)
      rw [sub32 (by rw [e, o1]; omega) (by rw [e, o1]; omega), e, o1]
    by_cases qe : a1.toInt + a3.toInt ≤ 61
    · by_cases q8 : (gI h 1 0 7).toInt < 8
      · by_cases qy : (gI h 12 0 5).toInt ≤ 0
        · have hib : ib (gI h 1 0 7) 8 := ⟨C5.1, by show _ < ((8 : Nat) : Int); omega⟩
          have eP : ((ix (gI h 1 0 7) : Nat) : Int) = (gI h 1 0 7).toInt := by unfold ix; omega
          obtain ⟨P, hP⟩ : ∃ P, P = ix (gI h 1 0 7) := ⟨_, rfl⟩
          rw [← hP] at eP
          obtain ⟨h3, e3⟩ : ∃ y, y = sI (sI (sI (sI (sI h 26 0 P a1) 27 0 P a2) 28 0 P a3) 29 0 P a4) 1 0 7 (gI h 1 0 7 + 1) := ⟨_, rfl⟩
          have f3 : Fr [2007, 26, 27, 28, 29] h h3 := by rw [e3]; exact ((((Fr_I _ _ _ _ _ rfl).tr (Fr_I _ _ _ _ _ rfl)).tr (Fr_I _ _ _ _ _ rfl)).tr (Fr_I _ _ _ _ _ rfl)).tr (Fr_I _ _ _ _ _ rfl)
          have g7 : gI h3 1 0 7 = gI h 1 0 7 + 1 := by rw [e3]; simp [gI_sI]
          have g26 : ∀ i, gI h3 26 0 i = if i = P then a1 else gI h 26 0 i := fun i => by rw [e3]; simp [gI_sI]
          have g27 : ∀ i, gI h3 27 0 i = if i = P then a2 else gI h 27 0 i := fun i => by rw [e3]; simp [gI_sI]
          have g28 : ∀ i, gI h3 28 0 i = if i = P then a3 else gI h 28 0 i := fun i => by rw [e3]; simp [gI_sI]
          have g29 : ∀ i, gI h3 29 0 i = if i = P then a4 else gI h 29 0 i := fun i => by rw [e3]; simp [gI_sI]
          have t7 : (gI h 1 0 7 + 1).toInt = (gI h 1 0 7).toInt + 1 := i32_succ q8 (by omega)
          have C3 : Cc h3 := by
            unfold Cc at C ⊢
            rw [g7, t7]
            simp only [g26, g27, g28, g29]
            simp (disch := decide) only [f3.A, f3.I]
            refine ⟨C.1, C.2.1, C.2.2.1, C.2.2.2.1, by omega, C.2.2.2.2.2.1, fun b hb => ?_⟩
            by_cases z : b = P
            · simp only [z, if_true]
              exact ⟨⟨q.1.1, qe⟩, q.2.1, q.2.2, h4⟩
            · simp only [if_neg z]
              exact C.2.2.2.2.2.2 b (by omega)
          have hP2 : ix (gI h3 1 0 7 - 1) = P ∧ 0 ≤ (gI h3 1 0 7 - 1).toInt ∧ (gI h3 1 0 7 - 1).toInt < (gI h3 1 0 7).toInt := by
            have : (gI h3 1 0 7 - 1).toInt = (gI h 1 0 7).toInt := by rw [g7, sub32 (by rw [t7, o1]; omega) (by rw [t7, o1]; omega), t7, o1]; omega
            unfold ix
            rw [this, g7, t7]
            omega
          obtain ⟨h4', e4, x4, k4, k5⟩ := mb_t C3 hP2.2
          rw [hP2.1] at k4 k5
          have f4 := w31_fr x4
          obtain ⟨h5, e5⟩ : ∃ y, y = sI (sI (sI (sI (sI (sI h4' 12 0 0 0) 61 0 P a1) 62 0 P a2) 63 0 P a3) 64 0 P a4) 12 0 7 (gI h 1 0 7 + 1) := ⟨_, rfl⟩
          have f5 : Fr [13000, 13007, 61, 62, 63, 64] h4' h5 := by rw [e5]; exact (((((Fr_I _ _ _ _ _ rfl).tr (Fr_I _ _ _ _ _ rfl)).tr (Fr_I _ _ _ _ _ rfl)).tr (Fr_I _ _ _ _ _ rfl)).tr (Fr_I _ _ _ _ _ rfl)).tr (Fr_I _ _ _ _ _ rfl)
          have m7 : gI h4' 12 0 7 = gI h 1 0 7 := by
            rw [f4.I 12 0 7 rfl, f3.I 12 0 7 rfl]
            exact R1.2.2.2.2.1
          have m5 : gI h4' 12 0 5 = gI h 12 0 5 := by rw [f4.I 12 0 5 rfl, f3.I 12 0 5 rfl]
          refine ⟨gI h 1 0 7 + 1 - 1, h4', h5, ?_, ?_, (f3.wk rfl).tr (f4.wk rfl), ((f3.wk rfl).tr (f4.wk rfl)).tr (f5.wk rfl), ⟨?_, ?_, ?_⟩, ?_, fun b hb => ?_⟩
          · unfold fX11_bench fX1_addBench
            simp only [br_or, point11, isWithin_0, n4, n32, e13, lb_e, and1 h4]
            rw [br_n (by omega), br_p (i32_lt.mpr (by rw [n8]; omega)), br_p (i32_le.mpr (by rw [← Y.1, z0]; omega)), br_p (i32_lt.mpr (by rw [n8]; omega)), gd_p hib]
            simp (disch := decide) only [gI_o, gI_p, gI_q]
            rw [gd_p hib, gd_p hib, gd_p hib, ← hP, ← e3, ← g7, e4]
            show some ((gI h4' 1 0 7) - 1, h4') = _
            rw [f4.I 1 0 7 rfl]
          · unfold fX12_bench
            simp only [br_or, point12, in_0, to64, n4J, n32J, z0J, n60J, e13, lb_e, and1 h4]
            rw [br_n (by omega)]
            simp (disch := decide) only [gI_o, gI_p, gI_q, m7, m5]
            rw [br_n (fun z => by rw [z, n8] at q8; omega), br_p (i32_le.mpr (by rw [z0]; omega)), gd_p hib, gd_p hib, gd_p hib, gd_p hib, ← hP, ← e5]
          · unfold Rc at R1 ⊢
            have y7 : gI h5 12 0 7 = gI h 1 0 7 + 1 := by rw [e5]; simp [gI_sI]
            have y61 : ∀ i, gI h5 61 0 i = if i = P then a1 else gI h4' 61 0 i := fun i => by rw [e5]; simp [gI_sI]
            have y62 : ∀ i, gI h5 62 0 i = if i = P then a2 else gI h4' 62 0 i := fun i => by rw [e5]; simp [gI_sI]
            have y63 : ∀ i, gI h5 63 0 i = if i = P then a3 else gI h4' 63 0 i := fun i => by rw [e5]; simp [gI_sI]
            have y64 : ∀ i, gI h5 64 0 i = if i = P then a4 else gI h4' 64 0 i := fun i => by rw [e5]; simp [gI_sI]
            simp only [y7, y61, y62, y63, y64]
            simp (disch := decide) only [f5.A, f5.I, f4.A, f4.I]
            simp only [g7, g26, g27, g28, g29]
            simp (disch := decide) only [f3.A, f3.I]
            obtain ⟨r0, r1, r2, r3, r4, r5, r6, r7, r8, r9, r10, r11⟩ := R1
            refine ⟨r0, r1, r2, r3, trivial, r5, r6, r7, fun i => ?_, fun i => ?_, fun i => ?_, fun i => ?_⟩
            · rw [r8]
            · rw [r9]
            · rw [r10]
            · rw [r11]
          · have C4 := Cc_e x4 C3
            unfold Cc at C4 ⊢
            simp (disch := decide) only [f5.A, f5.I]
            exact C4
          · have K4 : Kc h4' := fun b u hb hu => by
              rw [f4.I 1 0 7 rfl, g7, t7] at hb
              rw [f4.I 28 0 b rfl] at hu
              by_cases z : b = P
              · rw [z] at hu ⊢
                exact k4 u hu
              · rw [g28, if_neg z] at hu
                have hb' : (b : Int) < (gI h 1 0 7).toInt := by omega
                have C7 := C.2.2.2.2.2.2 b hb'
                have k6 := k5 b u z (by omega)
                have k7 := K b u hb' hu
                have j1 : iw1 h3 b (Int32.ofNat u) = iw1 h b (Int32.ofNat u) := by
                  unfold iw1
                  rw [F1_s (f3.sm rfl), g26, g27, if_neg z, if_neg z, f3.I 1 0 3 rfl]
                have j2 : he1 h3 b (Int32.ofNat u) = he1 h b (Int32.ofNat u) := by
                  unfold he1
                  rw [j1, g26, g27, g29, if_neg z, if_neg z, if_neg z, f3.I 1 0 0 rfl, f3.I 1 0 1 rfl, f3.I 1 0 2 rfl]
                rw [k6.1, k6.2, iw1_e x4, he1_e x4, j1, j2, f3.I 31 0 _ rfl, f3.I 30 0 _ rfl]
                exact k7
            unfold Kc iw1 he1 iw1 F1 at K4 ⊢
            simp (disch := decide) only [f5.A, f5.I]
            exact K4
          · unfold nB
            rw [f5.I 1 0 7 rfl, f4.I 1 0 7 rfl, g7]
            unfold ix
            rw [t7]
            omega
          · unfold un
            rw [f5.A 28 0 b rfl, f4.A 28 0 b rfl, g28, if_neg (by unfold nB at hb; omega)]
        · refine Op_no rfl (r := -9) ?_ ?_ ⟨RC_sm (thrown_sm rfl h) R, Nat.le_refl _, fun _ _ => rfl⟩
          · unfold fX11_bench
            simp only [br_or, point11, isWithin_0, n4, n32, e13]
            rw [br_n (by omega), br_p (i32_lt.mpr (by rw [n8]; omega)), br_n (fun z => by have := i32_le.mp z; rw [← Y.1, z0] at this; omega)]
          · unfold fX12_bench
            simp only [br_or, point12, in_0, to64, n4J, n32J, z0J, n60J, e13, lb_e]
            rw [br_n (by omega), gI_sI, if_neg (by decide), R1.2.2.2.2.1, br_n (fun z => by rw [z, n8] at q8; omega), gI_sI, if_neg (by decide), br_n (fun z => by have := i32_le.mp z; rw [z0] at this; omega)]
      · refine Op_no rfl (r := -3) ?_ ?_ ⟨RC_sm (thrown_sm rfl h) R, Nat.le_refl _, fun _ _ => rfl⟩
        · unfold fX11_bench
          simp only [br_or, point11, isWithin_0, n4, n32, e13]
          rw [br_n (by omega), br_n (fun z => q8 (by have := i32_lt.mp z; rw [n8] at this; omega))]
        · unfold fX12_bench
          simp only [br_or, point12, in_0, to64, n4J, n32J, z0J, n60J, e13, lb_e]
          rw [br_n (by omega), br_p]
          rw [gI_sI, if_neg (by decide), R1.2.2.2.2.1, i32_eq, n8]
          omega
    · refine Op_no rfl (r := -2) ?_ ?_ ⟨RC_sm (thrown_sm rfl h) R, Nat.le_refl _, fun _ _ => rfl⟩
      · unfold fX11_bench
        simp only [br_or, point11, isWithin_0, n4, n32, e13]
        rw [br_p (by omega)]
      · unfold fX12_bench
        simp only [br_or, point12, in_0, to64, n4J, n32J, z0J, n60J, e13, lb_e]
        rw [br_p (by omega)]
  · refine Op_no rfl (r := -2) ?_ ?_ ⟨RC_sm (thrown_sm rfl h) R, Nat.le_refl _, fun _ _ => rfl⟩
    · unfold fX11_bench
      simp only [br_or, point11, isWithin_0, n4, n32]
      rw [br_p (by omega)]
    · unfold fX12_bench
      simp only [br_or, point12, in_0, to64, n4J, n32J, lb_e]
      rw [br_p (by omega)]
theorem k_bench (x1 x2 x3 x4 : Int32) (q4 : x4 = 0 ∨ x4 = 1) (h : Hp) (A : RAll h) : St (fX11_bench x1 x2 x3 x4) (fX12_bench x1 x2 x3 x4) h := by
  obtain ⟨a1, a2, a3, a4, a5, a6, a7, a8, a9, a10, a11, a12, a13, a14, a15, a16⟩ := A
  obtain ⟨r, h2, h3, e1, e2, f2, f3, p⟩ := s_bench2 x1 x2 x3 x4 q4 h a1 a3
  have eH : nH h3 = nH h := by unfold nH; rw [f3.I 12 0 8 (by decide +kernel)]
  have eY : yr h3 = yr h := by unfold yr; rw [f3.I 12 0 5 (by decide +kernel)]
  refine ⟨r, h2, h3, e1, e2, ?_, ?_⟩
  · rw [(f2.2.2 (by decide +kernel)).1, (f2.2.2 (by decide +kernel)).2]
    exact a16.b
  · unfold RAll
    rw [eH, eY]
    exact ⟨p.1, RP_sm (f3.sm (by decide +kernel)) a2, Ry_sm (f3.sm (by decide +kernel)) a3, RR_mono (RR_c (f3.sm (by decide +kernel)) (RR_m (f3.sm (by decide +kernel)) a4)) (Nat.le_refl _) (Int.le_refl _) p.2.1 p.2.2, RPl_sm (f3.sm (by decide +kernel)) (f3.sm (by decide +kernel)) a5, Rs_sm (f3.sm (by decide +kernel)) a6, Rt2_sm (f3.sm (by decide +kernel)) a7, Rf_sm (f3.sm (by decide +kernel)) a8, Rr_sm (f3.sm (by decide +kernel)) a9, RA_mono (RA_c (f3.sm (by decide +kernel)) (RA_m (f3.sm (by decide +kernel)) a10)) (Nat.le_refl _) p.2.1 p.2.2, RK_sm (f3.sm (by decide +kernel)) (by omega) a11, RG_sm (f3.sm (by decide +kernel)) a12, RSn_sm (f3.sm (by decide +kernel)) a13, RHi_mono (RHi_sm (f3.sm (by decide +kernel)) (f3.sm (by decide +kernel)) a14) (Nat.le_refl _) p.2.1 p.2.2, RYs_sm (f3.sm (by decide +kernel)) a15, RM_sm (f3.sm (by decide +kernel)) (f3.2.2 (by decide +kernel)) a16⟩
