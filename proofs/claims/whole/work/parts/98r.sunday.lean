/-! ===== level 2: sunday, the whole ===== -/
theorem s_sunday (a1 a2 : Int32) (h : Hp) (R : RC h) (P : RP h) (Y : Ry h) (T : RR (nH h) (yr h) (nB h) (un h) h h) (L : RPl (nH h) h h) (Tt : Rt h) (HI : RHi (nH h) (yr h) (nB h) (un h) h h) (W : Rr h) (SN : RSn h) : Op wHm (fX11_sunday a1 a2) (fX12_sunday a1 a2) h RSn := by
  obtain ⟨y1, y2, y3⟩ := Y.e
  obtain ⟨hB, hu⟩ := R.u32
  have hH := P.2.2.1
  obtain ⟨v1, v2, v3, v4⟩ := R.v
  obtain ⟨h1', h2', h3', h4', h5'⟩ := id HI
  have SN0 : RSn (sI h 12 0 0 0) := by
    obtain ⟨k, q1, q2, q3, q4⟩ := SN
    exact ⟨k, q1, q2, q3, q4⟩
  by_cases q : (0 ≤ a1.toInt ∧ a1.toInt ≤ 3) ∧ (0 ≤ a2.toInt ∧ a2.toInt ≤ 60)
  · obtain ⟨p, rfl, ep, hp'⟩ := nZ_ex q.1.1
    obtain ⟨bl, rfl, eb, hb'⟩ := nZ_ex q.2.1
    have hp : p < 4 := by omega
    have hib : ib (nZ p) 4 := by rw [nZ_ib (by omega)]; omega
    have xp : ix (nZ p) = p := nZ_ix hp'
    by_cases q5 : 0 ≤ gI h 54 0 p
    · obtain ⟨n, hn, e39, e55, e38⟩ := W.ex hp q5
      have fl : fX7_isFilled (nZ p) h = some (1, h) := by rw [filled7 q.1 h, xp, if_neg (W.yes hp q5)]
      obtain ⟨r, er, kr⟩ := cc_L P hp hn e39 e38 FU 0 0 (by omega) (by show _ < 100000; omega) (fun j hj => by omega) (fun i hi => by rw [b_0]; exact iff_of_false (by decide) fun ⟨j, h1, _⟩ => by omega)
      have pre11 : fX11_sunday (nZ p) (nZ bl) h = br (r = 0) (some (-4, h)) (bd (fX3_fillOwners (nZ (yr h)) h) (fun r5 h6 => bd (fX11_latestSeating h6) (fun r7 h8 => bd (fX9_open r7 (gI h8 11 0 13) h8) (fun r9 h10 => bd (fX9_hold (nZ p) (nZ bl) h10) (fun r11 h12 => some (r11, h12)))))) := by
        unfold fX11_sunday
        rw [br_n (fun z => (place7 _ _).mp z q.1), br_n (by rw [isWithin_0, z0, n60]; omega), bd_s fl, br_n (by decide), bd_s (show fX9_canCome (nZ p) h = some (r, h) from er), y2]
      have pre12 : ∀ g : Hp, 0 ≤ gI g 54 0 p → fX12_sunday (nZ p) (nZ bl) g = bd (fX12_sunday_L41 FU (nZ p) (nZ bl) 0 (sI g 12 0 0 0)) (fun u21 h18 => ms u21 (fun r22 => some (r22, h18)) (fun v20 => bd (fX12_listens h18) (fun r23 h24 => bd (fX12_sunday_L168 FU (nZ p) (nZ bl) 0 h24) (fun v43 h41 => bd (fX12_sunday_L254 FU (nZ p) (nZ bl) 0 h41) (fun v61 h59 => bd (fX12_sunday_L375 FU (nZ p) (nZ bl) 0 0 (sI h59 12 0 77 (gI h59 55 0 p))) (fun t116 h115 => some (t116.1, h115))))))) := fun g hg => by
        unfold fX12_sunday
        rw [lb_e, br_n (fun z => (place12 _ _).mp z q.1), br_n (by rw [in_0, to64, z0J, n60J]; omega), gd_p hib, xp, br_p (by rw [gI_o (by decide)]; exact hg)]
        simp only [gd_p hib, lb_e]
      by_cases V : ∀ j, j < n → VB h p j
      · have r0 : ¬ r = 0 := fun z => kr.mp z V
        -- the class opens
        obtain ⟨u1, c1, e1, f1, k1⟩ := fill_t (c := h) (m := h) hB hu y3 T L
        have lat : ∃ o, fX11_latestSeating c1 = some (o, c1) ∧ ((yr h = 0 ∧ o = none) ∨ (0 < yr h ∧ o = some (yr h))) := by
          unfold fX11_latestSeating
          rw [f1.I 11 0 11 rfl, y2]
          by_cases z : yr h = 0
          · refine ⟨none, ?_, Or.inl ⟨z, rfl⟩⟩
            rw [bd_s (seating_f (c := c1) (y := yr h) (by rw [f1.I 11 0 11 rfl]; exact y2) y3 (by rw [z]; decide))]
          · refine ⟨some (yr h), ?_, Or.inr ⟨by omega, rfl⟩⟩
            rw [nZ_pre (by omega) (by omega)]
            have := seating_t (c := c1) (y := yr h) (t := yr h - 1) (by rw [f1.I 11 0 11 rfl]; exact y2) y3 (by omega) (by rw [f1.AR 52 0 _ rfl]; exact h3' _ (by omega))
            rw [show yr h - 1 + 1 = yr h by omega] at this
            rw [bd_s this]
        obtain ⟨o, eo, ho⟩ := lat
        obtain ⟨c2, ec2⟩ : ∃ z, z = sI (sR c1 9 0 5 o) 9 0 6 (gI h 11 0 13) := ⟨_, rfl⟩
        have f2 : Fr [10005, 10006] c1 c2 := by rw [ec2]; exact (Fr_R _ _ _ _ _ rfl).tr (Fr_I _ _ _ _ _ rfl)
        obtain ⟨ow, eow⟩ : ∃ ow : Nat → Int32, ow = fun s => owS h (s / 32) (s % 32) (yr h) (yr h) := ⟨_, rfl⟩
        obtain ⟨u3, c3, e3, f3, k3⟩ := o13_L (ow := ow) FU 0 c2 (by omega) (by show _ < 100000; omega) (fun s hs => by rw [f2.A 53 0 s rfl, eow]; exact k1 s hs) (fun s hs => by omega)
        have f13 : Fr [34, 53, 10005, 10006, 45, 46] h c3 := ((f1.wk rfl).tr (f2.wk rfl)).tr (f3.wk rfl)
        have La3 : Lat h c3 := by
          have e95 : gR c3 9 0 5 = o := by rw [f3.R 9 0 5 rfl, ec2, gR_sI, gR_a, if_pos rfl]
          rcases ho with ⟨z1, z2⟩ | ⟨z1, z2⟩
          · exact Or.inl ⟨z1, by rw [e95, z2]⟩
          · have so := h2' (yr h) (Nat.le_refl _)
            refine Or.inr ⟨z1, by rw [e95, z2], ⟨by rw [f13.R 8 _ 0 rfl]; exact so.1, by rw [f13.R 8 _ 1 rfl]; exact so.2.1, by rw [f13.R 8 _ 2 rfl]; exact so.2.2.1, by rw [f13.R 8 _ 3 rfl]; exact so.2.2.2⟩, fun i hi => ?_⟩
            have := h4' (yr h - 1) i (by omega) hi
            rw [show yr h - 1 + 1 = yr h by omega] at this
            unfold sr at this ⊢
            rw [f13.A 41 _ i rfl, f13.A 42 _ i rfl, f13.A 43 _ i rfl, f13.A 44 _ i rfl]
            exact this
        obtain ⟨u4, c4, e4, f4, k4⟩ := o58_L R P (fun i hi1 hi2 hz => h5' (yr h - 1) i hi2 (by omega) (Or.inr hi1)) (ow := ow) FU 0 c3 (by omega) (by show _ < 100000; omega) (f13.sm rfl) La3 (fun s hs => by
          rw [(k3 s hs).2]
          exact ⟨fun y => Or.inl y, fun y => by rcases y with y | ⟨i, hi, -⟩; exact y; omega⟩)
        obtain ⟨c5, ec5⟩ : ∃ z, z = sI c4 9 0 7 (nZ n) := ⟨_, rfl⟩
        have f5 : Fr [10007] c4 c5 := by rw [ec5]; exact Fr_I _ _ _ _ _ rfl
        have f15 : Fr wHc h c5 := ((f13.wk rfl).tr (f4.wk rfl)).tr (f5.wk rfl)
        have f35 : Fr [45, 10007] c3 c5 := (f4.wk rfl).tr (f5.wk rfl)
        have La5 : Lat h c5 := by
          have La4 := Lat_fr La3 (f4.wk rfl)
          rcases La4 with ⟨l1, l2⟩ | ⟨l1, l2, S, l4⟩
          · exact Or.inl ⟨l1, by rw [f5.R 9 0 5 rfl]; exact l2⟩
          · refine Or.inr ⟨l1, by rw [f5.R 9 0 5 rfl]; exact l2, ⟨by rw [f5.R 8 _ 0 rfl]; exact S.1, by rw [f5.R 8 _ 1 rfl]; exact S.2.1, by rw [f5.R 8 _ 2 rfl]; exact S.2.2.1, by rw [f5.R 8 _ 3 rfl]; exact S.2.2.2⟩, fun i hi => ?_⟩
            have := l4 i hi
            unfold sr at this ⊢
            rw [f5.A 41 _ i rfl, f5.A 42 _ i rfl, f5.A 43 _ i rfl, f5.A 44 _ i rfl]
            exact this
        have eopen : fX9_open o (gI c1 11 0 13) c1 = some ((), c4) := by
          unfold fX9_open
          simp only [lb_e]
          rw [f1.I 11 0 13 rfl, ← ec2, bd_s (show fX9_open_L13 FU 0 c2 = _ from e3), bd_s (show fX9_open_L58 FU 0 c3 = _ from e4)]
        have c9 : gI c5 9 0 6 = gI h 11 0 13 := by rw [f35.I 9 0 6 rfl, f3.I 9 0 6 rfl, ec2, gI_q]
        -- the model, from any heap that differs in the class's cells alone
        have run : ∀ m, Fr (13000 :: wHc) h m → ∃ m4 N' v c' v' m', fX12_sunday_L41 FU (nZ p) (nZ bl) 0 m = some (.inr (nZ n), m) ∧ (∃ m2 m3 w2 w3 w4, fX12_listens m = some (w2, m2) ∧ fX12_sunday_L168 FU (nZ p) (nZ bl) 0 m2 = some (w3, m3) ∧ fX12_sunday_L254 FU (nZ p) (nZ bl) 0 m3 = some (w4, m4)) ∧ gI m4 55 0 p = nZ n ∧ fX9_hold_L15 FU (nZ p) (nZ bl) 0 0 c5 = some ((nZ N', v), c') ∧ fX12_sunday_L375 FU (nZ p) (nZ bl) 0 0 (sI m4 12 0 77 (nZ n)) = some ((nZ N', v'), m') ∧ Hs h c' m' (gI h 11 0 13) ∧ gI c' 9 0 7 = nZ n ∧ gI m' 12 0 77 = nZ n ∧ Sat c' m' n ∧ Fr [93, 94, 105, 106, 113, 13077, 112] m m' := by
          intro m fm
          have eVB : ∀ j, VB m p j ↔ VB h p j := fun j => by
            have e56 : ∀ j, nu m p j = nu h p j := fun j => by unfold nu; rw [fm.AJ 56 0 _ rfl]
            have eH : nH m = nH h := by unfold nH; rw [fm.I 12 0 8 rfl]
            unfold VB
            simp only [e56, eH, fm.A 68 0 _ rfl]
          have eHm : nH m = nH h := by unfold nH; rw [fm.I 12 0 8 rfl]
          obtain ⟨d1, -⟩ := c41_L (m := m) hp hn (by rw [eHm]; exact hH) (by rw [eHm, fm.I 12 0 8 rfl]; exact P.1) (by rw [fm.A 55 0 p rfl]; exact e55) (nZ bl) FU 0 (by omega) (by show _ < 100000; omega) (fun j hj => by omega)
          obtain ⟨w2, m2, g1, fm2, -, T2⟩ := listens_t (RC_sm (fm.sm rfl) R)
          have fmA : Fr (93 :: 94 :: 13000 :: wHc) h m2 := (fm.wk rfl).tr (fm2.wk rfl)
          obtain ⟨w3, m3, g2, fm3, k3'⟩ := s168_L rfl rfl R y3 (ow := ow) (nZ p) (nZ bl) FU 0 m2 (fmA.sm rfl) ⟨h, RR_m (fmA.sm rfl) T⟩ (fun s hs => by rw [owS_sm (fmA.sm rfl) (nR_sm (fmA.sm rfl)), eow]) (by rw [fmA.I 12 0 5 rfl]; exact y1) (by omega) (by show _ < 100000; omega) (fun s hs => by omega)
          have fmB : Fr (105 :: 106 :: 113 :: 93 :: 94 :: 13000 :: wHc) h m3 := (fmA.wk rfl).tr (fm3.wk rfl)
          obtain ⟨w4, m4, g3, fm4, k4'⟩ := s254_L R P Y (fun i hi hz => by
            rcases h4' (yr h - 1) i (by omega) hi with w | ⟨b, v, w, z1, z2, z3, z4, z5, z6, z7, z8, z9, z10, z11, z12⟩
            · exact Or.inl w.2
            · exact Or.inr ⟨32 * b + v, w, hz, b, v, z2, z3, z5, rfl, z9, z10, z11, z12⟩) (nZ p) (nZ bl) FU 0 m3 (by omega) (by show _ < 100000; omega) (fmB.wk rfl) (fun s hs => by
            rw [(k3' s hs).2.2]
            exact iff_of_true rfl fun ⟨i, hi, _⟩ => by omega)
          have fmC : Fr (105 :: 106 :: 113 :: 93 :: 94 :: 13000 :: wHc) h m4 := fmB.tr (fm4.wk rfl)
          have f5m : Fr [13077] m4 (sI m4 12 0 77 (nZ n)) := Fr_I _ _ _ _ _ rfl
          have K0 : Hs h c5 (sI m4 12 0 77 (nZ n)) (gI h 11 0 13) := by
            refine ⟨f15, (fmC.wk rfl).tr (f5m.wk rfl), LT_sm ((((fm3.wk (W' := [105, 106, 113, 13077]) rfl).tr (fm4.wk rfl)).tr (f5m.wk rfl)).sm rfl) ((((fm3.wk (W' := [105, 106, 113, 13077]) rfl).tr (fm4.wk rfl)).tr (f5m.wk rfl)).sm rfl) T2, La5, c9, by rw [f5m.I 12 0 17 rfl, fmC.I 12 0 17 rfl]; exact Tt.2.symm, fun s hs => ?_⟩
            rw [f35.A 46 0 s rfl, (k3 s hs).1, f5m.A 106 0 s rfl, fm4.A 106 0 s rfl, (k3' s hs).1, f5.A 45 0 s rfl, f5m.A 105 0 s rfl, fm4.A 105 0 s rfl, (k3' s hs).2.1, f5m.A 113 0 s rfl]
            refine ⟨iff_of_true rfl rfl, ?_⟩
            have a1 := k4 s hs
            have a2 := k4' s hs
            rw [ne_eq, a1, a2]
            exact ⟨fun y => ⟨Classical.byContradiction fun w => y (Or.inl w), fun w => y (Or.inr w)⟩, fun y w => by rcases w with w | w; exact w y.1; exact y.2 w⟩
          obtain ⟨N', v, c', v', m', q1, q2, q3, q4, q5', q6, q7⟩ := hold_L R P Y (low := gI h 11 0 13) hp hn (bl := bl) (by omega) e39 e55 e38 V FU 0 0 c5 (sI m4 12 0 77 (nZ n)) (by omega) (by show _ < 100000; omega) K0 (by rw [ec5, gI_q]) (fun i hi => by omega) (Nat.le_refl _)
          refine ⟨m4, N', v, c', v', m', d1 fun j hj => (eVB j).mpr (V j hj), ⟨m2, m3, w2, w3, w4, g1, g2, g3⟩, by rw [fmC.A 55 0 p rfl]; exact e55, q1, q2, q3, q4, by rw [q5', gI_q], q6, ?_⟩
          exact ((((fm2.wk rfl).tr (fm3.wk rfl)).tr (fm4.wk rfl)).tr (f5m.wk rfl)).tr (q7.wk rfl)
        obtain ⟨y1, N', v, c6, y5, y6, y7, y8, y9, e6, y11, K6, y13, y14, y15, y16⟩ := run h (Fr.rf _ _)
        have fc6 : Fr wHc h c6 := K6.1
        have fz : Fr [13000] c6 (sI c6 12 0 0 0) := Fr_I _ _ _ _ _ rfl
        obtain ⟨m4, N2, v2', c6', v3', m', d1, ⟨m2, m3, w2, w3, w4, g1, g2, g3⟩, d55, e6', d2, K7, k97, k77, S7, fm7⟩ := run (sI c6 12 0 0 0) ((fc6.wk rfl).tr (fz.wk rfl))
        have ee : c6' = c6 ∧ nZ N2 = nZ N' := by
          have z1 := Prod.mk.inj (Option.some.inj (e6.symm.trans e6'))
          exact ⟨z1.2.symm, by have := z1.1.symm; simp at this; exact this.1⟩
        obtain ⟨ee1, ee2⟩ := ee
        subst ee1
        have fzm : Fr [13000, 93, 94, 105, 106, 113, 13077, 112] c6' m' := (fz.wk rfl).tr (fm7.wk rfl)
        refine ⟨nZ N2, c6', m', ?_, ?_, fc6.wk rfl, K7.2.1, n, hn, by rw [fzm.I 9 0 7 rfl]; exact k97, k77, fun i hi => ?_⟩
        · rw [pre11, br_n r0, bd_s e1, bd_s eo, bd_s eopen]
          unfold fX9_hold
          have f14 : Fr [34, 53, 10005, 10006, 45, 46] h c4 := f13.tr (f4.wk rfl)
          rw [bd_s (length7 (h := c4) hp hn (by rw [f14.A 39 0 p rfl]; exact e39)), lb_e, ← ec5, bd_s e6']
          rfl
        · rw [pre12 c6' (by rw [fc6.A 54 0 p rfl]; exact q5), bd_s d1, ms_r, bd_s g1, bd_s g2, bd_s g3, d55, bd_s d2]
        · rw [fzm.A 47 0 i rfl]
          exact S7 i hi
      · refine Op_no rfl (r := -4) ?_ ?_ SN0
        · rw [pre11, br_p (kr.mpr V)]
        · obtain ⟨-, d2⟩ := c41_L (m := sI h 12 0 0 0) hp hn hH P.1 e55 (nZ bl) FU 0 (by omega) (by show _ < 100000; omega) (fun j hj => by omega)
          rw [pre12 h q5, bd_s (show fX12_sunday_L41 FU (nZ p) (nZ bl) 0 (sI h 12 0 0 0) = _ from d2 V), ms_l]
    · have n39 := W.no hp q5
      refine Op_no rfl (r := -5) ?_ ?_ SN0
      · unfold fX11_sunday
        rw [br_n (fun z => (place7 _ _).mp z q.1), br_n (by rw [isWithin_0, z0, n60]; omega), bd_s (filled7 q.1 h), xp, if_pos n39]
        rfl
      · unfold fX12_sunday
        rw [lb_e, br_n (fun z => (place12 _ _).mp z q.1), br_n (by rw [in_0, to64, z0J, n60J]; omega), gd_p hib, xp, br_n (by rw [gI_o (by decide)]; exact q5)]
  · refine Op_no rfl (r := -2) ?_ ?_ SN0
    · unfold fX11_sunday
      rw [br_or, br_p]
      rw [place7, isWithin_0, z0, n60]
      omega
    · unfold fX12_sunday
      rw [lb_e, br_or, br_p]
      rw [place12, in_0, to64, z0J, n60J]
      omega
