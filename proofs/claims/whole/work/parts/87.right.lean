/-! ===== level 2: right, ends, rightOf ===== -/
theorem sI_id {h : Hp} {k n i : Nat} {v : Int32} (e : gI h k n i = v) : sI h k n i v = h := by
  unfold sI
  have : (fun a b c => if a = k ∧ b = n ∧ c = i then v else h.1 a b c) = h.1 := by
    funext a b c
    by_cases z : a = k ∧ b = n ∧ c = i
    · rw [if_pos z, z.1, z.2.1, z.2.2]
      exact e.symm
    · rw [if_neg z]
  rw [this]
theorem n100 : (100 : Int32).toInt = 100 := by decide
theorem left3 {c : Hp} {N : Nat} (hN : N ≤ 100) (e : gI c 3 0 1 = nZ N) : fX3_numbersLeft c = nZ (100 - N) := by
  unfold fX3_numbersLeft
  rw [e]
  exact nZ_sub hN (by decide)
def okR (h : Hp) (a1 a2 a3 a4 a5 a6 a7 : Int32) : Prop := (0 ≤ a1.toInt ∧ a1.toInt ≤ 3) ∧ isRn h a3 a4 a5 ∧ (a1 = 1 → 0 ≤ a2.toInt ∧ a2.toInt ≤ 7) ∧ (a1 ≠ 1 → 0 ≤ a2.toInt ∧ a2.toInt < nH h) ∧ (0 ≤ a6.toInt ∧ a6.toInt ≤ a7.toInt ∧ a7.toInt ≤ 199)
theorem right11_no {a1 a2 a3 a4 a5 a6 a7 a8 : Int32} {h : Hp} (R : RC h) (P : RP h) (q : ¬ okR h a1 a2 a3 a4 a5 a6 a7) : fX11_right a1 a2 a3 a4 a5 a6 a7 a8 h = some (-2, h) := by
  unfold okR at q
  unfold fX11_right
  by_cases c1 : 0 ≤ a1.toInt ∧ a1.toInt ≤ 3
  · rw [br_n (by rw [isWithin_0, z0, n3]; omega)]
    by_cases c2 : isRn h a3 a4 a5
    · rw [bd_s (run1_t R c2), br_n (by decide), lb_e]
      by_cases c3 : a1 = 1
      · rw [br_p c3]
        simp only [plot3, year11, i32_le]
        unfold br
        repeat' split
        all_goals first | rfl | (exfalso; exact q ⟨c1, c2, fun _ => by omega, fun z => absurd c3 z, by omega⟩)
      · rw [br_n c3]
        simp only [house4 P, year11, i32_le]
        unfold br
        repeat' split
        all_goals first | rfl | (exfalso; exact q ⟨c1, c2, fun z => absurd z c3, fun _ => by omega, by omega⟩)
    · rw [bd_s (run1_f R c2)]
      rfl
  · rw [br_p (by rw [isWithin_0, z0, n3]; omega)]
theorem right12_no {a1 a2 a3 a4 a5 a6 a7 a8 : Int32} {h : Hp} (R0 : RC (sI h 12 0 0 0)) (P0 : RP (sI h 12 0 0 0)) (q : ¬ okR h a1 a2 a3 a4 a5 a6 a7) : fX12_right a1 a2 a3 a4 a5 a6 a7 a8 h = some (-2, sI h 12 0 0 0) := by
  have eH : nH (sI h 12 0 0 0) = nH h := rfl
  unfold okR at q
  unfold fX12_right
  simp only [lb_e, in_0, to64, z0J, n3J, n7J, n199J, house12 P0, eH]
  by_cases c1 : 0 ≤ a1.toInt ∧ a1.toInt ≤ 3
  · by_cases c2 : isRn h a3 a4 a5
    · have c2' : isRn (sI h 12 0 0 0) a3 a4 a5 := c2
      simp only [bd_s (run12_t R0 c2')]
      by_cases c3 : a1 = 1
      · rw [br_p c3]
        unfold br
        repeat' split
        all_goals first | rfl | (exfalso; exact q ⟨c1, c2, fun _ => by omega, fun z => absurd c3 z, by omega⟩)
      · rw [br_n c3]
        unfold br
        repeat' split
        all_goals first | rfl | (exfalso; exact q ⟨c1, c2, fun z => absurd z c3, fun _ => by omega, by omega⟩)
    · have c2' : ¬ isRn (sI h 12 0 0 0) a3 a4 a5 := c2
      simp only [bd_s (run12_f R0 c2')]
      unfold br
      repeat' split
      all_goals first | rfl | (exfalso; omega) | contradiction
  · unfold br
    repeat' split
    all_goals first | rfl | (exfalso; omega)
def w_right : List Nat := [13000, 505, 999, 32, 4001, 6000, 6001, 6002, 6003, 6004, 6005, 6006, 6007, 6008, 6009, 6010, 6011, 6012, 13009, 70, 71, 72, 73, 74, 75, 76, 77, 78, 79, 80, 81, 82]
theorem s_right (a1 a2 a3 a4 a5 a6 a7 a8 : Int32) (h8 : a8 = 0 ∨ a8 = 1) (h : Hp) (R : RC h) (P : RP h) (Y : Ry h) (T : RR (nH h) (yr h) (nB h) (un h) h h) : Op w_right (fX11_right a1 a2 a3 a4 a5 a6 a7 a8) (fX12_right a1 a2 a3 a4 a5 a6 a7 a8) h (fun h3 => RR (nH h) (yr h) (nB h) (un h) h3 h3 ∧ (nR h3 = nR h ∧ gC h3 = gC h ∧ gS h3 = gS h ∨ nR h3 = nR h + 1 ∧ gC h3 = gC h + 1 ∧ gS h3 = gS h + 13)) := by
  have R0 := RC_sm (thrown_sm rfl h) R
  have P0 := RP_sm (thrown_sm rfl h) P
  have T0 : RR (nH h) (yr h) (nB h) (un h) (sI h 12 0 0 0) (sI h 12 0 0 0) := RR_m (thrown_sm rfl h) (RR_c (thrown_sm rfl h) T)
  by_cases q : okR h a1 a2 a3 a4 a5 a6 a7
  · obtain ⟨c1, c2, c3, c4, c5⟩ := id q
    obtain ⟨y1, y2, y3⟩ := Y.e
    obtain ⟨r1, r2, r3, r4, -⟩ := id T
    have dp : ∀ c : Hp, RP c → nH c = nH h → br (a1 = 1) (fX3_isPlot a2 c) (fX4_isHousehold a2 c) ≠ 0 := fun c Pc e => by
      unfold br
      by_cases z : a1 = 1
      · rw [if_pos z]
        exact fun w => (plot3 _ _).mp w (c3 z)
      · rw [if_neg z]
        exact fun w => (house4 Pc _).mp w (by rw [e]; exact c4 z)
    by_cases q8 : nR h < 100
    · obtain ⟨c', ec⟩ : ∃ y, y = sI (sR (sI (sI (sI (sI (sI (sI (sI (sI (sI (sI (sI (sI (sI (nw h 5 13) 5 (nR h) 12 200) 5 (nR h) 0 a1) 5 (nR h) 1 a2) 5 (nR h) 2 a3) 5 (nR h) 3 a4) 5 (nR h) 4 a5) 5 (nR h) 5 a6) 5 (nR h) 6 a6) 5 (nR h) 7 a7) 5 (nR h) 11 a7) 5 (nR h) 8 (nZ (yr h))) 5 (nR h) 9 a8) 5 (nR h) 10 0) 32 0 (nR h) (some (nR h))) 3 0 1 (nZ (nR h + 1)) := ⟨_, rfl⟩
      have C := newC_t q8 r2 r4 _ _ _ _ _ _ _ _ _ _ _ ec
      have e10 : ∀ v : Int32, gI (sI (sI (sI (sI (sI (sI (sI (sI (sI (sI (sI (sI (nw h 5 13) 5 (nR h) 12 200) 5 (nR h) 0 a1) 5 (nR h) 1 a2) 5 (nR h) 2 a3) 5 (nR h) 3 a4) 5 (nR h) 4 a5) 5 (nR h) 5 a6) 5 (nR h) 6 a6) 5 (nR h) 7 a7) 5 (nR h) 11 a7) 5 (nR h) 8 (nZ (yr h))) 5 (nR h) 9 v) 5 (nR h) 10 = 0 := fun v => by
        simp (disch := decide) only [gI_p]
        rw [gI_nw, if_pos ⟨rfl, r4.symm⟩]
      rw [sI_id (e10 a8)] at ec
      have eN : fX11_right a1 a2 a3 a4 a5 a6 a7 a8 h = some (nZ (nR h), c') := by
        unfold fX11_right fX5_init fX5_setYears
        rw [br_n (by rw [isWithin_0, z0, n3]; omega), bd_s (run1_t R c2), br_n (by decide), lb_e]
        have := dp h P rfl
        have fin : ∀ x : Int32, x ≠ 0 → (br (x = 0) (some ((-2 : Int32), h)) (br (fX11_isYear a6 h = 0) (some (-2, h)) (br (fX11_isYear a7 h = 0) (some (-2, h)) (br (a6 ≤ a7) (br (1 ≤ fX3_numbersLeft h) (lb (gN h 5) fun z6 => lb (nw h 5 13) fun h7 => bd (lb (sI h7 5 z6 12 200) fun h1 => lb (sI h1 5 z6 0 a1) fun h2 => lb (sI h2 5 z6 1 a2) fun h3 => lb (sI h3 5 z6 2 a3) fun h4 => lb (sI h4 5 z6 3 a4) fun h5 => lb (sI h5 5 z6 4 a5) fun h6 => some ((), h6)) fun r8 h9 => bd (lb (sI h9 5 z6 5 a6) fun h1 => lb (sI h1 5 z6 6 a6) fun h2 => lb (sI h2 5 z6 7 a7) fun h3 => lb (sI h3 5 z6 11 a7) fun h4 => lb (sI h4 5 z6 8 (gI h9 11 0 11)) fun h5 => some ((), h5)) fun r10 h11 => gd (a8 = 0 ∨ a8 = 1) (lb (sI h11 5 z6 9 a8) fun h13 => bd (fX3_enter z6 h13) fun r14 h15 => some (r14, h15))) (some (-3, h))) (some (-2, h)))))) = some (nZ (nR h), c') := by
          intro x hx
          rw [br_n hx, br_n (by rw [year11]; omega), br_n (by rw [year11]; omega), br_p (i32_le.mpr (by omega)), left3 r3 r2, br_p (by show nZ 1 ≤ _; rw [nZ_le (by omega) (by omega)]; omega)]
          simp only [lb_e, bd_s rfl, r4]
          rw [gd_p h8]
          have e3 : gI (sI (sI (sI (sI (sI (sI (nw h 5 13) 5 (nR h) 12 200) 5 (nR h) 0 a1) 5 (nR h) 1 a2) 5 (nR h) 2 a3) 5 (nR h) 3 a4) 5 (nR h) 4 a5) 11 0 11 = nZ (yr h) := by
            simp (disch := decide) only [gI_o]
            rw [gI_nwo (by decide)]
            exact y2
          rw [e3, bd_s (enter_t q8 (by simp (disch := decide) only [gI_o]; rw [gI_nwo (by decide)]; exact r2)), ← ec]
        by_cases z : a1 = 1
        · rw [br_p z] at this ⊢
          exact fin _ this
        · rw [br_n z] at this ⊢
          exact fin _ this
      have fc : Fr wNC h c' := C.1
      obtain ⟨m', em, M⟩ := adds_t (m := sI c' 12 0 0 0) q8 (by rw [gI_p (by decide), fc.I 12 0 9 rfl]; exact r1) a1 a2 a3 a4 a5 a6 a6 a7 a8 0 h8
      have e5 : gI (sI c' 12 0 0 0) 12 0 5 = nZ (yr h) := by rw [gI_p (by decide), fc.I 12 0 5 rfl]; exact y1
      rw [e5] at M
      have fm : Fr [13000] c' (sI c' 12 0 0 0) := Fr_I _ _ _ _ _ rfl
      have Tm : RR (nH h) (yr h) (nB h) (un h) h (sI c' 12 0 0 0) := RR_m (fm.sm rfl) (RR_m (fc.sm rfl) T)
      have eR : nR (sI c' 12 0 0 0) = nR h := by rw [nR_sm (fm.sm rfl), nR_sm (fc.sm rfl)]
      obtain ⟨b, f, n, rfl, rfl, rfl, hb, hn, hf⟩ := isRn_ex R c2
      have q8' := q8
      rw [← eR] at C M q8'
      obtain ⟨K, eK⟩ := RR_new Tm q8' C M (by decide) c1 h8 (fun z => by have := c3 z; omega) c4 ⟨b, f, n, rfl, rfl, rfl, hb, hn, hf⟩ (Or.inl rfl)
      rw [eR] at eK
      have fm' : Fr wNM (sI c' 12 0 0 0) m' := M.1
      refine ⟨nZ (nR h), c', m', eN, ?_, fc.wk rfl, ((fc.wk rfl).tr (fm.wk rfl)).tr (fm'.wk rfl), RR_c (fm'.sm rfl) (RR_c (fm.sm rfl) K), Or.inr ⟨eK, ?_, ?_⟩⟩
      · have c2' : isRn (sI c' 12 0 0 0) (nZ b) (nZ f) (nZ n) := by
          unfold isRn at c2 ⊢
          rw [fm.I 1 0 7 rfl, fm.A 28 0 _ rfl, fc.I 1 0 7 rfl, fc.A 28 0 _ rfl]
          exact c2
        have Rc' := RC_sm (fm.sm rfl) (RC_sm (fc.sm rfl) R)
        have Pc' := RP_sm (fm.sm rfl) (RP_sm (fc.sm rfl) P)
        have eH : nH (sI c' 12 0 0 0) = nH h := by rw [nH_sm (fm.sm rfl), nH_sm (fc.sm rfl)]
        unfold fX12_right
        simp only [lb_e, in_0, to64, z0J, n3J, n7J, n199J, bd_s (run12_t Rc' c2')]
        have t : br (a1 = 1) (fX12_in a2.toInt64 0 7 (sI c' 12 0 0 0)) (fX12_isHouse a2 (sI c' 12 0 0 0)) ≠ 0 := by
          unfold br
          by_cases z : a1 = 1
          · rw [if_pos z]
            exact fun w => (in_0 _ _ _ _).mp w (by rw [to64, z0J, n7J]; exact c3 z)
          · rw [if_neg z]
            exact fun w => (house12 Pc' _).mp w (by rw [eH]; exact c4 z)
        have e9 : gI (sI c' 12 0 0 0) 12 0 9 = nZ (nR h) := by rw [gI_p (by decide), fc.I 12 0 9 rfl]; exact r1
        rw [e9]
        have n100' : ¬ nZ (nR h) = 100 := by
          show ¬ nZ (nR h) = nZ 100
          rw [nZ_eq (by omega) (by omega)]
          omega
        by_cases z : a1 = 1
        · rw [br_p z]
          rw [br_n (not_not_intro c1), br_n (by decide), br_n (not_not_intro (c3 z)), br_n (by omega), br_n (by omega), br_n n100', bd_s em]
        · rw [br_n z] at t ⊢
          rw [br_n (not_not_intro c1), br_n (by decide), br_n t, br_n (by omega), br_n (by omega), br_n n100', bd_s em]
      · rw [(fm'.2.2 rfl).1, (fm.2.2 rfl).1]
        exact C.2.2.2.2.2.2.1
      · rw [(fm'.2.2 rfl).2, (fm.2.2 rfl).2]
        exact C.2.2.2.2.2.2.2
    · have e100 : nR h = 100 := by omega
      refine Op_no rfl (r := -3) ?_ ?_ ⟨T0, Or.inl ⟨rfl, rfl, rfl⟩⟩
      · have := dp h P rfl
        unfold fX11_right
        rw [br_n (by rw [isWithin_0, z0, n3]; omega), bd_s (run1_t R c2), br_n (by decide), lb_e]
        by_cases z : a1 = 1
        · rw [br_p z] at this ⊢
          show br (fX3_isPlot a2 h = 0) _ _ = _
          rw [br_n this, br_n (by rw [year11]; omega), br_n (by rw [year11]; omega), br_p (i32_le.mpr (by omega)), left3 r3 r2, br_n (by show ¬ nZ 1 ≤ _; rw [nZ_le (by omega) (by omega)]; omega)]
        · rw [br_n z] at this ⊢
          show br (fX4_isHousehold a2 h = 0) _ _ = _
          rw [br_n this, br_n (by rw [year11]; omega), br_n (by rw [year11]; omega), br_p (i32_le.mpr (by omega)), left3 r3 r2, br_n (by show ¬ nZ 1 ≤ _; rw [nZ_le (by omega) (by omega)]; omega)]
      · have c2' : isRn (sI h 12 0 0 0) a3 a4 a5 := c2
        have e9 : gI (sI h 12 0 0 0) 12 0 9 = 100 := by
          rw [gI_p (by decide), r1, e100]
          rfl
        unfold fX12_right
        simp only [lb_e, in_0, to64, z0J, n3J, n7J, n199J, bd_s (run12_t R0 c2')]
        have t : br (a1 = 1) (fX12_in a2.toInt64 0 7 (sI h 12 0 0 0)) (fX12_isHouse a2 (sI h 12 0 0 0)) ≠ 0 := by
          unfold br
          by_cases z : a1 = 1
          · rw [if_pos z]
            exact fun w => (in_0 _ _ _ _).mp w (by rw [to64, z0J, n7J]; exact c3 z)
          · rw [if_neg z]
            exact fun w => (house12 P0 _).mp w (c4 z)
        by_cases z : a1 = 1
        · rw [br_p z]
          rw [br_n (not_not_intro c1), br_n (by decide), br_n (not_not_intro (c3 z)), br_n (by omega), br_n (by omega), br_p e9]
        · rw [br_n z] at t ⊢
          rw [br_n (not_not_intro c1), br_n (by decide), br_n t, br_n (by omega), br_n (by omega), br_p e9]
  · exact Op_no rfl (right11_no R P q) (right12_no R0 P0 q) ⟨T0, Or.inl ⟨rfl, rfl, rfl⟩⟩
