/-! ===== level 2: knock kept whole ===== -/
def Vk (h : Hp) (i l : Nat) : Nat := if l < nL h ∧ i < nH h then ix (gI h 17 0 (12 * l + i)) else 0
theorem Vk_z (h : Hp) (i l : Nat) (hi : nH h ≤ i) : Vk h i l = 0 := if_neg (by omega)
theorem Vk_e {h : Hp} {B : Nat} {u : Nat → Nat} (A : RA (nH h) B u h h) {l i : Nat} (hl : l < nL h) (hi : i < 12) : gI h 17 0 (12 * l + i) = nZ (Vk h i l) := by
  obtain ⟨a1, a2, a3⟩ := A.2.2.2.2 l i hl hi
  unfold Vk
  by_cases z : i < nH h
  · rw [if_pos ⟨hl, z⟩]
    refine nZ_of ?_
    rw [a1]
    by_cases w : gI h 68 0 i = 0
    · rw [if_pos w]
      exact a2.1
    · rw [if_neg w, z0]
      exact Int.le_refl _
  · rw [if_neg fun w => z w.2, a1, a3 (by omega)]
    split <;> rfl
theorem Vk_b {h : Hp} {B : Nat} {u : Nat → Nat} (P : nH h ≤ 12) (A : RA (nH h) B u h h) (i l : Nat) : Vk h i l ≤ 10000 := by
  unfold Vk
  by_cases z : l < nL h ∧ i < nH h
  · rw [if_pos z]
    obtain ⟨a1, a2, a3⟩ := A.2.2.2.2 l i z.1 (by omega)
    rw [a1]
    by_cases w : gI h 68 0 i = 0
    · rw [if_pos w]
      unfold ix
      omega
    · rw [if_neg w]
      decide
  · rw [if_neg z]
    omega
theorem Of_h {h : Hp} {B : Nat} {u : Nat → Nat} (P : nH h ≤ 12) (A : RA (nH h) B u h h) : Of (Vk h) (nL h) h := ⟨A.2.1, A.2.2.1, Vk_b P A, fun _ _ hl hi => Vk_e A hl hi⟩
theorem Om_h {h : Hp} {B : Nat} {u : Nat → Nat} (P : RP h) (A : RA (nH h) B u h h) : Om (Vk h) (nL h) (nH h) h := ⟨A.1, A.2.2.1, P.1, P.2.2.1, Vk_b P.2.2.1 A, Vk_z h, fun l i hl hi => (A.2.2.2.2 l i hl hi).1.symm.trans (Vk_e A hl hi)⟩
/-- what the class may have touched when the reference begins -/
def wCk : List Nat := [18, 19, 20, 21, 22, 1000, 1009, 1012, 12014, 505, 999, 32, 4001, 6000, 6001, 6002, 6003, 6004, 6005, 6006, 6007, 6008, 6009, 6010, 6011, 6012]
theorem m_pre {h g : Hp} {B : Nat} {u : Nat → Nat} (P : RP h) (Y : Ry h) (A : RA (nH h) B u h h) (f : Fr wCk h g) : ∃ m0 t m, fX12_sumsBut (-1) (sI g 12 0 0 0) = some (nJ (Db (Vk h) (nL h) 12 0), m0) ∧ fX12_knock_L30 FU (nJ (Db (Vk h) (nL h) 12 0)) 0 0 0 m0 = some (t, m) ∧ t.2.1 = nZ (kK (Vk h) (nL h) (nH h)) ∧ Fr [13000, 95, 97] g m ∧ KCm (Vk h) (nL h) (nH h) (yr h) m := by
  have fz : Fr [13000] g (sI g 12 0 0 0) := Fr_I _ _ _ _ _ rfl
  have f0 : Fr (13000 :: wCk) h (sI g 12 0 0 0) := (f.wk rfl).tr (fz.wk rfl)
  have h12 := P.2.2.1
  obtain ⟨r, m0, e0, er, g0, T0⟩ := sumsAll_t (Om_sm (f0.sm rfl) (Om_h P A))
  have f1 : Fr (95 :: 13000 :: wCk) h m0 := (f0.wk rfl).tr (g0.wk rfl)
  have O1 := Om_sm (f1.sm rfl) (Om_h P A)
  obtain ⟨t, m, e1, et, g1, K1⟩ := kn30_L (a1 := nJ (Db (Vk h) (nL h) 12 0)) FU 0 m0 O1 T0 (Nat.zero_le _) (by show _ < 100000; omega) fun j hj => by omega
  have f2 : Fr (97 :: 95 :: 13000 :: wCk) h m := (f1.wk rfl).tr (g1.wk rfl)
  rw [er] at e0
  refine ⟨m0, t, m, e0, e1, et, ((fz.wk rfl).tr (g0.wk rfl)).tr (g1.wk rfl), Om_sm (f2.sm rfl) (Om_h P A), ?_, K1⟩
  rw [f2.I 12 0 5 rfl]
  exact Y.e.1
theorem knock12_t {h g : Hp} {B : Nat} {u : Nat → Nat} (A : RA (nH h) B u h h) (hn : nL h ≠ 0) (f : Fr wCk h g) {m0 m : Hp} {t : Int32 × Int32 × Int32} {J : Int64} {k : Nat} (hk : k ≤ 12) {N : Nat} (hN : N ≤ 100) (e9 : gI m 12 0 9 = nZ N) (e0 : fX12_sumsBut (-1) (sI g 12 0 0 0) = some (J, m0)) (e1 : fX12_knock_L30 FU J 0 0 0 m0 = some (t, m)) (et : t.2.1 = nZ k) : fX12_knock g = br (N + k ≤ 100) (bd (fX12_knock_L210 FU J 0 0 m) (fun t59 h58 => some (t59.1, sI (sI (sI (sJ (sJ h58 12 0 12 ((gJ h58 12 0 12) + t59.1)) 12 0 61 J) 12 0 60 (gI h58 12 0 8)) 12 0 56 1) 12 0 10 0))) (some ((-3), m)) := by
  unfold fX12_knock
  have e10 : gI (sI g 12 0 0 0) 12 0 10 = nZ (nL h) := by
    rw [gI_p (by decide), f.I 12 0 10 rfl]
    exact A.1
  have h8 := A.2.2.1
  rw [lb_e, e10, br_n (by rw [nZ_z (by omega)]; exact hn), bd_s e0, bd_s e1]
  simp only [lb_e]
  rw [et, e9, nZ_add]
  have c100 : (nZ (N + k) ≤ 100) ↔ N + k ≤ 100 := nZ_le (b := 100) (by omega) (by omega)
  by_cases z : N + k ≤ 100
  · rw [br_p (c100.mpr z), br_p z]
    rfl
  · rw [br_n fun w => z (c100.mp w), br_n z]
def w_knf : List Nat := [13000, 95, 97, 18, 19, 20]
def w_knk : List Nat := [13000, 95, 97, 18, 19, 20, 21, 22, 1000, 1009, 1012, 12014, 505, 999, 32, 4001, 6000, 6001, 6002, 6003, 6004, 6005, 6006, 6007, 6008, 6009, 6010, 6011, 6012, 96, 98, 13009, 70, 71, 72, 73, 74, 75, 76, 77, 78, 79, 80, 81, 82, 13012, 13061, 13060, 13056, 13010]
theorem k_knock (h : Hp) (A : RAll h) : St fX11_knock fX12_knock h := by
  have A' := A
  obtain ⟨a1, a2, a3, a4, a5, a6, a7, a8, a9, a10, a11, a12, a13, a14, a15, a16⟩ := A'
  have h12 := a2.2.2.1
  have h8 := a10.2.2.1
  have h100 := a4.2.2.1
  by_cases hn : nL h = 0
  · refine St_ro A (W := [13000]) (P := fun _ => True) (Op_no rfl (r := -1) ?_ ?_ trivial) (by decide +kernel) rfl rfl
    · unfold fX11_knock
      rw [a10.2.1, hn]
      exact br_p rfl
    · unfold fX12_knock
      rw [lb_e, gI_p (by decide), a10.1, hn]
      exact br_p rfl
  · obtain ⟨r1, c1, e1, er1, f1, T1, K1⟩ := findWinners_t (Of_h h12 a10)
    have kz : kK (Vk h) (nL h) 12 = kK (Vk h) (nL h) (nH h) := by
      have := kK_z (V := Vk h) (n := nL h) (Vk_z h) (12 - nH h)
      rw [show nH h + (12 - nH h) = 12 by omega] at this
      exact this
    have kle := kK_le (Vk h) (nL h) 12
    have kle2 := kK_le (Vk h) (nL h) (nH h)
    have e3 : gI c1 3 0 1 = nZ (nR h) := by rw [f1.I 3 0 1 rfl]; exact a4.2.1
    have b11 : fX11_knock h = br (nR h + kK (Vk h) (nL h) (nH h) ≤ 100) (bd (fX0_findPrices c1) (fun _ h4 => bd (fX11_knock_L44 FU 0 h4) (fun _ h8 => bd (fX0_income h8) (fun r11 h12 => lb (sJ h12 11 0 14 ((gJ h8 11 0 14) + r11)) (fun h13 => bd (fX0_close h13) (fun _ h15 => bd (fX0_income h15) (fun r16 h17 => some (r16, h17)))))))) (some ((-3), c1)) := by
      unfold fX11_knock
      rw [a10.2.1, br_n (by rw [nZ_z (by omega)]; exact hn), bd_s e1, er1, left3 h100 e3, kz]
      by_cases z : nR h + kK (Vk h) (nL h) (nH h) ≤ 100
      · rw [br_p (by rw [nZ_le (by omega) (by omega)]; omega), br_p z]
      · rw [br_n (by rw [nZ_le (by omega) (by omega)]; omega), br_n z]
    by_cases z : nR h + kK (Vk h) (nL h) (nH h) ≤ 100
    · rw [br_p z] at b11
      obtain ⟨u2, c2, e2, f2, k12, k9, K2⟩ := findPrices_t (Of_sm (f1.sm rfl) (Of_h h12 a10)) T1 K1
      have fc2 : Fr [18, 19, 20, 21, 22, 1009, 1012] h c2 := (f1.wk rfl).tr (f2.wk rfl)
      have C2 : KCc (Vk h) (nL h) (yr h) c2 := ⟨by rw [fc2.I 0 0 0 rfl]; exact a10.2.1, by rw [fc2.I 11 0 11 rfl]; exact a3.e.2.1, K2⟩
      have T2 : ∀ m, Sm fRRm h m → RR (nH h) (yr h) (nB h) (un h) c2 m := fun m s => RR_c (fc2.sm rfl) (RR_m s a4)
      have L2 : ∀ m, Sm [83, 84, 85, 86] h m → Lt (nL h) (nB h) (un h) c2 m := fun m s => Lt_c (fc2.sm rfl) (Lt_m s a10.2.2.2.1)
      have fin : ∀ g, Fr wCk h g → ∃ m0 t m v c3 m4 w, fX12_sumsBut (-1) (sI g 12 0 0 0) = some (nJ (Db (Vk h) (nL h) 12 0), m0) ∧ fX12_knock_L30 FU (nJ (Db (Vk h) (nL h) 12 0)) 0 0 0 m0 = some (t, m) ∧ t.2.1 = nZ (kK (Vk h) (nL h) (nH h)) ∧ Fr [13000, 95, 97] g m ∧ fX11_knock_L44 FU 0 c2 = some (v, c3) ∧ fX12_knock_L210 FU (nJ (Db (Vk h) (nL h) 12 0)) 0 0 m = some ((sJs (pC (Vk h) (nL h)) (nH h), w), m4) ∧ RR (nH h) (yr h) (nB h) (un h) c3 m4 ∧ Fr wNC c2 c3 ∧ Fr wKM m m4 ∧ nR m4 = nR h + kK (Vk h) (nL h) (nH h) ∧ (gC c3 = gC c2 + kK (Vk h) (nL h) (nH h) ∧ gS c3 = gS c2 + 13 * kK (Vk h) (nL h) (nH h)) ∧ (∀ j, j < nH h → gI m4 96 0 j = wz (nL h) (kW (Vk h) (nL h) j) ∧ gJ m4 98 0 j = (pC (Vk h) (nL h) j).toInt64) := by
        intro g fg
        obtain ⟨m0, t, m, x1, x2, x3, x4, x5⟩ := m_pre a2 a3 a10 fg
        have fm : Fr (13000 :: 95 :: 97 :: wCk) h m := (fg.wk rfl).tr (x4.wk rfl)
        have eRm : nR m = nR h := nR_sm (fm.sm rfl)
        obtain ⟨v, c3, m4, w, y1, y2, y3, y4, y5, y6, y7, y8⟩ := kl_L FU 0 c2 m (Nat.zero_le _) (by show _ < 100000; omega) C2 x5 (L2 m (fm.sm rfl)) (T2 m (fm.sm rfl)) (by rw [eRm]; exact Nat.le_trans z (Nat.le_add_right _ _)) fun j hj => by omega
        exact ⟨m0, t, m, v, c3, m4, w, x1, x2, x3, x4, y1, y2, y3, y4, y5, by rw [eRm] at y6; exact y6, y7, y8⟩
      obtain ⟨-, -, -, v, c3, -, -, -, -, -, -, e44, -, -, f3, -, -, ⟨gc, gs⟩, -⟩ := fin c2 (fc2.wk rfl)
      have fc3 : Fr wCk h c3 := (fc2.wk rfl).tr (f3.wk rfl)
      have K3 : ∀ j, j < 12 → gI c3 22 0 j = pC (Vk h) (nL h) j := fun j hj => by
        rw [f3.A 22 0 j rfl]
        exact (K2 j hj).2
      obtain ⟨g, eg⟩ : ∃ y, y = sI (sJ c3 11 0 14 (gJ c3 11 0 14 + sJs (pC (Vk h) (nL h)) 12)) 0 0 0 0 := ⟨_, rfl⟩
      have fg3 : Fr [12014, 1000] c3 g := by rw [eg]; exact (Fr_J _ _ _ _ _ rfl).tr (Fr_I _ _ _ _ _ rfl)
      have fg : Fr wCk h g := fc3.tr (fg3.wk rfl)
      have K4 : ∀ j, j < 12 → gI g 22 0 j = pC (Vk h) (nL h) j := fun j hj => by
        rw [fg3.A 22 0 j rfl]
        exact K3 j hj
      have E11 : fX11_knock h = some (sJs (pC (Vk h) (nL h)) 12, g) := by
        rw [b11, bd_s e2, bd_s e44, bd_s (income_t K3), lb_e]
        unfold fX0_close
        rw [lb_e, bd_s rfl, ← eg, bd_s (income_t K4)]
      obtain ⟨m0, t, m, v', c3', m4, w, x1, x2, x3, x4, e44', x5, x6, f3', x7, x8, -, x9⟩ := fin g fg
      have ec3 : c3' = c3 := (Prod.mk.inj (Option.some.inj (e44'.symm.trans e44))).2
      rw [ec3] at x6
      have fm : Fr (13000 :: 95 :: 97 :: wCk) h m := (fg.wk rfl).tr (x4.wk rfl)
      have e9 : gI m 12 0 9 = nZ (nR h) := by rw [fm.I 12 0 9 rfl]; exact a4.1
      have E12 := knock12_t a10 hn fg (by omega) h100 e9 x1 x2 x3
      rw [br_p z, bd_s x5] at E12
      have sH : sJs (pC (Vk h) (nL h)) (nH h) = sJs (pC (Vk h) (nL h)) 12 := by
        have : ∀ k, sJs (pC (Vk h) (nL h)) (nH h + k) = sJs (pC (Vk h) (nL h)) (nH h) := by
          intro k
          induction k with
          | zero => rfl
          | succ k ih =>
            show sJs _ (nH h + k) + (pC (Vk h) (nL h) (nH h + k)).toInt64 = _
            rw [ih, show pC (Vk h) (nL h) (nH h + k) = 0 from if_neg (by rw [kW_z fun l => Vk_z h _ l (by omega)]; omega)]
            exact Int64.add_zero _
        have := this (12 - nH h)
        rw [show nH h + (12 - nH h) = 12 by omega] at this
        exact this.symm
      obtain ⟨h3, eh3⟩ : ∃ y, y = sI (sI (sI (sJ (sJ m4 12 0 12 (gJ m4 12 0 12 + sJs (pC (Vk h) (nL h)) (nH h))) 12 0 61 (nJ (Db (Vk h) (nL h) 12 0))) 12 0 60 (gI m4 12 0 8)) 12 0 56 1) 12 0 10 0 := ⟨_, rfl⟩
      have f43 : Fr [13012, 13061, 13060, 13056, 13010] m4 h3 := by
        rw [eh3]
        exact ((((Fr_J _ _ _ _ _ rfl).tr (Fr_J _ _ _ _ _ rfl)).tr (Fr_I _ _ _ _ _ rfl)).tr (Fr_I _ _ _ _ _ rfl)).tr (Fr_I _ _ _ _ _ rfl)
      have fgm : Fr (13000 :: 95 :: 97 :: wKM) g m4 := (x4.wk rfl).tr (x7.wk rfl)
      have fg3' : Fr (13012 :: 13061 :: 13060 :: 13056 :: 13010 :: 13000 :: 95 :: 97 :: wKM) g h3 := (fgm.wk rfl).tr (f43.wk rfl)
      have fK : Fr w_knk h h3 := (fg.wk rfl).tr (fg3'.wk rfl)
      have fh4 : Fr (13000 :: 95 :: 97 :: (wKM ++ wCk)) h m4 := (fg.wk rfl).tr (fgm.wk rfl)
      have eH : nH h3 = nH h := by unfold nH; rw [fK.I 12 0 8 (by decide +kernel)]
      have eY : yr h3 = yr h := by unfold yr; rw [fK.I 12 0 5 (by decide +kernel)]
      have eB : nB h3 = nB h := by unfold nB; rw [fK.I 1 0 7 (by decide +kernel)]
      have eU : un h3 = un h := funext fun b => by unfold un; rw [fK.A 28 0 b (by decide +kernel)]
      have eR : nR h3 = nR h + kK (Vk h) (nL h) (nH h) := (nR_sm (f43.sm rfl)).trans x8
      have eC : gC g = gC h + kK (Vk h) (nL h) (nH h) ∧ gS g = gS h + 13 * kK (Vk h) (nL h) (nH h) := by
        rw [(fg3.2.2 rfl).1, (fg3.2.2 rfl).2, gc, gs, (fc2.2.2 rfl).1, (fc2.2.2 rfl).2]
        exact ⟨rfl, rfl⟩
      have eC3 : gC h3 = gC g ∧ gS h3 = gS g := fg3'.2.2 rfl
      have rm : RM h3 := by
        unfold RM at a16 ⊢
        rw [eH, eY, eR, eC3.1, eC3.2, eC.1, eC.2]
        omega
      have rR : RR (nH h) (yr h) (nB h) (un h) h3 h3 := by
        have s1 : Sm fRRc c3 g := fg3.sm rfl
        have s2 : Sm fRRc g h3 := fg3'.sm rfl
        exact RR_c s2 (RR_c s1 (RR_m (f43.sm rfl) x6))
      have rf : Rf h3 := by
        have t1 : gJ h3 11 0 14 = gJ h 11 0 14 + sJs (pC (Vk h) (nL h)) 12 := by
          rw [fg3'.J 11 0 14 rfl, eg, gJ_sI, gJ_a, if_pos rfl, f3.J 11 0 14 rfl, fc2.J 11 0 14 rfl]
        have t2 : gJ h3 12 0 12 = gJ h 12 0 12 + sJs (pC (Vk h) (nL h)) 12 := by
          rw [eh3, gJ_sI, gJ_sI, gJ_sI, gJ_a, if_neg (by omega), gJ_a, if_pos rfl, fh4.J 12 0 12 (by decide +kernel), sH]
        show gJ h3 11 0 14 = gJ h3 12 0 12
        rw [t1, t2, show gJ h 11 0 14 = gJ h 12 0 12 from a8]
      have rA : RA (nH h) (nB h) (un h) h3 h3 := by
        have L0 : gI h3 12 0 10 = 0 := by rw [eh3, gI_q]
        have L1 : nL h3 = 0 := by unfold nL; rw [L0]; rfl
        have L3 : gI h3 0 0 0 = 0 := by rw [fg3'.I 0 0 0 rfl, eg, gI_q]
        exact ⟨by rw [L1]; exact L0, by rw [L1]; exact L3, by omega, fun l hl => by omega, fun l i hl => by omega⟩
      have rK : RK h3 := by
        have t9 : gI h3 0 0 9 = 1 := by rw [fg3'.I 0 0 9 rfl, fg3.I 0 0 9 rfl, f3.I 0 0 9 rfl]; exact k9
        have t56 : gI h3 12 0 56 = 1 := by rw [eh3, gI_p (by decide), gI_q]
        have t60 : gI h3 12 0 60 = nZ (nH h) := by
          rw [eh3, gI_p (by decide), gI_p (by decide), gI_q, fh4.I 12 0 8 (by decide +kernel)]
          exact a2.1
        have t61 : gJ h3 12 0 61 = nJ (Db (Vk h) (nL h) 12 0) := by rw [eh3, gJ_sI, gJ_sI, gJ_sI, gJ_a, if_pos rfl]
        have t12 : gI h3 0 0 12 = nZ (Db (Vk h) (nL h) 12 0) := by rw [fg3'.I 0 0 12 rfl, fg3.I 0 0 12 rfl, f3.I 0 0 12 rfl]; exact k12
        have t21 : ∀ j, j < 12 → gI h3 21 0 j = wz (nL h) (kW (Vk h) (nL h) j) ∧ gI h3 22 0 j = pC (Vk h) (nL h) j := fun j hj => by
          rw [fg3'.A 21 0 j rfl, fg3.A 21 0 j rfl, f3.A 21 0 j rfl, fg3'.A 22 0 j rfl, K4 j hj]
          exact ⟨(K2 j hj).1, rfl⟩
        refine ⟨by rw [t9, t56], fun _ => ⟨nH h, t60, by omega, fun i hi => ?_, fun i h1 h2 => ?_, ?_⟩⟩
        · rw [(t21 i (by omega)).1, (t21 i (by omega)).2, f43.A 96 0 i rfl, f43.AJ 98 0 i rfl, (x9 i hi).1, (x9 i hi).2]
          exact ⟨rfl, rfl⟩
        · have kw : kW (Vk h) (nL h) i = nL h := kW_z fun l => Vk_z h i l h1
          rw [(t21 i h2).1, (t21 i h2).2, kw]
          refine ⟨if_neg (Nat.lt_irrefl _), if_neg ?_⟩
          rw [kw]
          exact Nat.lt_irrefl _
        · rw [t12, t61]
          rfl
      refine ⟨_, g, h3, E11, ?_, ?_, ?_⟩
      · rw [E12, ← eh3, sH]
      · rw [← eC3.1, ← eC3.2]
        exact rm.b
      · unfold RAll
        rw [eH, eY, eB, eU]
        exact ⟨RC_sm (fK.sm (by decide +kernel)) a1, RP_sm (fK.sm (by decide +kernel)) a2, Ry_sm (fK.sm (by decide +kernel)) a3, rR, RPl_sm (fK.sm (by decide +kernel)) (fK.sm (by decide +kernel)) a5, Rs_sm (fK.sm (by decide +kernel)) a6, Rt2_sm (fK.sm (by decide +kernel)) a7, rf, Rr_sm (fK.sm (by decide +kernel)) a9, rA, rK, RG_sm (fK.sm (by decide +kernel)) a12, RSn_sm (fK.sm (by decide +kernel)) a13, RHi_sm (fK.sm (by decide +kernel)) (fK.sm (by decide +kernel)) a14, RYs_sm (fK.sm (by decide +kernel)) a15, rm⟩
    · rw [br_n z] at b11
      have fc1 : Fr wCk h c1 := f1.wk rfl
      obtain ⟨m0, t, m, x1, x2, x3, x4, x5⟩ := m_pre a2 a3 a10 fc1
      have fm : Fr (13000 :: 95 :: 97 :: wCk) h m := (fc1.wk rfl).tr (x4.wk rfl)
      have e9 : gI m 12 0 9 = nZ (nR h) := by rw [fm.I 12 0 9 rfl]; exact a4.1
      have E12 := knock12_t a10 hn fc1 (by omega) h100 e9 x1 x2 x3
      rw [br_n z] at E12
      have o : Op w_knf fX11_knock fX12_knock h (fun _ => True) := ⟨-3, c1, m, b11, E12, f1.wk rfl, (f1.wk rfl).tr (x4.wk rfl), trivial⟩
      exact St_ro A o (by decide +kernel) rfl rfl
