/-! ===== level 2: go, the whole ===== -/
def wCg : List Nat := [508, 541, 542, 543, 544, 999, 9000, 9001, 9002, 9003, 9004, 41, 42, 43, 44, 34, 53, 11005, 48, 49, 50, 51, 52, 505, 32, 4001, 6000, 6001, 6002, 6003, 6004, 6005, 6006, 6007, 6008, 6009, 6010, 6011, 6012, 3004, 12011]
def wMg : List Nat := [93, 94, 99, 100, 101, 102, 103, 104, 105, 106, 107, 88, 89, 90, 91, 92, 13005, 13009, 70, 71, 72, 73, 74, 75, 76, 77, 78, 79, 80, 81, 82]
def Rt2 (h : Hp) : Prop := Rt h ∧ (2 ≤ (gI h 12 0 16).toInt ∧ (gI h 12 0 16).toInt ≤ 30) ∧ (0 ≤ (gI h 12 0 17).toInt ∧ (gI h 12 0 17).toInt ≤ 100)
theorem go_run {h : Hp} (R : RC h) (P : RP h) (Y : Ry h) (T : RR (nH h) (yr h) (nB h) (un h) h h) (L : RPl (nH h) h h) (Tt : Rt2 h) (HI : RHi (nH h) (yr h) (nB h) (un h) h h) (YS : RYs h) (hy : yr h ≤ 198) : ∃ c1 c2 c3 c5, fX8_init (yr h + 1) (nw h 8 5) = some ((), c1) ∧ fX3_fillOwners (nZ (yr h)) c1 = some ((), c2) ∧ Fr wAl h c1 ∧ Fr [34, 53] c1 c2 ∧ fX10_seatAll (yr h + 1) (gI h 11 0 13) c2 = some ((), c3) ∧ Fr wSc c2 c3 ∧ (∃ v, fX11_go_L64 FU (yr h + 1) 0 (sR c3 52 0 (yr h) (some (yr h + 1))) = some (v, c5)) ∧ Fr wGo (sR c3 52 0 (yr h) (some (yr h + 1))) c5 ∧ ∀ m, Fr (13000 :: wCg) h m → ∃ n1 m1' m2 m4 m5, fX12_seats 0 m = some ((), m1') ∧ (∃ w, fX12_go_L27 FU 0 0 m1' = some ((nZ n1, w), m2)) ∧ m4 = sI m2 12 0 5 (nZ (yr h + 1)) ∧ (∀ a1, ∃ w, fX12_go_L140 FU a1 0 m4 = some (w, m5)) ∧ (Fr wNM m4 m5 ∧ gI m2 12 0 5 = nZ (yr h)) ∧ Fr wMg m m5 ∧ gI c5 8 (yr h + 1) 4 = nZ n1 ∧ RR (nH h) ((yr h + 1 : Nat) : Int) (nB h) (un h) c5 m5 ∧ RHi (nH h) (yr h + 1) (nB h) (un h) c5 m5 ∧ (∀ i, i < nH h → gI c5 2 i 4 = nZ (satN m5 i (yr h + 1))) ∧ ∃ n, nR m5 = nR h + n ∧ gC c5 = gC h + 5 + n ∧ gS c5 = gS h + 53 + 13 * n := by
  obtain ⟨y1, y2, y3⟩ := Y.e
  obtain ⟨hB, hu⟩ := R.u32
  have hH := P.2.2.1
  obtain ⟨r1, r2, r3, r4, r5⟩ := id HI
  obtain ⟨us, eus, eus2, -⟩ := nZ_ex (by have := Tt.2.1; omega : 0 ≤ (gI h 12 0 16).toInt)
  have hus : 2 ≤ us ∧ us ≤ 30 := by have := Tt.2.1; omega
  obtain ⟨c1, e1, f1, S1, N1, Rf1, If1, gc1, gs1⟩ := seatNew r1
  have T1 : RR (nH h) (yr h) (nB h) (un h) c1 h := RR_c (f1.sm rfl) T
  have L1 : RPl (nH h) c1 h := RPl_sm (f1.sm rfl) (Fr.sm (Fr.rf [] _) rfl) L
  obtain ⟨v0, c2, e2, f2, k2⟩ := fill_t (c := c1) (m := h) hB hu y3 T1 L1
  have f12 : Fr [508, 541, 542, 543, 544, 999, 9000, 9001, 9002, 9003, 9004, 41, 42, 43, 44, 34, 53] h c2 := (f1.wk rfl).tr (f2.wk rfl)
  have S2 : SeatOk c2 (yr h + 1) := ⟨by rw [f2.R 8 _ 0 rfl]; exact S1.1, by rw [f2.R 8 _ 1 rfl]; exact S1.2.1, by rw [f2.R 8 _ 2 rfl]; exact S1.2.2.1, by rw [f2.R 8 _ 3 rfl]; exact S1.2.2.2⟩
  have run1 : ∀ m, Fr (13000 :: wCg) h m → ∃ c' m', fX10_seatAll (yr h + 1) (gI h 11 0 13) c2 = some ((), c') ∧ fX12_seats 0 m = some ((), m') ∧ SeatRes h c' m' (yr h + 1) ∧ Fr wSc c2 c' ∧ Fr wSm m m' ∧ Oth (yr h + 1) c2 c' := fun m fm => seats_t R P (ow := fun s => owS h (s / 32) (s % 32) (yr h) (yr h)) (f12.sm rfl) (f12.sm rfl) (fm.sm rfl) (fm.sm rfl) S2 k2 (by rw [fm.I 12 0 17 rfl]; exact Tt.1.2.symm) fun m' fm' => by
    have fx : Fr (93 :: 94 :: 13000 :: wCg) h m' := (fm.wk rfl).tr (fm'.wk rfl)
    exact s6_L rfl rfl R y3 FU 0 m' (fx.sm rfl) ⟨h, RR_m (fx.sm rfl) T⟩ (fun s hs => owS_sm (fx.sm rfl) (nR_sm (fx.sm rfl)) _ _ _ _) (by rw [fx.I 12 0 5 rfl]; exact y1) (by omega) (by show _ < 100000; omega) fun s hs => by omega
  obtain ⟨c3, -, e3, -, -, f3, -, O3⟩ := run1 h (Fr.rf _ _)
  obtain ⟨c4, ec4⟩ : ∃ z, z = sR c3 52 0 (yr h) (some (yr h + 1)) := ⟨_, rfl⟩
  have f4 : Fr [52] c3 c4 := by rw [ec4]; exact Fr_R _ _ _ _ _ rfl
  have f34 : Fr [41, 42, 43, 44, 9004, 11005, 48, 49, 50, 51, 52] c2 c4 := (f3.wk rfl).tr (f4.wk rfl)
  have f14 : Fr [508, 541, 542, 543, 544, 999, 9000, 9001, 9002, 9003, 9004, 41, 42, 43, 44, 34, 53, 11005, 48, 49, 50, 51, 52] h c4 := (f12.wk rfl).tr (f34.wk rfl)
  have fN : Fr [41, 42, 43, 44, 9004, 11005, 48, 49, 50, 51, 52, 34, 53] c1 c4 := (f2.wk rfl).tr (f34.wk rfl)
  have run2 : ∀ m, Fr (13000 :: wCg) h m → ∃ n1 m1' m2 m4 c5 m5, fX12_seats 0 m = some ((), m1') ∧ (∃ w, fX12_go_L27 FU 0 0 m1' = some ((nZ n1, w), m2)) ∧ m4 = sI m2 12 0 5 (nZ (yr h + 1)) ∧ (∃ v, fX11_go_L64 FU (yr h + 1) 0 c4 = some (v, c5)) ∧ (∀ a1, ∃ w, fX12_go_L140 FU a1 0 m4 = some (w, m5)) ∧ (Fr wNM m4 m5 ∧ gI m2 12 0 5 = nZ (yr h)) ∧ Fr wMg m m5 ∧ gI c5 8 (yr h + 1) 4 = nZ n1 ∧ RR (nH h) ((yr h + 1 : Nat) : Int) (nB h) (un h) c5 m5 ∧ RHi (nH h) (yr h + 1) (nB h) (un h) c5 m5 ∧ (∀ i, i < nH h → gI c5 2 i 4 = nZ (satN m5 i (yr h + 1))) ∧ Fr wGo c4 c5 ∧ ∃ n, nR m5 = nR h + n ∧ gC c5 = gC h + 5 + n ∧ gS c5 = gS h + 53 + 13 * n := by
    intro m fm
    obtain ⟨c3', m1', e3', em1, SR, -, fm1, -⟩ := run1 m fm
    have ec3 : c3' = c3 := by
      rw [e3] at e3'
      cases e3'
      rfl
    subst ec3
    have fmm : Fr (13000 :: (wCg ++ wSm)) h m1' := (fm.wk rfl).tr (fm1.wk rfl)
    obtain ⟨rr, m2, em2, k1, fm2, k2'⟩ := g27_L (m0 := m1') (H := nH h) (y := yr h) hH hy (fun i hi => by
      rcases SR.1 i hi with z | ⟨b, v, z1, z2, z3, z4, z5, z6, z7, -⟩
      · exact Or.inl z.2
      · exact Or.inr z7) FU 0 m1' (by omega) (by show _ < 100000; omega) (by rw [fmm.I 12 0 8 rfl]; exact P.1) (by rw [fmm.I 12 0 5 rfl]; exact y1) (Fr.rf _ _)
    obtain ⟨m4, em4⟩ : ∃ z, z = sI m2 12 0 5 (nZ (yr h + 1)) := ⟨_, rfl⟩
    have fm4 : Fr [13005] m2 m4 := by rw [em4]; exact Fr_I _ _ _ _ _ rfl
    have fa : Fr (13000 :: 88 :: 89 :: 90 :: 91 :: 92 :: 13005 :: (wCg ++ wSm)) h m4 := ((fmm.wk rfl).tr (fm2.wk rfl)).tr (fm4.wk rfl)
    have K88 : ∀ i t, t < 200 → gI m4 88 0 (200 * i + t) = if t = yr h ∧ i < nH h then gI m1' 99 0 i else gI h 88 0 (200 * i + t) := fun i t ht => by
      rw [fm4.A 88 0 _ rfl, (k2' i t ht).1, fmm.A 88 0 _ rfl]
      by_cases z : t = yr h ∧ i < nH h
      · rw [if_pos ⟨z.1, by omega, z.2⟩, if_pos z]
      · rw [if_neg (by omega), if_neg z]
    have HI4 : RHi (nH h) (yr h + 1) (nB h) (un h) c4 m4 := by
      refine ⟨by rw [fN.N 8 rfl, fN.N 41 rfl, fN.N 42 rfl, fN.N 43 rfl, fN.N 44 rfl]; exact N1, fun s hs => ?_, fun t ht => ?_, fun t i ht hi => ?_, fun t i hi ht hz => ?_⟩
      · by_cases z : s = yr h + 1
        · rw [z]
          exact ⟨by rw [f34.R 8 _ 0 rfl]; exact S2.1, by rw [f34.R 8 _ 1 rfl]; exact S2.2.1, by rw [f34.R 8 _ 2 rfl]; exact S2.2.2.1, by rw [f34.R 8 _ 3 rfl]; exact S2.2.2.2⟩
        · have so := r2 s (by omega)
          exact ⟨by rw [fN.R 8 s 0 rfl, Rf1 s 0 (by omega)]; exact so.1, by rw [fN.R 8 s 1 rfl, Rf1 s 1 (by omega)]; exact so.2.1, by rw [fN.R 8 s 2 rfl, Rf1 s 2 (by omega)]; exact so.2.2.1, by rw [fN.R 8 s 3 rfl, Rf1 s 3 (by omega)]; exact so.2.2.2⟩
      · rw [ec4, gR_a]
        by_cases z : t = yr h
        · rw [if_pos z, z]
        · rw [if_neg z, f3.AR 52 0 t rfl, f12.AR 52 0 t rfl]
          exact r3 t (by omega)
      · by_cases z : t = yr h
        · subst z
          by_cases hiH : i < nH h
          · have sq := SR.1 i hiH
            have kk := k2' i (yr h) (by omega)
            unfold sr
            rw [f4.A 41 _ i rfl, f4.A 42 _ i rfl, f4.A 43 _ i rfl, f4.A 44 _ i rfl, K88 i (yr h) (by omega), if_pos ⟨rfl, hiH⟩, fm4.A 89 0 _ rfl, fm4.A 90 0 _ rfl, fm4.A 91 0 _ rfl, fm4.A 92 0 _ rfl, kk.2.1, kk.2.2.1, kk.2.2.2.1, kk.2.2.2.2]
            rcases sq with w | ⟨b, v, z1, z2, z3, z4, z5, z6, z7, z8, z9⟩
            · exact Or.inl w
            · have sb : stB m1' i = true := by
                have : ¬ nZ b = -1 := fun y => (nZ_m1 (by omega)).mp y
                unfold stB
                rw [z2]
                simp [this]
              have pw := P.w hiH
              have cnd : (yr h = yr h ∧ 0 ≤ i ∧ i < nH h) ∧ stB m1' i = true := ⟨⟨rfl, by omega, hiH⟩, sb⟩
              rw [if_pos cnd, if_pos cnd, if_pos cnd, if_pos cnd]
              refine Or.inr ⟨b, v, wd h i, z1, z2, z3, z4, ?_, z5, z6, z7, z8, pw.2.1, pw.2.2.1, z9⟩
              rw [fmm.A 66 0 i rfl]
              exact pw.1
          · refine Or.inl ⟨?_, ?_⟩
            · rw [f4.A 41 _ i rfl]
              exact SR.2.1 i (by omega) hi
            · rw [K88 i (yr h) (by omega), if_neg fun w => hiH w.2]
              exact r5 (yr h) i hi (by omega) (Or.inl (Nat.le_refl _))
        · have old := r4 t i (by omega) hi
          obtain ⟨o1, o2, o3, o4, -⟩ := O3 (t + 1) (by omega)
          obtain ⟨i1, i2, i3, i4⟩ := If1 (t + 1) (by omega)
          have kk := k2' i t (by omega)
          unfold sr at old ⊢
          rw [f4.A 41 _ i rfl, f4.A 42 _ i rfl, f4.A 43 _ i rfl, f4.A 44 _ i rfl, o1, o2, o3, o4, f2.A 41 _ i rfl, f2.A 42 _ i rfl, f2.A 43 _ i rfl, f2.A 44 _ i rfl, i1, i2, i3, i4, K88 i t (by omega), if_neg fun w => z w.1, fm4.A 89 0 _ rfl, fm4.A 90 0 _ rfl, fm4.A 91 0 _ rfl, fm4.A 92 0 _ rfl, kk.2.1, kk.2.2.1, kk.2.2.2.1, kk.2.2.2.2, if_neg fun w => z w.1.1, if_neg fun w => z w.1.1, if_neg fun w => z w.1.1, if_neg fun w => z w.1.1, fmm.A 89 0 _ rfl, fmm.A 90 0 _ rfl, fmm.A 91 0 _ rfl, fmm.A 92 0 _ rfl]
          exact old
      · rw [K88 i t ht, if_neg (by omega)]
        exact r5 t i hi ht (by omega)
    have T4 : RR (nH h) ((yr h + 1 : Nat) : Int) (nB h) (un h) c4 m4 := RR_mono (RR_m (fa.sm rfl) (RR_c (f14.sm rfl) T)) (Nat.le_refl _) (by omega) (Nat.le_refl _) (fun b _ => rfl)
    have sY : ∀ i, i < nH h → gI c4 2 i 4 = nZ (satN m4 i (if i < 0 then yr h + 1 else yr h)) := fun i hi => by
      rw [if_neg (by omega), f14.I 2 i 4 rfl, YS i hi]
      refine congrArg nZ (cnt_ext fun t ht => ?_)
      rw [K88 i t (by omega), if_neg (by omega)]
    have gl := fun a1 : Int32 => go_L hB hu hy hus a1 FU 0 c4 m4 (by omega) (by show _ < 100000; omega) (RP_sm (f14.sm rfl) P) (nH_sm (f14.sm rfl)) (by rw [fa.I 12 0 8 rfl]; exact P.1) HI4 T4 (by rw [f14.I 11 0 11 rfl]; exact y2) (by rw [em4, gI_q]) (by rw [f14.I 11 0 12 rfl, Tt.1.1]; exact eus) (by rw [fa.I 12 0 16 rfl]; exact eus) sY
    obtain ⟨v, c5, w, m5, g1, g2, g3, g4, g5, g6, n, g7, g8, g9⟩ := gl 0
    refine ⟨cnt (stB m1') (nH h), m1', m2, m4, c5, m5, em1, ⟨rr.2, ?_⟩, em4, ⟨v, g1⟩, fun a1 => ?_, ⟨g6, by rw [fm2.I 12 0 5 rfl, fmm.I 12 0 5 rfl]; exact y1⟩, ?_, ?_, g3, RHi_sm (g5.sm rfl) (g6.sm rfl) HI4, fun i hi => ?_, g5, n, ?_, ?_, ?_⟩
    · rw [show fX12_go_L27 FU 0 0 m1' = some (rr, m2) from em2, ← k1]
    · obtain ⟨v', c5', w', m5', h1, h2, -⟩ := gl a1
      have any : ∀ (f : Nat) (x : Int32) (q : Hp) (b1 b2 : Int32), fX12_go_L140 f b1 x q = fX12_go_L140 f b2 x q := by
        intro f
        induction f with
        | zero => intro x q b1 b2; rfl
        | succ f ihf =>
          intro x q b1 b2
          rw [fX12_go_L140, fX12_go_L140]
          simp only [lb_e]
          have e : ∀ x q, fX12_go_L140 f b1 x q = fX12_go_L140 f b2 x q := fun x q => ihf x q b1 b2
          simp only [e]
      exact ⟨w, by rw [any FU 0 m4 a1 0]; exact g2⟩
    · exact (((fm1.wk rfl).tr (fm2.wk rfl)).tr (fm4.wk rfl)).tr (g6.wk rfl)
    · rw [g5.I 8 _ 4 rfl, f4.I 8 _ 4 rfl]
      exact SR.2.2
    · rw [g4 i hi]
      unfold satN
      exact congrArg nZ (cnt_ext fun t ht => by rw [g6.A 88 0 _ rfl])
    · rw [g7, nR_sm (fa.sm rfl)]
    · rw [g8, (fN.2.2 rfl).1, gc1]
    · rw [g9, (fN.2.2 rfl).2, gs1]
  obtain ⟨-, -, -, -, c5, -, -, -, -, hc5, -, -, -, -, -, -, -, fg5, -⟩ := run2 h (Fr.rf _ _)
  refine ⟨c1, c2, c3, c5, e1, e2, f1, f2, e3, f3, by rw [← ec4]; exact hc5, by rw [← ec4]; exact fg5, fun m fm => ?_⟩
  obtain ⟨n1, m1', m2, m4, c5', m5, a1, a2, a3, ⟨v, a4⟩, a5, a5', a6, a7, a8, a9, a10, a11, a12⟩ := run2 m fm
  obtain ⟨v', hc5'⟩ := hc5
  have e5 : c5' = c5 := by
    rw [hc5'] at a4
    cases a4
    rfl
  subst e5
  exact ⟨n1, m1', m2, m4, m5, a1, a2, a3, a5, a5', a6, a7, a8, a9, a10, a12⟩
def w_go : List Nat := 13000 :: (wCg ++ wMg)
theorem s_go (h : Hp) (R : RC h) (P : RP h) (Y : Ry h) (T : RR (nH h) (yr h) (nB h) (un h) h h) (L : RPl (nH h) h h) (Tt : Rt2 h) (HI : RHi (nH h) (yr h) (nB h) (un h) h h) (YS : RYs h) : Op w_go fX11_go fX12_go h (fun h3 => Ry h3 ∧ RR (nH h) (yr h3) (nB h) (un h) h3 h3 ∧ RHi (nH h) (yr h3) (nB h) (un h) h3 h3 ∧ RYs h3 ∧ (yr h3 = yr h ∧ nR h3 = nR h ∧ gC h3 = gC h ∧ gS h3 = gS h ∨ yr h3 = yr h + 1 ∧ ∃ n, nR h3 = nR h + n ∧ gC h3 = gC h + 5 + n ∧ gS h3 = gS h + 53 + 13 * n)) := by
  obtain ⟨y1, y2, y3⟩ := Y.e
  by_cases hy : yr h ≤ 198
  · obtain ⟨c1, c2, c3, c5, e1, e2, f1, f2, e3, f3, ⟨v5, e5⟩, f5, run⟩ := go_run R P Y T L Tt HI YS hy
    obtain ⟨c4, ec4⟩ : ∃ z, z = sR c3 52 0 (yr h) (some (yr h + 1)) := ⟨_, rfl⟩
    have f4 : Fr [52] c3 c4 := by rw [ec4]; exact Fr_R _ _ _ _ _ rfl
    rw [← ec4] at e5 f5
    obtain ⟨c6, ec6⟩ : ∃ z, z = sI c5 11 0 11 (nZ (yr h + 1)) := ⟨_, rfl⟩
    have f6 : Fr [12011] c5 c6 := by rw [ec6]; exact Fr_I _ _ _ _ _ rfl
    have fc5 : Fr wCg h c5 := ((((f1.wk rfl).tr (f2.wk rfl)).tr (f3.wk rfl)).tr (f4.wk rfl)).tr (f5.wk rfl)
    have fc5' : Fr (wCg.erase 12011) h c5 := ((((f1.wk rfl).tr (f2.wk rfl)).tr (f3.wk rfl)).tr (f4.wk rfl)).tr (f5.wk rfl)
    have fc6 : Fr wCg h c6 := fc5.tr (f6.wk rfl)
    have fz : Fr [13000] c6 (sI c6 12 0 0 0) := Fr_I _ _ _ _ _ rfl
    have fm : Fr (13000 :: wCg) h (sI c6 12 0 0 0) := (fc6.wk rfl).tr (fz.wk rfl)
    obtain ⟨n1, m1', m2, m4, m5, a1, ⟨w2, a2⟩, a3, a4, ⟨fm45, e25⟩, a5, a6, a7, a8, a9, n, b1, b2, b3⟩ := run _ fm
    have f56 : Fr (13000 :: 12011 :: wMg) c5 m5 := ((f6.wk rfl).tr (fz.wk rfl)).tr (a5.wk rfl)
    have y5 : gI m5 12 0 5 = nZ (yr h + 1) := by rw [fm45.I 12 0 5 rfl, a3, gI_q]
    have y11 : gI m5 11 0 11 = nZ (yr h + 1) := by rw [a5.I 11 0 11 rfl, fz.I 11 0 11 rfl, ec6, gI_q]
    have ey : yr m5 = yr h + 1 := by
      have : yr m5 = ix (gI m5 12 0 5) := rfl
      rw [this, y5, nZ_ix (by omega)]
    have fall : Fr w_go h m5 := (fm.wk rfl).tr (a5.wk rfl)
    have eH : nH m5 = nH h := by unfold nH; rw [fall.I 12 0 8 rfl]
    obtain ⟨w4, a4'⟩ := a4 (nZ n1)
    refine ⟨nZ n1, c6, m5, ?_, ?_, fc6.wk rfl, fall, ?_, ?_, ?_, ?_, Or.inr ⟨ey, n, b1, ?_, ?_⟩⟩
    · unfold fX11_go
      have g8 : gN h 8 = yr h + 1 := HI.1.1
      have f13 : Fr [508, 541, 542, 543, 544, 999, 9000, 9001, 9002, 9003, 9004, 41, 42, 43, 44, 34, 53, 11005, 48, 49, 50, 51] h c3 := ((f1.wk rfl).tr (f2.wk rfl)).tr (f3.wk rfl)
      rw [y2, br_p (by show nZ (yr h) < nZ 199; rw [nZ_lt (by omega) (by omega)]; omega)]
      simp only [lb_e]
      rw [g8, bd_s e1, f1.I 11 0 11 rfl, y2, bd_s e2, f2.I 11 0 13 rfl, f1.I 11 0 13 rfl, bd_s e3, f13.I 11 0 11 rfl, y2, gd_p (by rw [nZ_ib (by omega)]; omega), nZ_ix (by omega), ← ec4, bd_s e5, fc5'.I 11 0 11 rfl, y2, nZ_suc, ← ec6, f6.I 8 _ 4 rfl, a6]
    · unfold fX12_go
      have ez : gI (sI c6 12 0 0 0) 12 0 5 = nZ (yr h) := by rw [fm.I 12 0 5 rfl]; exact y1
      rw [lb_e, ez, br_n (by show ¬ nZ (yr h) = nZ 199; rw [nZ_eq (by omega) (by omega)]; omega), bd_s a1, bd_s a2]
      simp only [lb_e]
      rw [e25, nZ_suc, ← a3, bd_s a4']
    · unfold Ry
      rw [y5, y11, nZ_t (by omega)]
      exact ⟨rfl, by omega, by omega⟩
    · rw [ey]
      exact RR_c (f56.sm rfl) a7
    · rw [ey]
      exact RHi_sm (f56.sm rfl) (Fr.sm (Fr.rf [] _) rfl) a8
    · intro i hi
      rw [eH] at hi
      rw [ey, f56.I 2 i 4 rfl]
      exact a9 i hi
    · rw [(f56.2.2 rfl).1]
      exact b2
    · rw [(f56.2.2 rfl).2]
      exact b3
  · have e199 : yr h = 199 := by omega
    have fz : Fr [13000] h (sI h 12 0 0 0) := Fr_I _ _ _ _ _ rfl
    have eyz : yr (sI h 12 0 0 0) = yr h := rfl
    refine Op_no rfl (r := -9) ?_ ?_ ⟨Y, RR_m (fz.sm rfl) (RR_c (fz.sm rfl) T), RHi_sm (fz.sm rfl) (fz.sm rfl) HI, YS, Or.inl ⟨rfl, rfl, rfl, rfl⟩⟩
    · unfold fX11_go
      rw [y2, e199]
      rfl
    · unfold fX12_go
      rw [lb_e, gI_p (by decide), y1, e199]
      rfl
