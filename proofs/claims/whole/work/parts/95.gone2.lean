/-! ===== level 2: gone, the whole ===== -/
theorem cnt_0 {p : Nat → Bool} : ∀ {n : Nat}, (∀ i, i < n → p i = false) → cnt p n = 0 := by
  intro n
  induction n with
  | zero => intro _; rfl
  | succ n ih =>
    intro h
    rw [cnt_f (by rw [h n (by omega)]; decide)]
    exact ih fun i hi => h i (by omega)
theorem there_tm {m : Hp} {H : Nat} {a : Int32} (e : gI m 12 0 8 = nZ H) (h3 : H ≤ 12) (q : (0 ≤ a.toInt ∧ a.toInt < H) ∧ gI m 68 0 (ix a) = 0) : fX12_isThere a m = some (1, m) := by
  have h2 := i32_b a
  unfold fX12_isThere fX12_isHouse
  rw [br_n (by rw [in_0, to64, to64, e, pre_t (by omega), z0J]; omega), gd_p ⟨q.1.1, by have := q.1.2; show _ < ((12 : Nat) : Int); omega⟩, br_p q.2]
def w_gone : List Nat := [13000, 505, 999, 32, 4001, 6000, 6001, 6002, 6003, 6004, 6005, 6006, 6007, 6008, 6009, 6010, 6011, 6012, 33, 17, 3003, 13009, 70, 71, 72, 73, 74, 75, 76, 77, 78, 79, 80, 81, 82, 69, 68]
theorem s_gone (a1 a2 : Int32) (h : Hp) (P : RP h) (Y : Ry h) {B : Nat} {u : Nat → Nat} (T : RR (nH h) (yr h) B u h h) (L : RPl (nH h) h h) (A : RA (nH h) B u h h) : Op w_gone (fX11_gone a1 a2) (fX12_gone a1 a2) h (fun h3 => RP h3 ∧ RR (nH h) (yr h) B u h3 h3 ∧ RPl (nH h) h3 h3 ∧ RA (nH h) B u h3 h3 ∧ ∃ n, nR h3 = nR h + n ∧ gC h3 = gC h + n ∧ gS h3 = gS h + 13 * n) := by
  obtain ⟨y1, y2, y3⟩ := Y.e
  obtain ⟨r1, r2, r3, r4, r5, r6⟩ := id P
  have P0 := RP_sm (thrown_sm rfl h) P
  have T0 : RR (nH h) (yr h) B u (sI h 12 0 0 0) (sI h 12 0 0 0) := RR_m (thrown_sm rfl h) (RR_c (thrown_sm rfl h) T)
  have L0 : RPl (nH h) (sI h 12 0 0 0) (sI h 12 0 0 0) := RPl_sm (thrown_sm rfl h) (thrown_sm rfl h) L
  have A0 : RA (nH h) B u (sI h 12 0 0 0) (sI h 12 0 0 0) := RA_m (thrown_sm rfl h) (RA_c (thrown_sm rfl h) A)
  have all0 : RP (sI h 12 0 0 0) ∧ RR (nH h) (yr h) B u (sI h 12 0 0 0) (sI h 12 0 0 0) ∧ RPl (nH h) (sI h 12 0 0 0) (sI h 12 0 0 0) ∧ RA (nH h) B u (sI h 12 0 0 0) (sI h 12 0 0 0) ∧ ∃ n, nR (sI h 12 0 0 0) = nR h + n ∧ gC (sI h 12 0 0 0) = gC h + n ∧ gS (sI h 12 0 0 0) = gS h + 13 * n := ⟨P0, T0, L0, A0, 0, rfl, rfl, rfl⟩
  by_cases q1 : isT h a1
  · obtain ⟨i, rfl, hi⟩ := hs_ex P q1.1
    have r5i := r5 i hi
    have xi : ix (nZ i) = i := nZ_ix (by omega)
    have g68 : gI h 68 0 i = 0 := by have := q1.2; rw [xi] at this; exact this
    have hib : ib (nZ i) 12 := by rw [nZ_ib (by omega)]; omega
    by_cases q2 : a2 = -1 ∨ (isT h a2 ∧ a2 ≠ nZ i)
    · have ha : a2 = -1 ∨ (0 ≤ a2.toInt ∧ a2.toInt < nH h) := by
        rcases q2 with z | z
        · exact Or.inl z
        · exact Or.inr z.1.1
      have ha' : -1 ≤ a2.toInt ∧ a2.toInt < nH h := by
        rcases ha with z | z
        · rw [z, n1]; omega
        · omega
      have hne : ¬ a2 = nZ i := by
        rcases q2 with z | z
        · rw [z]
          exact fun w => (m1_nZ (by omega)).mp w
        · exact z.2
      obtain ⟨N, eN⟩ : ∃ N, N = cnt (passB h i (yr h) a2) (nR h) := ⟨_, rfl⟩
      have nr3 := T.2.2.1
      have Nle : N ≤ 100 := by
        have := cnt_le (passB h i (yr h) a2) (nR h)
        omega
      -- how many pass, on both sides
      have pass11 : a2 ≠ -1 → fX3_heritableOf (nZ i) (nZ (yr h)) h = some (nZ N, h) := fun hz => by
        obtain ⟨w, e⟩ := herit_L T (i := i) y3 hz FU 0 (by omega) (by show _ < 100000; omega)
        unfold fX3_heritableOf
        rw [bd_s (show fX3_heritableOf_L5 FU (nZ i) (nZ (yr h)) 0 0 h = _ from e), ← eN]
        rfl
      have N0 : a2 = -1 → N = 0 := fun hz => by
        rw [eN]
        exact cnt_0 fun r _ => by
          unfold passB
          rw [decide_eq_false_iff_not]
          exact fun w => w.2.2 hz
      have cls : ∀ (k : Nat → Int32 → Hp → Option (Int32 × Hp)), (bd (fX4_find (nZ i) h) (fun r1 h2 => mt r1 (some ((-2), h2)) (fun z3 => br ((gI h2 2 z3 3) = 0) (br (a2 = nZ i) (some ((-2), h2)) (lb (fun (h5 : Hp) => br (a2 = (-1)) (k z3 0 h5) (bd (fX3_heritableOf (nZ i) (gI h5 11 0 11) h5) (fun r16 h17 => k z3 r16 h17))) (fun j4 => br (a2 = (-1)) (j4 h2) (bd (fX4_isStaying a2 h2) (fun r18 h19 => br (r18 = 0) (some ((-2), h19)) (j4 h19)))))) (some ((-2), h2))))) = k i (nZ N) h := by
        intro k
        rw [bd_s (find4_t P hi), mt_s rfl, br_p (by rw [r5i.2.2.2.2.1]; exact g68), br_n hne]
        simp only [lb_e]
        by_cases z : a2 = -1
        · rw [br_p z, br_p z, N0 z]
          rfl
        · have zt : isT h a2 := by
            rcases q2 with w | w
            · exact absurd w z
            · exact w.1
          rw [br_n z, bd_s (stay_t P zt), br_n (by decide), br_n z, y2, bd_s (pass11 z)]
      have mod : ∀ (g : Hp) (k : Int32 → Hp → Option (Int32 × Hp)), gI g 12 0 8 = nZ (nH h) → (∀ j, gI g 68 0 j = gI h 68 0 j) → (bd (fX12_isThere (nZ i) (sI g 12 0 0 0)) (fun r2 h3 => br (r2 = 0) (some ((-2), h3)) (lb (fun (h5 : Hp) => k 0 h5) (fun j4 => br (a2 = (-1)) (j4 h3) (bd (fX12_isThere a2 h3) (fun r60 h61 => br (r60 = 0) (some ((-2), h61)) (br (a2 = nZ i) (some ((-2), h61)) (j4 h61)))))))) = k 0 (sI g 12 0 0 0) := by
        intro g k eH e68
        rw [bd_s (there_tm (by rw [gI_p (by decide)]; exact eH) r3 ⟨q1.1, by rw [gI_o (by decide), e68]; exact q1.2⟩), br_n (by decide), lb_e]
        by_cases z : a2 = -1
        · rw [br_p z]
        · have zt : isT h a2 := by
            rcases q2 with w | w
            · exact absurd w z
            · exact w.1
          rw [br_n z, bd_s (there_tm (by rw [gI_p (by decide)]; exact eH) r3 ⟨zt.1, by rw [gI_o (by decide), e68]; exact zt.2⟩), br_n (by decide), br_n hne]
      by_cases q3 : nR h + N ≤ 100
      · have hI : ∀ r, 0 ≤ r → r < nR h → passB h i (yr h) a2 r = passB h i (yr h) a2 r := fun _ _ _ => rfl
        obtain ⟨v, c1, v', mx, e1, -, -, f1, -, -, g1, g1'⟩ := gone_L (a4 := nZ N) (I := passB h i (yr h) a2) y3 (by omega) (by rw [← eN]; exact q3) ha FU 0 h h (by omega) (by show _ < 100000; omega) T (by rw [cnt]; omega) y1 hI
        have L1 : RPl (nH h) c1 h := RPl_sm (f1.sm rfl) (Fr.sm (Fr.rf [] _) rfl) L
        obtain ⟨w, c2, w', mx2, e2, -, -, f2, -⟩ := plots_L (i := i) (a4 := nZ N) y3 ha' FU 0 c1 h (by omega) (by show _ < 100000; omega) L1 y1
        have A2 : RA (nH h) B u c2 h := RA_c (f2.sm rfl) (RA_c (f1.sm rfl) A)
        obtain ⟨x, c3, e3, f3, k3⟩ := drop_L (i := i) (l := nL h) (by omega) A.2.2.1 FU 0 c2 A2.2.1 (by omega) (by have := A.2.2.1; show _ < 100000; omega)
        obtain ⟨c4, e4⟩ : ∃ z, z = sI c3 2 i 3 1 := ⟨_, rfl⟩
        have f4 : Fr [3003] c3 c4 := by rw [e4]; exact Fr_I _ _ _ _ _ rfl
        have fc : Fr [505, 999, 32, 4001, 6000, 6001, 6002, 6003, 6004, 6005, 6006, 6007, 6008, 6009, 6010, 6011, 6012, 33, 17, 3003] h c4 := (((f1.wk rfl).tr (f2.wk rfl)).tr (f3.wk rfl)).tr (f4.wk rfl)
        have f0 : Fr [13000] c4 (sI c4 12 0 0 0) := Fr_I _ _ _ _ _ rfl
        have fm0 : Fr [13000, 505, 999, 32, 4001, 6000, 6001, 6002, 6003, 6004, 6005, 6006, 6007, 6008, 6009, 6010, 6011, 6012, 33, 17, 3003] h (sI c4 12 0 0 0) := (fc.wk rfl).tr (f0.wk rfl)
        obtain ⟨m0, em0⟩ : ∃ z, z = sI c4 12 0 0 0 := ⟨_, rfl⟩
        rw [← em0] at fm0 f0
        have Tm0 : RR (nH h) (yr h) B u h m0 := RR_m (fm0.sm rfl) T
        have eR0 : nR m0 = nR h := nR_sm (fm0.sm rfl)
        have ey0 : gI m0 12 0 5 = nZ (yr h) := by rw [fm0.I 12 0 5 rfl]; exact y1
        have pB : ∀ r, passB m0 i (yr h) a2 r = passB h i (yr h) a2 r := fun r => by
          unfold passB heldP
          rw [fm0.A 70 0 r rfl, fm0.A 71 0 r rfl, fm0.A 77 0 r rfl, fm0.A 81 0 r rfl]
        obtain ⟨w45, e45⟩ := g45_L (m := m0) (i := i) (a2 := a2) y3 (by omega) ey0 FU 0 (by omega) (by show _ < 100000; omega)
        rw [eR0, show passB m0 i (yr h) a2 = passB h i (yr h) a2 from funext pB, ← eN] at e45
        obtain ⟨v2, c1', v3, m1', e1', e5, T1, f1', fm1, eR1, -⟩ := gone_L (a4 := nZ N) (I := passB h i (yr h) a2) y3 (by omega) (by rw [← eN]; exact q3) ha FU 0 h m0 (by omega) (by show _ < 100000; omega) Tm0 (by rw [cnt]; omega) ey0 (fun r _ _ => pB r)
        have ec1 : c1' = c1 := by
          rw [e1] at e1'
          cases e1'
          rfl
        subst ec1
        have L1' : RPl (nH h) c1' m1' := RPl_sm (f1.sm rfl) ((fm0.wk (W' := w_gone.erase 69) rfl).tr (fm1.wk rfl) |>.sm rfl) L
        obtain ⟨w2, c2', w3, m2, e2', e6, L2, -, fm2⟩ := plots_L (i := i) (a4 := nZ N) y3 ha' FU 0 c1' m1' (by omega) (by show _ < 100000; omega) L1' (by rw [fm1.I 12 0 5 rfl]; exact ey0)
        have ec2 : c2' = c2 := by
          rw [e2] at e2'
          cases e2'
          rfl
        subst ec2
        obtain ⟨m3, em3⟩ : ∃ z, z = sI m2 68 0 i 1 := ⟨_, rfl⟩
        have fm3 : Fr [68] m2 m3 := by rw [em3]; exact Fr_I _ _ _ _ _ rfl
        have fmm : Fr [13009, 70, 71, 72, 73, 74, 75, 76, 77, 78, 79, 80, 81, 82, 69, 68] m0 m3 := ((fm1.wk rfl).tr (fm2.wk rfl)).tr (fm3.wk rfl)
        have fall : Fr w_gone h m3 := (fm0.wk rfl).tr (fmm.wk rfl)
        refine ⟨nZ N, c4, m3, ?_, ?_, fc.wk rfl, fall, ?_, ?_, ?_, ?_, N, ?_, ?_, ?_⟩
        · have pR : fX3_passRights (nZ i) a2 (nZ (yr h)) h = some ((), c1') := by
            unfold fX3_passRights
            rw [lb_e, T.2.1, bd_s (show fX3_passRights_L9 FU (nZ i) a2 (nZ (yr h)) (nZ (nR h)) 0 h = _ from e1)]
          have pP : fX3_passPlots (nZ i) a2 (nZ (yr h)) c1' = some ((), c2') := by
            unfold fX3_passPlots
            rw [bd_s (show fX3_passPlots_L3 FU (nZ i) a2 (nZ (yr h)) 0 c1' = _ from e2)]
          have dO : fX0_dropOffersOf (nZ i) c2' = some ((), c3) := by
            unfold fX0_dropOffersOf
            rw [bd_s (show fX0_dropOffersOf_L2 FU (nZ i) 0 c2' = _ from e3)]
          unfold fX11_gone
          refine (cls (fun (z3 : Nat) (x7 : Int32) (h8 : Hp) => br (x7 ≤ (fX3_numbersLeft h8)) (bd (fX3_passRights (nZ i) a2 (gI h8 11 0 11) h8) (fun r9 h10 => bd (fX3_passPlots (nZ i) a2 (gI h10 11 0 11) h10) (fun r11 h12 => bd (fX0_dropOffersOf (nZ i) h12) (fun r13 h14 => lb (sI h14 2 z3 3 1) (fun h15 => some (x7, h15)))))) (some ((-3), h8)))).trans ?_
          show br (nZ N ≤ fX3_numbersLeft h) _ _ = _
          rw [left3 nr3 T.2.1, br_p (by rw [nZ_le (by omega) (by omega)]; omega), y2, bd_s pR, f1.I 11 0 11 rfl, y2, bd_s pP, bd_s dO, lb_e, ← e4]
        · skip
          unfold fX12_gone
          rw [lb_e]
          refine (mod c4 (fun _ h5 => lb (gI h5 12 0 9) (fun v6 => bd (fX12_gone_L45 FU (nZ i) a2 v6 0 0 h5) (fun t19 h18 => lb t19.1 (fun v20 => lb t19.2 (fun v21 => br (((gI h18 12 0 9) + v20) ≤ 100) (bd (fX12_gone_L136 FU (nZ i) a2 v6 v20 0 h18) (fun v49 h47 => bd (fX12_gone_L286 FU (nZ i) a2 v20 0 h47) (fun v57 h55 => gd (ib (nZ i) 12) (lb (sI h55 68 0 (ix (nZ i)) 1) (fun h59 => some (v20, h59)))))) (some ((-3), h18))))))) (by rw [fc.I 12 0 8 rfl]; exact r1) (fun j => fc.A 68 0 j rfl)).trans ?_
          rw [← em0]
          have e9 : gI m0 12 0 9 = nZ (nR h) := by rw [fm0.I 12 0 9 rfl]; exact T.1
          have le : (nZ (nR h) + nZ N ≤ 100) := by
            rw [nZ_add]
            show nZ (nR h + N) ≤ nZ 100
            rw [nZ_le (by omega) (by omega)]
            exact q3
          show lb (gI m0 12 0 9) _ = _
          rw [lb_e, e9, bd_s (show fX12_gone_L45 FU (nZ i) a2 (nZ (nR h)) 0 0 m0 = _ from e45)]
          simp only [lb_e]
          rw [e9, br_p le, bd_s (show fX12_gone_L136 FU (nZ i) a2 (nZ (nR h)) (nZ N) 0 m0 = _ from e5), bd_s (show fX12_gone_L286 FU (nZ i) a2 (nZ N) 0 m1' = _ from e6), gd_p hib, xi, ← em3]
        · unfold RP
          have eH : nH m3 = nH h := by unfold nH; rw [fall.I 12 0 8 rfl]
          rw [eH, fall.I 12 0 8 rfl, fall.I 4 0 1 rfl, fall.N 2 rfl]
          refine ⟨r1, r2, r3, r4, fun j hj => ?_, fun j hj => ?_⟩
          · have e68 : gI m3 68 0 j = if j = i then 1 else gI h 68 0 j := by rw [em3, gI_a, fm2.A 68 0 j rfl, fm1.A 68 0 j rfl, fm0.A 68 0 j rfl]
            have e23 : gI m3 2 j 3 = if j = i then 1 else gI h 2 j 3 := by
              rw [fmm.I 2 j 3 rfl, f0.I 2 j 3 rfl, e4]
              by_cases z : j = i
              · rw [z, gI_q, if_pos rfl]
              · rw [gI_r z, if_neg z, f3.I 2 j 3 rfl, f2.I 2 j 3 rfl, f1.I 2 j 3 rfl]
            rw [e68, e23, fall.AR 35 0 j rfl, fall.I 2 j 0 rfl, fall.I 2 j 1 rfl, fall.I 2 j 2 rfl, fall.A 65 0 j rfl, fall.A 66 0 j rfl, fall.A 67 0 j rfl]
            obtain ⟨b1, b2, b3, b4, b5, b6, b7, b8, b9⟩ := r5 j hj
            by_cases z : j = i
            · rw [if_pos z, if_pos z]
              exact ⟨b1, b2, b3, b4, rfl, b6, b7, b8, Or.inr rfl⟩
            · rw [if_neg z, if_neg z]
              exact ⟨b1, b2, b3, b4, b5, b6, b7, b8, b9⟩
          · rw [em3, gI_a, if_neg (by omega), fm2.A 68 0 j rfl, fm1.A 68 0 j rfl, fm0.A 68 0 j rfl]
            exact r6 j hj
        · have s1 : Sm fRRc c1' m3 := by
            have : Fr [13000, 33, 17, 3003, 13009, 70, 71, 72, 73, 74, 75, 76, 77, 78, 79, 80, 81, 82, 69, 68] c1' m3 := ((((f2.wk rfl).tr (f3.wk rfl)).tr (f4.wk rfl)).tr (f0.wk rfl)).tr (fmm.wk rfl)
            exact this.sm rfl
          exact RR_c s1 (RR_m (((fm2.wk (W' := [69, 68]) rfl).tr (fm3.wk rfl)).sm rfl) T1)
        · have s1 : Sm [33] c2' m3 := by
            have : Fr [13000, 17, 3003, 13009, 70, 71, 72, 73, 74, 75, 76, 77, 78, 79, 80, 81, 82, 69, 68] c2' m3 := (((f3.wk rfl).tr (f4.wk rfl)).tr (f0.wk rfl)).tr (fmm.wk rfl)
            exact this.sm rfl
          exact RPl_sm s1 (fm3.sm rfl) L2
        · obtain ⟨a1', a2', a3', a4', a5'⟩ := id A
          have eL : nL m3 = nL h := by unfold nL; rw [fall.I 12 0 10 rfl]
          show RA (nH h) B u m3 m3
          unfold RA
          rw [eL]
          refine ⟨by rw [fall.I 12 0 10 rfl]; exact a1', by rw [fall.I 0 0 0 rfl]; exact a2', a3', fun l hl => ?_, fun l j hl hj => ?_⟩
          · rw [fall.A 13 0 _ rfl, fall.A 14 0 _ rfl, fall.A 15 0 _ rfl, fall.A 16 0 _ rfl, fall.A 83 0 _ rfl, fall.A 84 0 _ rfl, fall.A 85 0 _ rfl, fall.A 86 0 _ rfl]
            exact a4' l hl
          · have e68 : gI m3 68 0 j = if j = i then 1 else gI h 68 0 j := by rw [em3, gI_a, fm2.A 68 0 j rfl, fm1.A 68 0 j rfl, fm0.A 68 0 j rfl]
            rw [fmm.A 17 0 _ rfl, f0.A 17 0 _ rfl, f4.A 17 0 _ rfl, k3 l j hj, e68, fall.A 87 0 _ rfl, f2.A 17 0 _ rfl, f1.A 17 0 _ rfl]
            obtain ⟨b1, b2, b3⟩ := a5' l j hl hj
            by_cases z : j = i
            · rw [if_pos ⟨z, by omega, hl⟩, if_pos z, if_neg (by decide)]
              exact ⟨rfl, b2, b3⟩
            · rw [if_neg fun w => z w.1, if_neg z]
              exact ⟨b1, b2, b3⟩
        · have := nR_sm (((fm2.wk (W' := [69, 68]) rfl).tr (fm3.wk rfl)).sm rfl)
          rw [this, eR1, ← eN]
        · have z : cnt (passB h i (yr h) a2) 0 = 0 := rfl
          rw [(fmm.2.2 rfl).1, (f0.2.2 rfl).1, (f4.2.2 rfl).1, (f3.2.2 rfl).1, (f2.2.2 rfl).1]
          omega
        · have z : cnt (passB h i (yr h) a2) 0 = 0 := rfl
          rw [(fmm.2.2 rfl).2, (f0.2.2 rfl).2, (f4.2.2 rfl).2, (f3.2.2 rfl).2, (f2.2.2 rfl).2]
          omega
      · refine Op_no rfl (r := -3) ?_ ?_ all0
        · unfold fX11_gone
          refine (cls (fun (z3 : Nat) (x7 : Int32) (h8 : Hp) => br (x7 ≤ (fX3_numbersLeft h8)) (bd (fX3_passRights (nZ i) a2 (gI h8 11 0 11) h8) (fun r9 h10 => bd (fX3_passPlots (nZ i) a2 (gI h10 11 0 11) h10) (fun r11 h12 => bd (fX0_dropOffersOf (nZ i) h12) (fun r13 h14 => lb (sI h14 2 z3 3 1) (fun h15 => some (x7, h15)))))) (some ((-3), h8)))).trans ?_
          show br (nZ N ≤ fX3_numbersLeft h) _ _ = _
          rw [left3 nr3 T.2.1, br_n (by rw [nZ_le (by omega) (by omega)]; omega)]
        · unfold fX12_gone
          rw [lb_e]
          refine (mod h (fun _ h5 => lb (gI h5 12 0 9) (fun v6 => bd (fX12_gone_L45 FU (nZ i) a2 v6 0 0 h5) (fun t19 h18 => lb t19.1 (fun v20 => lb t19.2 (fun v21 => br (((gI h18 12 0 9) + v20) ≤ 100) (bd (fX12_gone_L136 FU (nZ i) a2 v6 v20 0 h18) (fun v49 h47 => bd (fX12_gone_L286 FU (nZ i) a2 v20 0 h47) (fun v57 h55 => gd (ib (nZ i) 12) (lb (sI h55 68 0 (ix (nZ i)) 1) (fun h59 => some (v20, h59)))))) (some ((-3), h18))))))) r1 (fun j => rfl)).trans ?_
          obtain ⟨w45, e45⟩ := g45_L (m := sI h 12 0 0 0) (i := i) (a2 := a2) y3 (by exact nr3) y1 FU 0 (by omega) (by show nR h - 0 < 100000; omega)
          rw [show nR (sI h 12 0 0 0) = nR h from rfl, show passB (sI h 12 0 0 0) i (yr h) a2 = passB h i (yr h) a2 from rfl, ← eN] at e45
          have e9 : gI (sI h 12 0 0 0) 12 0 9 = nZ (nR h) := T.1
          have le : ¬ (nZ (nR h) + nZ N ≤ 100) := by
            rw [nZ_add]
            show ¬ nZ (nR h + N) ≤ nZ 100
            rw [nZ_le (by omega) (by omega)]
            exact q3
          show lb (gI (sI h 12 0 0 0) 12 0 9) _ = _
          rw [lb_e, e9, bd_s (show fX12_gone_L45 FU (nZ i) a2 (nZ (nR h)) 0 0 (sI h 12 0 0 0) = _ from e45)]
          simp only [lb_e]
          rw [e9, br_n le]
    · have z1 : ¬ a2 = -1 := fun z => q2 (Or.inl z)
      have t1 : isT (sI h 12 0 0 0) (nZ i) := q1
      refine Op_no rfl (r := -2) ?_ ?_ all0
      · unfold fX11_gone
        rw [bd_s (find4_t P hi), mt_s rfl, br_p (by rw [r5i.2.2.2.2.1]; exact g68)]
        by_cases z : a2 = nZ i
        · rw [br_p z]
        · rw [br_n z]
          simp only [lb_e]
          rw [br_n z1, bd_s (stay_f P fun w => q2 (Or.inr ⟨w, z⟩))]
          rfl
      · unfold fX12_gone
        rw [lb_e, bd_s (there_t P0 t1), br_n (by decide)]
        simp only [lb_e]
        rw [br_n z1]
        by_cases z : isT h a2
        · have t2 : isT (sI h 12 0 0 0) a2 := z
          rw [bd_s (there_t P0 t2), br_n (by decide), br_p]
          exact Classical.byContradiction fun w => q2 (Or.inr ⟨z, w⟩)
        · have t2 : ¬ isT (sI h 12 0 0 0) a2 := z
          rw [bd_s (there_f P0 t2)]
          rfl
  · have t1 : ¬ isT (sI h 12 0 0 0) a1 := q1
    refine Op_no rfl (r := -2) ?_ ?_ all0
    · unfold fX11_gone
      by_cases z : 0 ≤ a1.toInt ∧ a1.toInt < nH h
      · obtain ⟨i, rfl, hi⟩ := hs_ex P z
        rw [bd_s (find4_t P hi), mt_s rfl, br_n]
        intro w
        refine q1 ⟨z, ?_⟩
        rw [nZ_ix (by omega), ← (r5 i hi).2.2.2.2.1]
        exact w
      · rw [bd_s (find4_f P z), mt_n rfl]
    · unfold fX12_gone
      rw [lb_e, bd_s (there_f P0 t1)]
      rfl
