/-! ===== level 2: custom, in step on both sides ===== -/
def okT (m : Hp) (i y t : Nat) : Prop := gI m 88 0 (200 * i + t) ≠ -1 ∧ gI m 92 0 (200 * i + t) = 0 ∧ gI m 88 0 (200 * i + t) = gI m 88 0 (200 * i + y) ∧ gI m 89 0 (200 * i + t) = gI m 89 0 (200 * i + y) ∧ gI m 90 0 (200 * i + t) = gI m 90 0 (200 * i + y)
def cuP (m : Hp) (i y us : Nat) : Prop := us ≤ y + 1 ∧ ∀ t, y + 1 - us ≤ t → t ≤ y → okT m i y t
theorem cu49_L {H y B : Nat} {u : Nat → Nat} {c m : Hp} (hB : B ≤ 8) (hu : ∀ b, b < B → u b ≤ 32) (HI : RHi H (y + 1) B u c m) (ey : gI c 11 0 11 = nZ y) (hy : y ≤ 198) {i : Nat} (hi : i < 12) (hs : gI m 88 0 (200 * i + y) ≠ -1) : ∀ f t, t ≤ y + 1 → y + 1 - t < f → ∃ x, bd (fX11_hasComeToCustom_L49 f (nZ i) (y + 1) (nZ t) c) (fun u21 h18 => ms u21 (fun r22 => some (r22, h18)) (fun v20 => some ((1 : Int32), h18))) = some (x, c) ∧ (x = 0 ↔ ¬ ∀ t', t ≤ t' → t' ≤ y → okT m i y t') := by
  obtain ⟨r1, r2, r3, r4, r5⟩ := HI
  intro f
  induction f with
  | zero => intro t _ q; omega
  | succ f ih =>
    intro t ht hf
    rw [fX11_hasComeToCustom_L49, ey]
    simp (disch := omega) only [lb_e, nZ_lt, nZ_suc, nZ_ib, nZ_ix]
    by_cases q : t = y + 1
    · rw [br_p (by omega)]
      exact ⟨1, rfl, iff_of_false (by decide) (not_not_intro fun t' h1 h2 => by omega)⟩
    · have Ss := r2 (t + 1) (by omega)
      have Sy := r2 (y + 1) (by omega)
      have st := r4 t i (by omega) hi
      have sy := r4 y i (by omega) hi
      rw [br_n (by omega), gd_p (by omega), mt_s (r3 t (by omega)), bd_s (sit_t Ss hi)]
      have no : ¬ okT m i y t → ∃ x, bd (some (Sum.inl (0 : Int32), c) : Option ((Int32 ⊕ Int32) × Hp)) (fun u21 h18 => ms u21 (fun r22 => some (r22, h18)) (fun v20 => some ((1 : Int32), h18))) = some (x, c) ∧ (x = 0 ↔ ¬ ∀ t', t ≤ t' → t' ≤ y → okT m i y t') := fun h => ⟨0, rfl, iff_of_true rfl fun z => h (z t (Nat.le_refl _) (by omega))⟩
      by_cases z1 : gI c 41 (t + 1) i = -1
      · rw [if_pos z1, br_p rfl]
        exact no fun w => w.1 ((sr_sit hB hu st).mp z1)
      · rw [if_neg z1, br_n (by decide), mt_s Ss.2.2.2]
        have n1' : ¬ gI m 88 0 (200 * i + t) = -1 := fun w => z1 ((sr_sit hB hu st).mpr w)
        have e44 : gI c 44 (t + 1) i = gI m 92 0 (200 * i + t) := by
          rcases st with w | ⟨b, v, w, z1, z2, z3, z4, z5, z6, z7, z8⟩
          · exact absurd w.2 n1'
          · exact z7
        simp only [gd_p hi]
        rw [e44]
        by_cases z2 : gI m 92 0 (200 * i + t) = 0
        · rw [br_p z2, bd_s (same_t Ss Sy hi)]
          have sm := sr_same hB hu st sy n1' hs
          by_cases z3 : gI c 41 (t + 1) i = gI c 41 (y + 1) i ∧ gI c 42 (t + 1) i = gI c 42 (y + 1) i
          · rw [if_pos z3, br_n (by decide)]
            obtain ⟨x, ex, kx⟩ := ih (t + 1) (by omega) (by omega)
            refine ⟨x, ex, kx.trans ?_⟩
            have ok : okT m i y t := ⟨n1', z2, sm.mp z3⟩
            refine not_congr ⟨fun w t' h1 h2 => ?_, fun w t' h1 h2 => w t' (by omega) h2⟩
            by_cases e : t' = t
            · rw [e]
              exact ok
            · exact w t' (by omega) h2
          · rw [if_neg z3, br_p rfl]
            exact no fun w => z3 (sm.mpr w.2.2)
        · rw [br_n z2]
          exact no fun w => z2 w.2.1
theorem come_t {H y B us : Nat} {u : Nat → Nat} {c m : Hp} (hB : B ≤ 8) (hu : ∀ b, b < B → u b ≤ 32) (HI : RHi H (y + 1) B u c m) (ey : gI c 11 0 11 = nZ y) (hy : y ≤ 198) (eu : gI c 11 0 12 = nZ us) (hus : 2 ≤ us ∧ us ≤ 30) {i : Nat} (hi : i < 12) : ∃ x, fX11_hasComeToCustom (nZ i) c = some (x, c) ∧ (x = 0 ↔ ¬ cuP m i y us) := by
  obtain ⟨r1, r2, r3, r4, r5⟩ := id HI
  have Sy := r2 (y + 1) (by omega)
  have sy := r4 y i (by omega) hi
  unfold fX11_hasComeToCustom
  rw [ey, gd_p (by rw [nZ_ib (by omega)]; omega), lb_e, nZ_ix (by omega), mt_s (r3 y (by omega)), bd_s (sit_t Sy hi)]
  by_cases z1 : gI c 41 (y + 1) i = -1
  · rw [if_pos z1, br_p rfl]
    refine ⟨0, rfl, iff_of_true rfl fun w => ?_⟩
    exact (w.2 y (by omega) (Nat.le_refl _)).1 ((sr_sit hB hu sy).mp z1)
  · have hs : gI m 88 0 (200 * i + y) ≠ -1 := fun w => z1 ((sr_sit hB hu sy).mpr w)
    rw [if_neg z1, br_n (by decide), ey, eu, nZ_suc]
    simp only [nZ_le (by omega : us < 2147483648) (by omega : y + 1 < 2147483648)]
    by_cases z2 : us ≤ y + 1
    · have e : nZ y - nZ us + 1 = nZ (y + 1 - us) := by
        have e1 : (nZ y - nZ us).toInt = (y : Int) - us := by rw [sub32 (by rw [nZ_t (by omega), nZ_t (by omega)]; omega) (by rw [nZ_t (by omega), nZ_t (by omega)]; omega), nZ_t (by omega), nZ_t (by omega)]
        rw [i32_eq, add32 (by rw [e1, o1]; omega) (by rw [e1, o1]; omega), e1, o1, nZ_t (by omega)]
        omega
      rw [br_p z2, lb_e, e]
      obtain ⟨x, ex, kx⟩ := cu49_L hB hu HI ey hy hi hs FU (y + 1 - us) (by omega) (by show _ < 100000; omega)
      refine ⟨x, ex, kx.trans (not_congr ⟨fun w => ⟨z2, w⟩, fun w => w.2⟩)⟩
    · exact ⟨0, br_n z2, iff_of_true rfl fun w => z2 w.1⟩
theorem use28_L {m : Hp} {i y us : Nat} (hi : i < 12) (hy : y ≤ 198) (hus : us ≤ y + 1) (eu : gI m 12 0 16 = nZ us) : ∀ f k, k ≤ us → us - k < f → (∀ k', k' < k → okT m i y (y - k')) → ∃ x, bd (fX12_hasUse_L28 f (nZ (200 * i + y)) (nZ k) m) (fun u15 h12 => ms u15 (fun r16 => some (r16, h12)) (fun v14 => some ((1 : Int32), h12))) = some (x, m) ∧ (x = 0 ↔ ¬ ∀ t, y + 1 - us ≤ t → t ≤ y → okT m i y t) := by
  intro f
  induction f with
  | zero => intro k _ q; omega
  | succ f ih =>
    intro k hk hf K
    rw [fX12_hasUse_L28, eu]
    simp (disch := omega) only [lb_e, nZ_le, nZ_suc]
    by_cases q : k = us
    · rw [br_p (by omega)]
      refine ⟨1, rfl, iff_of_false (by decide) (not_not_intro fun t h1 h2 => ?_)⟩
      have := K (y - t) (by omega)
      rw [show y - (y - t) = t by omega] at this
      exact this
    · rw [br_n (by omega), nZ_sub (by omega) (by omega), show 200 * i + y - k = 200 * i + (y - k) by omega]
      have hib1 : ib (nZ (200 * i + (y - k))) 2400 := by rw [nZ_ib (by omega)]; omega
      have hib2 : ib (nZ (200 * i + y)) 2400 := by rw [nZ_ib (by omega)]; omega
      simp only [gd_p hib1, gd_p hib2, nZ_ix (by omega : 200 * i + (y - k) < 2147483648), nZ_ix (by omega : 200 * i + y < 2147483648)]
      have no : ¬ okT m i y (y - k) → ∃ x, bd (some (Sum.inl (0 : Int32), m) : Option ((Int32 ⊕ Int32) × Hp)) (fun u15 h12 => ms u15 (fun r16 => some (r16, h12)) (fun v14 => some ((1 : Int32), h12))) = some (x, m) ∧ (x = 0 ↔ ¬ ∀ t, y + 1 - us ≤ t → t ≤ y → okT m i y t) := fun h => ⟨0, rfl, iff_of_true rfl fun z => h (z (y - k) (by omega) (by omega))⟩
      by_cases z1 : gI m 88 0 (200 * i + (y - k)) = -1
      · rw [br_p z1]
        exact no fun w => w.1 z1
      · rw [br_n z1]
        by_cases z2 : gI m 92 0 (200 * i + (y - k)) = 0
        · rw [br_p z2]
          by_cases z3 : gI m 88 0 (200 * i + (y - k)) = gI m 88 0 (200 * i + y)
          · rw [br_p z3]
            by_cases z4 : gI m 89 0 (200 * i + (y - k)) = gI m 89 0 (200 * i + y)
            · rw [br_p z4]
              by_cases z5 : gI m 90 0 (200 * i + (y - k)) = gI m 90 0 (200 * i + y)
              · rw [br_p z5]
                refine ih (k + 1) (by omega) (by omega) fun k' hk' => ?_
                by_cases e : k' = k
                · rw [e]
                  exact ⟨z1, z2, z3, z4, z5⟩
                · exact K k' (by omega)
              · rw [br_n z5]
                exact no fun w => z5 w.2.2.2.2
            · rw [br_n z4]
              exact no fun w => z4 w.2.2.2.1
          · rw [br_n z3]
            exact no fun w => z3 w.2.2.1
        · rw [br_n z2]
          exact no fun w => z2 w.2.1
theorem use_t {m : Hp} {i y us : Nat} (hi : i < 12) (hy : y ≤ 198) (hus : 2 ≤ us ∧ us ≤ 30) (eu : gI m 12 0 16 = nZ us) (ey : gI m 12 0 5 = nZ (y + 1)) : ∃ x, fX12_hasUse (nZ i) m = some (x, m) ∧ (x = 0 ↔ ¬ cuP m i y us) := by
  unfold fX12_hasUse
  rw [lb_e, ey, eu, nZ_x200, nZ_add, nZ_pre (by omega) (by omega), show 200 * i + (y + 1) - 1 = 200 * i + y by omega]
  simp only [nZ_le (by omega : us < 2147483648) (by omega : y + 1 < 2147483648)]
  by_cases z : us ≤ y + 1
  · rw [br_p z]
    obtain ⟨x, ex, kx⟩ := use28_L hi hy z eu FU 0 (by omega) (by show _ < 100000; omega) fun k' h => by omega
    exact ⟨x, ex, kx.trans (not_congr ⟨fun w => ⟨z, w⟩, fun w => w.2⟩)⟩
  · exact ⟨0, br_n z, iff_of_true rfl fun w => z w.1⟩
/-- the years that household i sat, of the first n -/
def satN (m : Hp) (i n : Nat) : Nat := cnt (fun y => !decide (gI m 88 0 (200 * i + y) = -1)) n
def wGo : List Nat := [505, 999, 32, 4001, 6000, 6001, 6002, 6003, 6004, 6005, 6006, 6007, 6008, 6009, 6010, 6011, 6012, 3004]
theorem go_L {H y B us : Nat} {u : Nat → Nat} (hB : B ≤ 8) (hu : ∀ b, b < B → u b ≤ 32) (hy : y ≤ 198) (hus : 2 ≤ us ∧ us ≤ 30) (a1 : Int32) : ∀ (f j : Nat) (c m : Hp), j ≤ H → H - j < f → RP c → nH c = H → gI m 12 0 8 = nZ H → RHi H (y + 1) B u c m → RR H ((y + 1 : Nat) : Int) B u c m → gI c 11 0 11 = nZ y → gI m 12 0 5 = nZ (y + 1) → gI c 11 0 12 = nZ us → gI m 12 0 16 = nZ us → (∀ i, i < H → gI c 2 i 4 = nZ (satN m i (if i < j then y + 1 else y))) → ∃ v c' w m', fX11_go_L64 f (y + 1) (nZ j) c = some (v, c') ∧ fX12_go_L140 f a1 (nZ j) m = some (w, m') ∧ RR H ((y + 1 : Nat) : Int) B u c' m' ∧ (∀ i, i < H → gI c' 2 i 4 = nZ (satN m i (y + 1))) ∧ Fr wGo c c' ∧ Fr wNM m m' ∧ ∃ n, nR m' = nR m + n ∧ gC c' = gC c + n ∧ gS c' = gS c + 13 * n := by
  intro f
  induction f with
  | zero => intro j c m _ q; omega
  | succ f ih =>
    intro j c m hj hf P eH e8 HI T ey em eu eum Y
    have hH := P.2.2.1
    rw [eH] at hH
    obtain ⟨r1, r2, r3, r4, r5⟩ := id HI
    rw [fX11_go_L64, fX12_go_L140, P.2.1, eH, e8]
    simp (disch := omega) only [lb_e, nZ_le, nZ_suc]
    by_cases q : j = H
    · subst q
      rw [br_p (by omega), br_p (by omega)]
      refine ⟨_, c, _, m, rfl, rfl, T, fun i hi => ?_, Fr.rf _ _, Fr.rf _ _, 0, rfl, rfl, rfl⟩
      rw [Y i hi, if_pos hi]
    · have hj' : j < H := by omega
      have Sy := r2 (y + 1) (by omega)
      have sy := r4 y j (by omega) (by omega)
      rw [br_n (by omega), br_n (by omega), bd_s (sit_t Sy (by omega))]
      -- the year is noted
      have note : ∃ c1, fX4_noteYear (nZ j) (if gI c 41 (y + 1) j = -1 then 0 else 1) c = some ((), c1) ∧ Fr [3004] c c1 ∧ (∀ i, i < H → gI c1 2 i 4 = nZ (satN m i (if i < j + 1 then y + 1 else y))) := by
        unfold fX4_noteYear
        rw [bd_s (find4_t P (by rw [eH]; exact hj')), mt_s rfl]
        have yj := Y j hj'
        rw [if_neg (by omega)] at yj
        by_cases z : gI c 41 (y + 1) j = -1
        · rw [if_pos z, br_p rfl]
          refine ⟨c, rfl, Fr.rf _ _, fun i hi => ?_⟩
          by_cases e : i = j
          · rw [e, yj, if_pos (by omega)]
            unfold satN
            rw [cnt_f (by rw [(sr_sit hB hu sy).mp z]; decide)]
          · rw [Y i hi]
            by_cases e2 : i < j
            · rw [if_pos e2, if_pos (by omega)]
            · rw [if_neg e2, if_neg (by omega)]
        · have hs : ¬ gI m 88 0 (200 * j + y) = -1 := fun w => z ((sr_sit hB hu sy).mpr w)
          rw [if_neg z, br_n (by decide), lb_e]
          refine ⟨_, rfl, Fr_I _ _ _ _ _ rfl, fun i hi => ?_⟩
          by_cases e : i = j
          · rw [e, gI_q, yj, nZ_suc, if_pos (by omega)]
            unfold satN
            rw [cnt_t (by simp [hs])]
          · rw [gI_r e, Y i hi]
            by_cases e2 : i < j
            · rw [if_pos e2, if_pos (by omega)]
            · rw [if_neg e2, if_neg (by omega)]
      obtain ⟨c1, en, f1, Y1⟩ := note
      have P1 := RP_sm (f1.sm rfl) P
      have eH1 : nH c1 = H := by rw [nH_sm (f1.sm rfl)]; exact eH
      have HI1 : RHi H (y + 1) B u c1 m := RHi_sm (f1.sm rfl) (Fr.sm (Fr.rf [] _) rfl) HI
      have T1 : RR H ((y + 1 : Nat) : Int) B u c1 m := RR_c (f1.sm rfl) T
      have ey1 : gI c1 11 0 11 = nZ y := by rw [f1.I 11 0 11 rfl]; exact ey
      have eu1 : gI c1 11 0 12 = nZ us := by rw [f1.I 11 0 12 rfl]; exact eu
      obtain ⟨x, ex, kx⟩ := come_t hB hu HI1 ey1 hy eu1 hus (i := j) (by omega)
      obtain ⟨x', ex', kx'⟩ := use_t (m := m) (i := j) (by omega) hy hus eum em
      rw [bd_s en, bd_s ex, T.1]
      have nr3 := T.2.2.1
      have e100 : ((100 : Int32) ≤ nZ (nR m)) ↔ 100 ≤ nR m := nZ_le (a := 100) (by decide) (by omega)
      have skip : ∃ v c' w m', fX11_go_L64 f (y + 1) (nZ (j + 1)) c1 = some (v, c') ∧ fX12_go_L140 f a1 (nZ (j + 1)) m = some (w, m') ∧ RR H ((y + 1 : Nat) : Int) B u c' m' ∧ (∀ i, i < H → gI c' 2 i 4 = nZ (satN m i (y + 1))) ∧ Fr wGo c c' ∧ Fr wNM m m' ∧ ∃ n, nR m' = nR m + n ∧ gC c' = gC c + n ∧ gS c' = gS c + 13 * n := by
        obtain ⟨v, c', w, m', g1, g2, g3, g4, g5, g6, n, g7, g8, g9⟩ := ih (j + 1) c1 m (by omega) (by omega) P1 eH1 e8 HI1 T1 ey1 em eu1 eum Y1
        rw [(f1.2.2 rfl).1] at g8
        rw [(f1.2.2 rfl).2] at g9
        exact ⟨v, c', w, m', g1, g2, g3, g4, (f1.wk rfl).tr g5, g6, n, g7, g8, g9⟩
      by_cases full : 100 ≤ nR m
      · rw [br_p (e100.mpr full)]
        by_cases z : x = 0
        · rw [br_p z]
          exact skip
        · have eC : fX11_enterCustom (nZ j) (y + 1) c1 = some ((), c1) := by
            unfold fX11_enterCustom
            rw [left3 nr3 T1.2.1, br_n (by show ¬ nZ 1 ≤ _; rw [nZ_le (by omega) (by omega)]; omega)]
          rw [br_n z, bd_s eC]
          exact skip
      · rw [br_n (fun w => full (e100.mp w)), bd_s ex']
        by_cases z : cuP m j y us
        · have nx : ¬ x = 0 := fun w => kx.mp w z
          have nx' : ¬ x' = 0 := fun w => kx'.mp w z
          rw [br_n nx, br_n nx']
          have hs := (z.2 y (by omega) (Nat.le_refl _)).1
          rcases sy with w | ⟨b, v, w, z1, z2, z3, z4, z5, z6, z7, z8, z9, z10, z11, z12⟩
          · exact absurd w.2 hs
          · have hub := hu b z9
            have hN : nR m < 100 := by omega
            -- the model's right
            have ecu : ∃ m1', fX12_customs (nZ j) m = some ((), m1') ∧ NewM (nR m) m m1' 2 (nZ j) (nZ b) (nZ v) (nZ w) (nZ (y + 1)) (nZ (y + 1)) 199 (nZ (y + 1)) 0 0 := by
              obtain ⟨m1', e1, M⟩ := adds_t (m := m) hN T.1 2 (nZ j) (nZ b) (nZ v) (nZ w) (nZ (y + 1)) (nZ (y + 1)) 199 0 0 (Or.inl rfl)
              rw [em] at M
              refine ⟨m1', ?_, M⟩
              unfold fX12_customs
              rw [lb_e, em, nZ_x200, nZ_add, nZ_pre (by omega) (by omega), show 200 * j + (y + 1) - 1 = 200 * j + y by omega]
              have hib2 : ib (nZ (200 * j + y)) 2400 := by rw [nZ_ib (by omega)]; omega
              simp only [gd_p hib2, nZ_ix (by omega : 200 * j + y < 2147483648), z2, z3, z5, em]
              rw [bd_s e1]
            obtain ⟨m1', e1, M⟩ := ecu
            -- the class's right
            obtain ⟨c2, ec⟩ : ∃ z, z = sI (sR (sI (sI (sI (sI (sI (sI (sI (sI (sI (sI (sI (sI (sI (nw c1 5 13) 5 (nR m) 12 200) 5 (nR m) 0 2) 5 (nR m) 1 (nZ j)) 5 (nR m) 2 (nZ b)) 5 (nR m) 3 (nZ v)) 5 (nR m) 4 (nZ w)) 5 (nR m) 5 (nZ (y + 1))) 5 (nR m) 6 (nZ (y + 1))) 5 (nR m) 7 199) 5 (nR m) 11 199) 5 (nR m) 8 (nZ (y + 1))) 5 (nR m) 9 0) 5 (nR m) 10 0) 32 0 (nR m) (some (nR m))) 3 0 1 (nZ (nR m + 1)) := ⟨_, rfl⟩
            have C := newC_t hN T1.2.1 T1.2.2.2.1 _ _ _ _ _ _ _ _ _ _ _ ec
            have e9 : gI (sI (sI (sI (sI (sI (sI (sI (sI (sI (sI (sI (nw c1 5 13) 5 (nR m) 12 200) 5 (nR m) 0 2) 5 (nR m) 1 (nZ j)) 5 (nR m) 2 (nZ b)) 5 (nR m) 3 (nZ v)) 5 (nR m) 4 (nZ w)) 5 (nR m) 5 (nZ (y + 1))) 5 (nR m) 6 (nZ (y + 1))) 5 (nR m) 7 199) 5 (nR m) 11 199) 5 (nR m) 8 (nZ (y + 1))) 5 (nR m) 9 = 0 := by
              simp (disch := decide) only [gI_p]
              rw [gI_nw, if_pos ⟨rfl, T1.2.2.2.1.symm⟩]
            have e10 : gI (sI (sI (sI (sI (sI (sI (sI (sI (sI (sI (sI (nw c1 5 13) 5 (nR m) 12 200) 5 (nR m) 0 2) 5 (nR m) 1 (nZ j)) 5 (nR m) 2 (nZ b)) 5 (nR m) 3 (nZ v)) 5 (nR m) 4 (nZ w)) 5 (nR m) 5 (nZ (y + 1))) 5 (nR m) 6 (nZ (y + 1))) 5 (nR m) 7 199) 5 (nR m) 11 199) 5 (nR m) 8 (nZ (y + 1))) 5 (nR m) 10 = 0 := by
              simp (disch := decide) only [gI_p]
              rw [gI_nw, if_pos ⟨rfl, T1.2.2.2.1.symm⟩]
            rw [sI_id e9, sI_id e10] at ec
            have Sy1 := HI1.2.1 (y + 1) (by omega)
            have eC : fX11_enterCustom (nZ j) (y + 1) c1 = some ((), c2) := by
              have hib : ib (nZ j) 12 := by rw [nZ_ib (by omega)]; omega
              unfold fX11_enterCustom fX5_init fX5_setYears
              rw [left3 nr3 T1.2.1, br_p (by show nZ 1 ≤ _; rw [nZ_le (by omega) (by omega)]; omega)]
              simp only [lb_e, mt_s Sy1.1, gd_p hib, nZ_ix (by omega : j < 2147483648), bd_s rfl, T1.2.2.2.1]
              rw [gR_nwo (by decide), mt_s Sy1.2.1, gI_nwo (by decide), f1.A 41 _ _ rfl, f1.A 42 _ _ rfl, z1, z4, nZ_d32 (by omega), nZ_m32 (by omega), show (32 * b + v) / 32 = b by omega, show (32 * b + v) % 32 = v by omega]
              have ey2 : gI (sI (sI (sI (sI (sI (sI (nw c1 5 13) 5 (nR m) 12 200) 5 (nR m) 0 2) 5 (nR m) 1 (nZ j)) 5 (nR m) 2 (nZ b)) 5 (nR m) 3 (nZ v)) 5 (nR m) 4 (nZ w)) 11 0 11 = nZ y := by
                simp (disch := decide) only [gI_o]
                rw [gI_nwo (by decide)]
                exact ey1
              rw [ey2, nZ_suc, bd_s (enter_t hN (by simp (disch := decide) only [gI_o]; rw [gI_nwo (by decide)]; exact T1.2.1)), ← ec]
            obtain ⟨K, eK⟩ := RR_new T1 hN C M (by decide) (by decide) (Or.inl rfl) (fun w => absurd w (by decide)) (fun _ => by rw [nZ_t (by omega)]; omega) ⟨b, v, w, rfl, rfl, rfl, z9, z10, z12⟩ (Or.inl rfl)
            have Cf : Fr wNC c1 c2 := C.1
            have Mf : Fr wNM m m1' := M.1
            rw [bd_s eC, bd_s e1]
            have sN : ∀ i n, satN m1' i n = satN m i n := fun i n => by
              unfold satN
              exact cnt_ext fun t _ => by rw [Mf.A 88 0 _ rfl]
            obtain ⟨v', c', w', m', g1, g2, g3, g4, g5, g6, n, g7, g8, g9⟩ := ih (j + 1) c2 m1' (by omega) (by omega) (RP_sm (Cf.sm rfl) P1) (by rw [nH_sm (Cf.sm rfl)]; exact eH1) (by rw [Mf.I 12 0 8 rfl]; exact e8) (RHi_sm (Cf.sm rfl) (Mf.sm rfl) HI1) K (by rw [Cf.I 11 0 11 rfl]; exact ey1) (by rw [Mf.I 12 0 5 rfl]; exact em) (by rw [Cf.I 11 0 12 rfl]; exact eu1) (by rw [Mf.I 12 0 16 rfl]; exact eum) (fun i hi => by rw [Cf.I 2 i 4 rfl, sN]; exact Y1 i hi)
            have k1 := C.2.2.2.2.2.2.1
            have k2 := C.2.2.2.2.2.2.2
            rw [(f1.2.2 rfl).1] at k1
            rw [(f1.2.2 rfl).2] at k2
            exact ⟨v', c', w', m', g1, g2, g3, fun i hi => by rw [g4 i hi, sN], ((f1.wk rfl).tr (Cf.wk rfl)).tr g5, Mf.tr g6, n + 1, by omega, by omega, by omega⟩
        · rw [br_p (kx.mpr z), br_p (kx'.mpr z)]
          exact skip
