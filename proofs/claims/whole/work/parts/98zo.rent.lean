/-! ===== level 2: knock: rights of rent, in step ===== -/
def KCc (V : Nat → Nat → Nat) (n y : Nat) (c : Hp) : Prop := gI c 0 0 0 = nZ n ∧ gI c 11 0 11 = nZ y ∧ ∀ j, j < 12 → gI c 21 0 j = wz n (kW V n j) ∧ gI c 22 0 j = pC V n j
theorem KCc_sm {V : Nat → Nat → Nat} {n y : Nat} {c c' : Hp} (e : Sm [1000, 12011, 21, 22] c c') (R : KCc V n y c) : KCc V n y c' := by
  unfold KCc at R ⊢
  simp (disch := decide) only [e.A, e.I]
  exact R
def KCm (V : Nat → Nat → Nat) (n H y : Nat) (m : Hp) : Prop := Om V n H m ∧ gI m 12 0 5 = nZ y ∧ ∀ j, j < H → gI m 97 0 j = wz n (kW V n j)
theorem KCm_sm {V : Nat → Nat → Nat} {n H y : Nat} {m m' : Hp} (e : Sm [13010, 13008, 68, 87, 13005, 97] m m') (R : KCm V n H y m) : KCm V n H y m' := by
  unfold KCm Om at R ⊢
  simp (disch := decide) only [e.A, e.I]
  exact R
def Lt (n B : Nat) (u : Nat → Nat) (c m : Hp) : Prop := ∀ l, l < n → gI c 13 0 l = gI m 83 0 l ∧ gI c 14 0 l = gI m 84 0 l ∧ gI c 15 0 l = gI m 85 0 l ∧ gI c 16 0 l = gI m 86 0 l ∧ ∃ b f n y, gI m 83 0 l = nZ b ∧ gI m 84 0 l = nZ f ∧ gI m 85 0 l = nZ n ∧ gI m 86 0 l = nZ y ∧ b < B ∧ 1 ≤ n ∧ f + n ≤ u b ∧ 1 ≤ y ∧ y ≤ 30
theorem Lt_c {n B : Nat} {u : Nat → Nat} {c c' m : Hp} (e : Sm [13, 14, 15, 16] c c') (R : Lt n B u c m) : Lt n B u c' m := by
  unfold Lt at R ⊢
  simp (disch := decide) only [e.A]
  exact R
theorem Lt_m {n B : Nat} {u : Nat → Nat} {c m m' : Hp} (e : Sm [83, 84, 85, 86] m m') (R : Lt n B u c m) : Lt n B u c m' := by
  unfold Lt at R ⊢
  simp (disch := decide) only [e.A]
  exact R
theorem rent_no {n i : Nat} {c : Hp} (hi : i < 12) (hn : n ≤ 8) (e0 : gI c 0 0 0 = nZ n) (e : gI c 21 0 i = m1) : fX11_enterRent (nZ i) c = some ((), c) := by
  unfold fX11_enterRent
  rw [gd_p (by rw [nZ_ib (by omega)]; exact hi), nZ_ix (by omega), lb_e, e, br_p]
  rw [isLot_t hn e0, m1_t]
  omega
theorem rent_t {N n i l y : Nat} {c : Hp} (hN : N < 100) (e1 : gI c 3 0 1 = nZ N) (eN : gN c 5 = N) (hi : i < 12) (hn : n ≤ 8) (hl : l < n) (e0 : gI c 0 0 0 = nZ n) (ey : gI c 11 0 11 = nZ y) (e : gI c 21 0 i = nZ l) : ∃ c', fX11_enterRent (nZ i) c = some ((), c') ∧ NewC N c c' 3 (nZ i) (gI c 13 0 l) (gI c 14 0 l) (gI c 15 0 l) (nZ y) (nZ y) (mnI 199 ((nZ y + gI c 16 0 l) - 1)) (nZ y) 0 (gI c 22 0 i) := by
  have i12 : ib (nZ i) 12 := by rw [nZ_ib (by omega)]; exact hi
  have i8 : ib (nZ l) 8 := by rw [nZ_ib (by omega)]; omega
  obtain ⟨c', ec⟩ : ∃ z, z = sI (sR (sI (sI (sI (sI (sI (sI (sI (sI (sI (sI (sI (sI (sI (nw c 5 13) 5 N 12 200) 5 N 0 3) 5 N 1 (nZ i)) 5 N 2 (gI c 13 0 l)) 5 N 3 (gI c 14 0 l)) 5 N 4 (gI c 15 0 l)) 5 N 5 (nZ y)) 5 N 6 (nZ y)) 5 N 7 (mnI 199 ((nZ y + gI c 16 0 l) - 1))) 5 N 11 (mnI 199 ((nZ y + gI c 16 0 l) - 1))) 5 N 8 (nZ y)) 5 N 9 0) 5 N 10 (gI c 22 0 i)) 32 0 N (some N)) 3 0 1 (nZ (N + 1)) := ⟨_, rfl⟩
  refine ⟨c', ?_, newC_t hN e1 eN _ _ _ _ _ _ _ _ _ _ _ ec⟩
  have e9 : gI (sI (sI (sI (sI (sI (sI (sI (sI (sI (sI (sI (nw c 5 13) 5 N 12 200) 5 N 0 3) 5 N 1 (nZ i)) 5 N 2 (gI c 13 0 l)) 5 N 3 (gI c 14 0 l)) 5 N 4 (gI c 15 0 l)) 5 N 5 (nZ y)) 5 N 6 (nZ y)) 5 N 7 (mnI 199 ((nZ y + gI c 16 0 l) - 1))) 5 N 11 (mnI 199 ((nZ y + gI c 16 0 l) - 1))) 5 N 8 (nZ y)) 5 N 9 = 0 := by
    simp (disch := decide) only [gI_p]
    rw [gI_nw, if_pos ⟨rfl, eN.symm⟩]
  rw [sI_id e9] at ec
  unfold fX11_enterRent fX5_init fX5_setYears
  rw [gd_p i12, nZ_ix (by omega), lb_e, e, br_n (by rw [isLot_t hn e0, nZ_t (by omega)]; omega)]
  simp only [gd_p i8, gd_p i12, nZ_ix (by omega : l < 2147483648), lb_e, bd_s rfl, eN]
  simp (disch := decide) only [gI_o, gI_nwo, ey]
  rw [bd_s (enter_t hN (by simp (disch := decide) only [gI_o, gI_nwo]; exact e1)), ← ec]
theorem kl_Z {V : Nat → Nat → Nat} {n y : Nat} {c : Hp} (hn : n ≤ 8) (C : KCc V n y c) : ∀ f i, i ≤ 12 → 12 - i < f → (∀ j, i ≤ j → kW V n j = n) → fX11_knock_L44 f (nZ i) c = some (nZ 12, c) := by
  intro f
  induction f with
  | zero => intro i _ q; omega
  | succ f ih =>
    intro i hi hf z
    rw [fX11_knock_L44]
    simp (disch := omega) only [le12, nZ_suc, lb_e]
    by_cases q : i = 12
    · rw [br_p (by omega), q]
    · have e : gI c 21 0 i = m1 := by
        rw [(C.2.2 i (by omega)).1, z i (Nat.le_refl _)]
        exact if_neg (Nat.lt_irrefl _)
      rw [br_n (by omega), bd_s (rent_no (by omega) hn C.1 e)]
      exact ih (i + 1) (by omega) (by omega) fun j hj => z j (by omega)
theorem pr64 {A B C : Nat} (hA : A ≤ 200000) (hB : B ≤ 200000) (hC : C ≤ 200000) : (nZ A - (nZ B - nZ C)).toInt64 = nJ A - (nJ B - nJ C) := by
  have a1 := nZ_t (by omega : A < 2147483648)
  have a2 := nZ_t (by omega : B < 2147483648)
  have a3 := nZ_t (by omega : C < 2147483648)
  have b1 := nJ_t (by omega : A < 2147483648)
  have b2' := nJ_t (by omega : B < 2147483648)
  have b3 := nJ_t (by omega : C < 2147483648)
  have s1 : (nZ B - nZ C).toInt = (B : Int) - C := by rw [sub32 (by omega) (by omega), a2, a3]
  have s2 : (nJ B - nJ C).toInt = (B : Int) - C := by rw [sub64 (by omega) (by omega), b2', b3]
  rw [i64_eq, to64, sub32 (by omega) (by omega), sub64 (by omega) (by omega), a1, b1, s1, s2]
def wKM : List Nat := [95, 96, 98, 13009, 70, 71, 72, 73, 74, 75, 76, 77, 78, 79, 80, 81, 82]
theorem kl_L {V : Nat → Nat → Nat} {n H y B : Nat} {u : Nat → Nat} : ∀ (f i : Nat) (c m : Hp), i ≤ H → 12 - i < f → KCc V n y c → KCm V n H y m → Lt n B u c m → RR H y B u c m → nR m + kK V n H ≤ 100 + kK V n i → (∀ j, j < i → gI m 96 0 j = wz n (kW V n j) ∧ gJ m 98 0 j = (pC V n j).toInt64) → ∃ v c' m' w, fX11_knock_L44 f (nZ i) c = some (v, c') ∧ fX12_knock_L210 f (nJ (Db V n 12 0)) (sJs (pC V n) i) (nZ i) m = some ((sJs (pC V n) H, w), m') ∧ RR H y B u c' m' ∧ Fr wNC c c' ∧ Fr wKM m m' ∧ nR m' + kK V n i = nR m + kK V n H ∧ (gC c' + kK V n i = gC c + kK V n H ∧ gS c' + 13 * kK V n i = gS c + 13 * kK V n H) ∧ (∀ j, j < H → gI m' 96 0 j = wz n (kW V n j) ∧ gJ m' 98 0 j = (pC V n j).toInt64) := by
  intro f
  induction f with
  | zero => intro i c m _ q; omega
  | succ f ih =>
    intro i c m hi hf C M L T hR K
    have C' := C
    obtain ⟨c0, c11, ck⟩ := C'
    have M' := M
    obtain ⟨O, m5, mk⟩ := M'
    have O' := O
    obtain ⟨o1, o2, o3, o4, o5, o6, o7⟩ := O'
    by_cases q : i = H
    · subst q
      refine ⟨nZ 12, c, m, nZ i, kl_Z o2 C (f + 1) i (by omega) hf fun j hj => kW_z fun l => o6 j l hj, ?_, T, Fr.rf _ _, Fr.rf _ _, rfl, ⟨rfl, rfl⟩, K⟩
      rw [fX12_knock_L210, o3, br_p (by rw [nZ_le (by omega) (by omega)]; omega)]
    · have h12 : i < 12 := by omega
      have hH : i < H := by omega
      have i12 : ib (nZ i) 12 := by rw [nZ_ib (by omega)]; exact h12
      rw [fX11_knock_L44, fX12_knock_L210, o3]
      simp only [gd_p i12, nZ_ix (by omega : i < 2147483648), lb_e, nZ_suc]
      rw [br_n (by rw [le12 (by omega)]; omega), br_n (by rw [nZ_le (by omega) (by omega)]; omega)]
      obtain ⟨m1', em1⟩ : ∃ z, z = sJ (sI m 96 0 i (gI m 97 0 i)) 98 0 i 0 := ⟨_, rfl⟩
      have g1 : Fr [96, 98] m m1' := by rw [em1]; exact (Fr_I _ _ _ _ _ rfl).tr (Fr_J _ _ _ _ _ rfl)
      have e97 : gI m1' 97 0 i = wz n (kW V n i) := by rw [g1.A 97 0 i rfl]; exact mk i hH
      rw [← em1, e97]
      have M1 : KCm V n H y m1' := KCm_sm (g1.sm rfl) M
      have L1 : Lt n B u c m1' := Lt_m (g1.sm rfl) L
      have T1 : RR H y B u c m1' := RR_m (g1.sm rfl) T
      have eR1 : nR m1' = nR m := nR_sm (g1.sm rfl)
      have k96 : ∀ j, gI m1' 96 0 j = if j = i then gI m 97 0 i else gI m 96 0 j := fun j => by
        rw [em1, gI_sJ, gI_a]
      have k98 : ∀ j, gJ m1' 98 0 j = if j = i then 0 else gJ m 98 0 j := fun j => by
        rw [em1, gJ_a, gJ_sI]
      by_cases z : kW V n i < n
      · have eK : kK V n (i + 1) = kK V n i + 1 := by rw [kK_s, if_pos z]
        have ew : wz n (kW V n i) = nZ (kW V n i) := if_pos z
        have mono := kK_mono V n (show i + 1 ≤ H by omega)
        have i8 : ib (nZ (kW V n i)) 8 := by rw [nZ_ib (by omega)]; omega
        rw [br_n fun w => (wz_m o2).mp w z, ew]
        simp only [gd_p i8, nZ_ix (by omega : kW V n i < 2147483648)]
        obtain ⟨r2, m2, es, er2, g2, -⟩ := sumsBut_t (a1 := nZ i) (ex := i) M1.1 fun j hj => nZ_eq (by omega) (by omega)
        have O2 : Om V n H m2 := Om_sm (g2.sm rfl) M1.1
        rw [bd_s es, bd_s (offered_t O2 z h12), er2]
        have b1 := Db_b12 (but_b o5 i) n (Nat.le_refl 12) 0
        have b3 := Db_b12 o5 n (Nat.le_refl 12) 0
        have b4 := o5 i (kW V n i)
        have ep : nJ (Db (but V i) n 12 0) - (nJ (Db V n 12 0) - nJ (V i (kW V n i))) = (pC V n i).toInt64 := by
          rw [← pr64 (by omega) (by omega) (by omega)]
          unfold pC
          rw [if_pos z]
        rw [ep]
        obtain ⟨m3, em3⟩ : ∃ z, z = sJ m2 98 0 i (pC V n i).toInt64 := ⟨_, rfl⟩
        have g3 : Fr [98] m2 m3 := by rw [em3]; exact Fr_J _ _ _ _ _ rfl
        have g13 : Fr [95, 98] m1' m3 := (g2.wk rfl).tr (g3.wk rfl)
        have M3 : KCm V n H y m3 := KCm_sm (g13.sm rfl) M1
        have L3 : Lt n B u c m3 := Lt_m (g13.sm rfl) L1
        have T3 : RR H y B u c m3 := RR_m (g13.sm rfl) T1
        have eR3 : nR m3 = nR m := (nR_sm (g13.sm rfl)).trans eR1
        have e98 : gJ m3 98 0 i = (pC V n i).toInt64 := by rw [em3, gJ_a, if_pos rfl]
        rw [← em3, e98, M3.2.1]
        have hN : nR m3 < 100 := by omega
        obtain ⟨m4, e4, N4⟩ := adds_t (m := m3) hN T3.1 3 (nZ i) (gI m3 83 0 (kW V n i)) (gI m3 84 0 (kW V n i)) (gI m3 85 0 (kW V n i)) (nZ y) (nZ y) (mnI 199 (nZ y + gI m3 86 0 (kW V n i) - 1)) 0 (pC V n i).toInt64 (Or.inl rfl)
        rw [M3.2.1] at N4
        rw [bd_s e4]
        obtain ⟨l13, l14, l15, l16, b, f', w, y', l17, l18, l19, l20, l21, l22, l23, l24, l25⟩ := L3 (kW V n i) z
        obtain ⟨c1, ec1, N1⟩ := rent_t (y := y) hN T3.2.1 T3.2.2.2.1 h12 o2 z c0 c11 (by rw [(ck i h12).1]; exact ew)
        rw [l13, l14, l15, l16, (ck i h12).2] at N1
        rw [bd_s ec1]
        obtain ⟨T4, eR4⟩ := RR_new T3 hN N1 N4 rfl (by decide) (Or.inl rfl) (fun w => absurd w (by decide)) (fun _ => by rw [nZ_t (by omega)]; omega) ⟨b, f', w, l17, l18, l19, l21, l22, l23⟩ (Or.inl rfl)
        have fc : Fr wNC c c1 := N1.1
        have g4 : Fr wNM m3 m4 := N4.1
        obtain ⟨v, c', m', x, r1, r2', r3, r4, r5, r6, r7, r8⟩ := ih (i + 1) c1 m4 (by omega) (by omega) (KCc_sm (fc.sm rfl) C) (KCm_sm (g4.sm rfl) M3) (Lt_c (fc.sm rfl) (Lt_m (g4.sm rfl) L3)) T4 (by omega) (fun j hj => by
          rw [g4.A 96 0 j rfl, g4.AJ 98 0 j rfl, g13.A 96 0 j rfl, k96, em3, gJ_a, g2.AJ 98 0 j rfl, k98]
          by_cases y : j = i
          · rw [if_pos y, if_pos y, y]
            exact ⟨mk i hH, rfl⟩
          · rw [if_neg y, if_neg y, if_neg y]
            exact K j (by omega))
        have nc := N1.2.2.2.2.2.2
        refine ⟨v, c', m', x, r1, r2', r3, fc.tr r4, (((g1.wk rfl).tr (g13.wk rfl)).tr (g4.wk rfl)).tr r5, by omega, ⟨by omega, by omega⟩, r8⟩
      · have eK : kK V n (i + 1) = kK V n i := by rw [kK_s, if_neg z]
        have ep : pC V n i = 0 := if_neg z
        have e : gI c 21 0 i = m1 := by
          rw [(ck i h12).1]
          exact if_neg z
        have es : sJs (pC V n) (i + 1) = sJs (pC V n) i := by
          show sJs (pC V n) i + (pC V n i).toInt64 = _
          rw [ep]
          exact Int64.add_zero _
        rw [br_p ((wz_m o2).mpr z), bd_s (rent_no h12 o2 c0 e), ← es]
        obtain ⟨v, c', m', x, r1, r2', r3, r4, r5, r6, r7, r8⟩ := ih (i + 1) c m1' (by omega) (by omega) C M1 L1 T1 (by omega) (fun j hj => by
          rw [k96, k98]
          by_cases y : j = i
          · rw [if_pos y, if_pos y, y, ep]
            exact ⟨mk i hH, rfl⟩
          · rw [if_neg y, if_neg y]
            exact K j (by omega))
        rw [eK] at r6 r7
        exact ⟨v, c', m', x, r1, r2', r3, r4, (g1.wk rfl).tr r5, by omega, r7, r8⟩
