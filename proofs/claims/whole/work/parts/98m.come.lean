/-! ===== level 2: sunday: who can come ===== -/
def nu (g : Hp) (p k : Nat) : Int := (gJ g 56 0 (60 * p + k)).toInt
def VB (g : Hp) (p k : Nat) : Prop := -12 ≤ nu g p k ∧ (nu g p k < 0 ∨ (nu g p k < nH g ∧ gI g 68 0 (nu g p k).toNat = 0 ∧ ∀ j, j < k → nu g p j ≠ nu g p k))
theorem m12J : (-12 : Int64).toInt = -12 := by decide
theorem t32J {x : Int64} (h : -12 ≤ x.toInt ∧ x.toInt < 12) : x.toInt32.toInt = x.toInt := by
  rw [Int64.toInt_toInt32, Int.bmod_eq_of_le (by omega) (by omega)]
theorem t32N {x : Int64} (h : 0 ≤ x.toInt ∧ x.toInt < 12) : x.toInt32 = nZ x.toInt.toNat := by
  rw [i32_eq, t32J (by omega), nZ_t (by omega)]
  omega
theorem cc_L {h : Hp} (P : RP h) {p n : Nat} (hp : p < 4) (hn : n ≤ 60) (e39 : gI h 39 0 p = nZ n) (e38 : ∀ i, i < 60 → gJ h 38 0 (60 * p + i) = gJ h 56 0 (60 * p + i)) : ∀ f k seen, k ≤ n → n - k < f → (∀ j, j < k → VB h p j) → (∀ i, i < 12 → (bt seen i = true ↔ ∃ j, j < k ∧ nu h p j = i)) → ∃ r, bd (fX9_canCome_L5 f (nZ p) seen (nZ k) h) (fun u14 h10 => ms u14 (fun r15 => some (r15, h10)) (fun t11 => lb t11.1 (fun v12 => lb t11.2 (fun v13 => some ((1 : Int32), h10))))) = some (r, h) ∧ (r = 0 ↔ ¬ ∀ j, j < n → VB h p j) := by
  have hH := P.2.2.1
  intro f
  induction f with
  | zero => intro k seen _ q; omega
  | succ f ih =>
    intro k seen hk hf K S
    rw [fX9_canCome_L5, bd_s (length7 hp hn e39)]
    simp (disch := omega) only [lb_e, nZ_le, nZ_suc]
    by_cases q : k = n
    · subst q
      rw [br_p (by omega)]
      exact ⟨1, rfl, iff_of_false (by decide) (not_not_intro K)⟩
    · rw [br_n (by omega), bd_s (number7 hp hn (by omega) e39), if_pos (by omega), e38 k (by omega)]
      have en : (gJ h 56 0 (60 * p + k)).toInt = nu h p k := rfl
      simp only [i64_lt, m12J, n12J, z0J, en]
      have no : ¬ VB h p k → ∃ r, bd (some (Sum.inl (0 : Int32), h) : Option ((Int32 ⊕ (Int32 × Int32)) × Hp)) (fun u14 h10 => ms u14 (fun r15 => some (r15, h10)) (fun t11 => some ((1 : Int32), h10))) = some (r, h) ∧ (r = 0 ↔ ¬ ∀ j, j < n → VB h p j) := fun z => ⟨0, rfl, iff_of_true rfl fun w => z (w k (by omega))⟩
      have ok : VB h p k → ∀ seen', (∀ i, i < 12 → (bt seen' i = true ↔ ∃ j, j < k + 1 ∧ nu h p j = i)) → ∃ r, bd (fX9_canCome_L5 f (nZ p) seen' (nZ (k + 1)) h) (fun u14 h10 => ms u14 (fun r15 => some (r15, h10)) (fun t11 => some ((1 : Int32), h10))) = some (r, h) ∧ (r = 0 ↔ ¬ ∀ j, j < n → VB h p j) := fun z seen' S' => ih (k + 1) seen' (by omega) (by omega) (fun j hj => by
        by_cases e : j = k
        · rw [e]; exact z
        · exact K j (by omega)) S'
      by_cases z1 : nu h p k < -12
      · rw [br_p z1]
        exact no fun w => by have := w.1; omega
      · rw [br_n z1]
        by_cases z2 : nu h p k < 12
        · rw [br_p z2]
          by_cases z3 : nu h p k < 0
          · rw [br_p z3]
            refine ok ⟨by omega, Or.inl z3⟩ seen fun i hi => ?_
            rw [S i hi]
            refine ⟨fun ⟨j, h1, h2⟩ => ⟨j, by omega, h2⟩, fun ⟨j, h1, h2⟩ => ⟨j, ?_, h2⟩⟩
            by_cases e : j = k
            · rw [e] at h2; omega
            · omega
          · rw [br_n z3, t32N (by rw [en]; omega), en]
            have xk : ix (nZ (nu h p k).toNat) = (nu h p k).toNat := nZ_ix (by omega)
            by_cases z4 : isT h (nZ (nu h p k).toNat)
            · rw [bd_s (stay_t P z4), br_n (by decide)]
              have t1 := z4.1.2
              rw [nZ_t (by omega)] at t1
              have t2 := z4.2
              rw [xk] at t2
              have bi := tb0 (x := seen) (i := (nu h p k).toNat) (by omega)
              have hk12 : (nu h p k).toNat < 12 := by omega
              have ekn : (((nu h p k).toNat : Nat) : Int) = nu h p k := by omega
              by_cases z5 : bt seen (nu h p k).toNat = false
              · rw [br_p (bi.mpr z5)]
                refine ok ⟨by omega, Or.inr ⟨by omega, t2, fun j hj e => ?_⟩⟩ _ fun i hi => ?_
                · have := (S (nu h p k).toNat hk12).mpr ⟨j, hj, by rw [e, ekn]⟩
                  rw [z5] at this
                  cases this
                · rw [tb1 (by omega) (by omega), Bool.or_eq_true, decide_eq_true_iff, S i hi]
                  refine ⟨fun w => ?_, fun ⟨j, h1, h2⟩ => ?_⟩
                  · rcases w with ⟨j, h1, h2⟩ | w
                    · exact ⟨j, by omega, h2⟩
                    · exact ⟨k, by omega, by omega⟩
                  · by_cases e : j = k
                    · rw [e] at h2
                      exact Or.inr (by omega)
                    · exact Or.inl ⟨j, by omega, h2⟩
              · rw [br_n fun w => z5 (bi.mp w)]
                refine no fun w => ?_
                obtain ⟨j, h1, h2⟩ := (S (nu h p k).toNat hk12).mp (by simpa using z5)
                rcases w.2 with y | y
                · omega
                · exact y.2.2 j h1 (by omega)
            · rw [bd_s (stay_f P z4), br_p rfl]
              refine no fun w => ?_
              rcases w.2 with y | y
              · omega
              · exact z4 ⟨by rw [nZ_t (by omega)]; omega, by rw [xk]; exact y.2.1⟩
        · rw [br_n z2]
          refine no fun w => ?_
          rcases w.2 with y | y
          · omega
          · omega
theorem c116_L {m : Hp} {p k : Nat} (hp : p < 4) (hk : k < 60) (a2 : Int32) : ∀ f j, j ≤ k → k - j < f → (∀ j', j' < j → 0 ≤ nu m p k → nu m p j' ≠ nu m p k) → ((0 ≤ nu m p k → ∀ j', j' < k → nu m p j' ≠ nu m p k) → fX12_sunday_L116 f (nZ p) a2 (nZ k) (gJ m 56 0 (60 * p + k)) (nZ j) m = some (.inr (nZ k), m)) ∧ (¬ (0 ≤ nu m p k → ∀ j', j' < k → nu m p j' ≠ nu m p k) → fX12_sunday_L116 f (nZ p) a2 (nZ k) (gJ m 56 0 (60 * p + k)) (nZ j) m = some (.inl (-4), m)) := by
  intro f
  induction f with
  | zero => intro j _ q; omega
  | succ f ih =>
    intro j hj hf K
    rw [fX12_sunday_L116]
    have en : (gJ m 56 0 (60 * p + k)).toInt = nu m p k := rfl
    simp (disch := omega) only [lb_e, nZ_le, nZ_suc, nZ_x60, nZ_add, nZ_ib, nZ_ix, i64_lt, z0J, en]
    by_cases q : j = k
    · subst q
      rw [br_p (by omega)]
      exact ⟨fun _ => rfl, fun w => absurd (fun h0 j' hj' => K j' hj' h0) w⟩
    · rw [br_n (by omega)]
      by_cases z1 : nu m p k < 0
      · rw [br_p z1]
        exact ih (j + 1) (by omega) (by omega) fun j' _ h0 => by omega
      · rw [br_n z1, gd_p (by omega)]
        have ee : (gJ m 56 0 (60 * p + j) = gJ m 56 0 (60 * p + k)) ↔ nu m p j = nu m p k := i64_eq
        by_cases z2 : nu m p j = nu m p k
        · rw [br_p (ee.mpr z2)]
          exact ⟨fun w => absurd z2 (w (by omega) j (by omega)), fun _ => rfl⟩
        · rw [br_n fun w => z2 (ee.mp w)]
          refine ih (j + 1) (by omega) (by omega) fun j' h1 h0 => ?_
          by_cases e : j' = j
          · rw [e]; exact z2
          · exact K j' (by omega) h0
theorem c41_L {m : Hp} {p n : Nat} (hp : p < 4) (hn : n ≤ 60) (hH : nH m ≤ 12) (e8 : gI m 12 0 8 = nZ (nH m)) (e55 : gI m 55 0 p = nZ n) (a2 : Int32) : ∀ f k, k ≤ n → n - k < f → (∀ j, j < k → VB m p j) → ((∀ j, j < n → VB m p j) → fX12_sunday_L41 f (nZ p) a2 (nZ k) m = some (.inr (nZ n), m)) ∧ (¬ (∀ j, j < n → VB m p j) → fX12_sunday_L41 f (nZ p) a2 (nZ k) m = some (.inl (-4), m)) := by
  intro f
  induction f with
  | zero => intro k _ q; omega
  | succ f ih =>
    intro k hk hf K
    have en : (gJ m 56 0 (60 * p + k)).toInt = nu m p k := rfl
    rw [fX12_sunday_L41]
    simp (disch := omega) only [lb_e, nZ_ix, e55, nZ_le, nZ_suc, nZ_x60, nZ_add, nZ_ib, in_0, z0J, i64_le, en, to64, e8, pre_t, m12J]
    rw [gd_p (by omega)]
    by_cases q : k = n
    · subst q
      rw [br_p (by omega)]
      exact ⟨fun _ => rfl, fun w => absurd K w⟩
    · rw [br_n (by omega), gd_p (by omega)]
      have no : ¬ VB m p k → ∀ X : Option ((Int32 ⊕ Int32) × Hp), X = some (.inl (-4), m) → ((∀ j, j < n → VB m p j) → X = some (.inr (nZ n), m)) ∧ (¬ (∀ j, j < n → VB m p j) → X = some (.inl (-4), m)) := fun z X hX => ⟨fun w => absurd (w k (by omega)) z, fun _ => hX⟩
      have go : (-12 ≤ nu m p k ∧ (nu m p k < 0 ∨ (nu m p k < nH m ∧ gI m 68 0 (nu m p k).toNat = 0))) → ((∀ j, j < n → VB m p j) → (bd (fX12_sunday_L116 FU (nZ p) a2 (nZ k) (gJ m 56 0 (60 * p + k)) 0 m) (fun u14 h11 => ms u14 (fun r15 => some (.inl r15, h11)) (fun v13 => fX12_sunday_L41 f (nZ p) a2 (nZ (k + 1)) h11))) = some (.inr (nZ n), m)) ∧ (¬ (∀ j, j < n → VB m p j) → (bd (fX12_sunday_L116 FU (nZ p) a2 (nZ k) (gJ m 56 0 (60 * p + k)) 0 m) (fun u14 h11 => ms u14 (fun r15 => some (.inl r15, h11)) (fun v13 => fX12_sunday_L41 f (nZ p) a2 (nZ (k + 1)) h11))) = some (.inl (-4), m)) := fun hv => by
        obtain ⟨d1, d2⟩ := c116_L (m := m) hp (by omega : k < 60) a2 FU 0 (by omega) (by show _ < 100000; omega) (fun j' hj' => by omega)
        by_cases z : 0 ≤ nu m p k → ∀ j', j' < k → nu m p j' ≠ nu m p k
        · rw [bd_s (show fX12_sunday_L116 FU (nZ p) a2 (nZ k) (gJ m 56 0 (60 * p + k)) 0 m = _ from d1 z), ms_r]
          refine ih (k + 1) (by omega) (by omega) fun j hj => ?_
          by_cases e : j = k
          · rw [e]
            refine ⟨hv.1, ?_⟩
            by_cases y : nu m p k < 0
            · exact Or.inl y
            · rcases hv.2 with w | w
              · omega
              · exact Or.inr ⟨w.1, w.2, z (by omega)⟩
          · exact K j (by omega)
        · rw [bd_s (show fX12_sunday_L116 FU (nZ p) a2 (nZ k) (gJ m 56 0 (60 * p + k)) 0 m = _ from d2 z), ms_l]
          refine no (fun w => z fun h0 => ?_) _ rfl
          rcases w.2 with y | y
          · omega
          · exact y.2.2
      by_cases z1 : 0 ≤ nu m p k
      · rw [br_p z1]
        by_cases z2 : 0 ≤ nu m p k ∧ nu m p k ≤ (nH m : Int) - 1
        · have et : (gJ m 56 0 (60 * p + k)).toInt32 = nZ (nu m p k).toNat := t32N (by rw [en]; omega)
          rw [br_n (not_not_intro z2), et]
          simp (disch := omega) only [nZ_ib, nZ_ix]
          rw [gd_p (by omega)]
          by_cases z3 : gI m 68 0 (nu m p k).toNat = 0
          · rw [br_p z3]
            exact go ⟨by omega, Or.inr ⟨by omega, z3⟩⟩
          · rw [br_n z3]
            refine no (fun w => ?_) _ rfl
            rcases w.2 with y | y
            · omega
            · exact z3 y.2.1
        · rw [br_p z2]
          refine no (fun w => ?_) _ rfl
          rcases w.2 with y | y
          · omega
          · have := y.1; omega
      · rw [br_n z1]
        by_cases z2 : -12 ≤ nu m p k
        · rw [br_p z2]
          exact go ⟨z2, Or.inl (by omega)⟩
        · rw [br_n z2]
          exact no (fun w => z2 w.1) _ rfl
