/-! ===== level 2: the parish: household, changed, worth ===== -/
def nH (h : Hp) : Nat := ix (gI h 12 0 8)
def RP (h : Hp) : Prop := gI h 12 0 8 = nZ (nH h) ∧ gI h 4 0 1 = nZ (nH h) ∧ nH h ≤ 12 ∧ gN h 2 = nH h ∧ (∀ i, i < nH h → gR h 35 0 i = some i ∧ gI h 2 i 0 = gI h 65 0 i ∧ gI h 2 i 1 = gI h 66 0 i ∧ gI h 2 i 2 = gI h 67 0 i ∧ gI h 2 i 3 = gI h 68 0 i ∧ (0 ≤ (gI h 65 0 i).toInt ∧ (gI h 65 0 i).toInt ≤ 99) ∧ (1 ≤ (gI h 66 0 i).toInt ∧ (gI h 66 0 i).toInt ≤ 12) ∧ (0 ≤ (gI h 67 0 i).toInt ∧ (gI h 67 0 i).toInt ≤ 9) ∧ (gI h 68 0 i = 0 ∨ gI h 68 0 i = 1)) ∧ (∀ i, nH h ≤ i → gI h 68 0 i = 0)
def fRP : List Nat := [13008, 5001, 502, 35, 3000, 3001, 3002, 3003, 65, 66, 67, 68]
theorem RP_sm {h h' : Hp} (e : Sm fRP h h') (R : RP h) : RP h' := by
  unfold RP nH at R ⊢
  simp (disch := decide) only [e.A, e.AR, e.I, e.N]
  exact R
theorem nH_sm {h h' : Hp} (e : Sm fRP h h') : nH h' = nH h := by unfold nH; rw [e.I 12 0 8 (by decide)]
theorem house4 {h : Hp} (R : RP h) (a : Int32) : (fX4_isHousehold a h = 0) ↔ ¬ (0 ≤ a.toInt ∧ a.toInt < nH h) := by
  obtain ⟨r1, r2, r3, -⟩ := R
  unfold fX4_isHousehold
  rw [br_or, r2]
  unfold br
  simp (disch := omega) only [i32_lt, i32_le, z0, nZ_t]
  by_cases q : a.toInt < 0 ∨ (nH h : Int) ≤ a.toInt
  · rw [if_pos q]
    exact iff_of_true rfl (by omega)
  · rw [if_neg q]
    exact iff_of_false (by decide) (by omega)
theorem pre_t {n : Nat} (hn : n ≤ 1000) : (nZ n - 1).toInt = (n : Int) - 1 := by rw [sub32 (by rw [nZ_t (by omega), o1]; omega) (by rw [nZ_t (by omega), o1]; omega), nZ_t (by omega), o1]
theorem house12 {h : Hp} (R : RP h) (a : Int32) : (fX12_isHouse a h = 0) ↔ ¬ (0 ≤ a.toInt ∧ a.toInt < nH h) := by
  obtain ⟨r1, r2, r3, -⟩ := R
  unfold fX12_isHouse
  rw [in_0, to64, to64, r1, pre_t (by omega), z0J]
  omega
theorem find4_t {h : Hp} (R : RP h) {i : Nat} (hi : i < nH h) : fX4_find (nZ i) h = some (some i, h) := by
  have r3 := R.2.2.1
  have r5 := (R.2.2.2.2.1 i hi).1
  unfold fX4_find
  rw [br_n (by rw [house4 R, nZ_t (by omega)]; omega), gd_p (by rw [nZ_ib (by omega)]; omega), lb_e, nZ_ix (by omega), r5]
theorem find4_f {h : Hp} (R : RP h) {a : Int32} (q : ¬ (0 ≤ a.toInt ∧ a.toInt < nH h)) : fX4_find a h = some (none, h) := by
  unfold fX4_find
  rw [br_p ((house4 R a).mpr q)]
/-- a household that is there -/
def isT (h : Hp) (a : Int32) : Prop := (0 ≤ a.toInt ∧ a.toInt < nH h) ∧ gI h 68 0 (ix a) = 0
theorem hs_ex {h : Hp} (R : RP h) {a : Int32} (q : 0 ≤ a.toInt ∧ a.toInt < nH h) : ∃ i, a = nZ i ∧ i < nH h := by
  obtain ⟨i, rfl, ei, hi⟩ := nZ_ex q.1
  exact ⟨i, rfl, by omega⟩
theorem stay_t {h : Hp} (R : RP h) {a : Int32} (q : isT h a) : fX4_isStaying a h = some (1, h) := by
  obtain ⟨i, rfl, hi⟩ := hs_ex R q.1
  have r3 := R.2.2.1
  have r5 := R.2.2.2.2.1 i hi
  have q2 := q.2
  rw [nZ_ix (by omega)] at q2
  unfold fX4_isStaying
  rw [bd_s (find4_t R hi), mt_s rfl, br_p (by rw [r5.2.2.2.2.1]; exact q2)]
theorem stay_f {h : Hp} (R : RP h) {a : Int32} (q : ¬ isT h a) : fX4_isStaying a h = some (0, h) := by
  unfold fX4_isStaying
  by_cases q1 : 0 ≤ a.toInt ∧ a.toInt < nH h
  · obtain ⟨i, rfl, hi⟩ := hs_ex R q1
    have r3 := R.2.2.1
    have r5 := R.2.2.2.2.1 i hi
    rw [bd_s (find4_t R hi), mt_s rfl, br_n]
    intro z
    refine q ⟨q1, ?_⟩
    rw [nZ_ix (by omega), ← r5.2.2.2.2.1]
    exact z
  · rw [bd_s (find4_f R q1), mt_n rfl]
theorem there_t {h : Hp} (R : RP h) {a : Int32} (q : isT h a) : fX12_isThere a h = some (1, h) := by
  obtain ⟨i, rfl, hi⟩ := hs_ex R q.1
  have r3 := R.2.2.1
  unfold fX12_isThere
  rw [br_n (fun z => (house12 R _).mp z q.1), gd_p (by rw [nZ_ib (by omega)]; omega), br_p q.2]
theorem there_f {h : Hp} (R : RP h) {a : Int32} (q : ¬ isT h a) : fX12_isThere a h = some (0, h) := by
  unfold fX12_isThere
  by_cases q1 : 0 ≤ a.toInt ∧ a.toInt < nH h
  · obtain ⟨i, rfl, hi⟩ := hs_ex R q1
    have r3 := R.2.2.1
    rw [br_n (fun z => (house12 R _).mp z q1), gd_p (by rw [nZ_ib (by omega)]; omega), br_n fun z => q ⟨q1, z⟩]
  · rw [br_p ((house12 R _).mpr q1)]
theorem n99 : (99 : Int32).toInt = 99 := by decide
theorem n12 : (12 : Int32).toInt = 12 := by decide
theorem n9i : (9 : Int32).toInt = 9 := by decide
theorem n99J : (99 : Int64).toInt = 99 := by decide
theorem n12J : (12 : Int64).toInt = 12 := by decide
theorem n9J : (9 : Int64).toInt = 9 := by decide
theorem br01 {c : Prop} [Decidable c] : (br c (0 : Int32) 1 = 0) ↔ c := by
  unfold br
  by_cases q : c
  · rw [if_pos q]; exact iff_of_true rfl q
  · rw [if_neg q]; exact iff_of_false (by decide) q
theorem told11 (a b c : Int32) (h : Hp) : (fX11_isHouseholdAsTold a b c h = 0) ↔ ¬ ((0 ≤ a.toInt ∧ a.toInt ≤ 99) ∧ (1 ≤ b.toInt ∧ b.toInt ≤ 12) ∧ (0 ≤ c.toInt ∧ c.toInt ≤ 9)) := by
  unfold fX11_isHouseholdAsTold
  simp only [br_or, br01, isWithin_0, z0, o1, n99, n12, n9i]
  omega
theorem like12 (a b c : Int32) (h : Hp) : (fX12_isLike a b c h = 0) ↔ ¬ ((0 ≤ a.toInt ∧ a.toInt ≤ 99) ∧ (1 ≤ b.toInt ∧ b.toInt ≤ 12) ∧ (0 ≤ c.toInt ∧ c.toInt ≤ 9)) := by
  unfold fX12_isLike
  simp only [br_or, br01, in_0, to64, z0J, o1J, n99J, n12J, n9J]
  omega
def w_house : List Nat := [13000, 13008, 5001, 502, 999, 35, 3000, 3001, 3002, 3003, 3004, 65, 66, 67]
theorem s_household (a1 a2 a3 : Int32) (h : Hp) (R : RP h) : Op w_house (fX11_household a1 a2 a3) (fX12_household a1 a2 a3) h (fun h3 => RP h3 ∧ (gC h3 = gC h ∧ gS h3 = gS h ∧ nH h3 = nH h ∧ (∀ i, gI h3 2 i 4 = gI h 2 i 4) ∨ gC h3 = gC h + 1 ∧ gS h3 = gS h + 5 ∧ nH h3 = nH h + 1 ∧ (∀ i, i < nH h → gI h3 2 i 4 = gI h 2 i 4) ∧ gI h3 2 (nH h) 4 = 0)) := by
  have R0 := RP_sm (thrown_sm rfl h) R
  obtain ⟨r1, r2, r3, r4, r5, r6⟩ := id R
  by_cases q : (0 ≤ a1.toInt ∧ a1.toInt ≤ 99) ∧ (1 ≤ a2.toInt ∧ a2.toInt ≤ 12) ∧ (0 ≤ a3.toInt ∧ a3.toInt ≤ 9)
  · by_cases q8 : nH h < 12
    · obtain ⟨h4, e4⟩ : ∃ y, y = sI (sR (sI (sI (sI (nw h 2 5) 2 (nH h) 0 a1) 2 (nH h) 1 a2) 2 (nH h) 2 a3) 35 0 (nH h) (some (nH h))) 4 0 1 (nZ (nH h + 1)) := ⟨_, rfl⟩
      have f4 : Fr [5001, 502, 999, 35, 3000, 3001, 3002, 3003, 3004] h h4 := by rw [e4]; exact (((((Fr_nw _ _ _ rfl).tr (Fr_I _ _ _ _ _ rfl)).tr (Fr_I _ _ _ _ _ rfl)).tr (Fr_I _ _ _ _ _ rfl)).tr (Fr_R _ _ _ _ _ rfl)).tr (Fr_I _ _ _ _ _ rfl)
      obtain ⟨h5, e5⟩ : ∃ y, y = sI (sI (sI (sI (sI h4 12 0 0 0) 65 0 (nH h) a1) 66 0 (nH h) a2) 67 0 (nH h) a3) 12 0 8 (nZ (nH h + 1)) := ⟨_, rfl⟩
      have f5 : Fr [13000, 13008, 65, 66, 67] h4 h5 := by rw [e5]; exact ((((Fr_I _ _ _ _ _ rfl).tr (Fr_I _ _ _ _ _ rfl)).tr (Fr_I _ _ _ _ _ rfl)).tr (Fr_I _ _ _ _ _ rfl)).tr (Fr_I _ _ _ _ _ rfl)
      have y8 : gI h5 12 0 8 = nZ (nH h + 1) := by rw [e5]; simp [gI_sI]
      have nH5 : nH h5 = nH h + 1 := by unfold nH; rw [y8, nZ_ix (by unfold nH at q8; omega)]; rfl
      have old : ∀ i j, i < nH h → gI h4 2 i j = gI h 2 i j := fun i j hi => by
        have : ¬ i = nH h := by omega
        rw [e4, gI_o (by decide), gI_sR, gI_r this, gI_r this, gI_r this, gI_nw, if_neg fun z => by rw [r4] at z; exact this z.2]
      refine ⟨nZ (nH h), h4, h5, ?_, ?_, f4.wk rfl, (f4.wk rfl).tr (f5.wk rfl), ?_, Or.inr ⟨?_, ?_, nH5, fun i hi => ?_, ?_⟩⟩
      · unfold fX11_household fX4_addHousehold fX2_init
        rw [br_n (by rw [told11]; exact not_not_intro q), br_p (by rw [r2, i32_lt, nZ_t (by omega), n12]; omega)]
        simp (disch := omega) only [lb_e, bd_s rfl, r4, r2, nZ_ib]
        rw [gd_p (by omega), bd_s (r := nZ (nH h)) (h := h4)]
        simp (disch := decide) only [gI_q, gI_o, gI_p, gI_sR]
        rw [gI_nwo (by decide), r2, nZ_ix (by omega), nZ_suc, ← e4, nZ_pre (by omega) (by omega)]
        rfl
      · unfold fX12_household
        simp only [lb_e, like12]
        rw [br_n (not_not_intro q)]
        simp (disch := decide) only [gI_o, gI_p, gI_q]
        have : gI h4 12 0 8 = nZ (nH h) := by rw [f4.I 12 0 8 rfl]; exact r1
        simp (disch := omega) only [this, nZ_ix, nZ_ib, nZ_suc]
        rw [br_n (by rw [i32_eq, nZ_t (by omega), n12]; omega), gd_p (by omega), gd_p (by omega), gd_p (by omega), ← e5, nZ_pre (by omega) (by omega)]
        rfl
      · unfold RP
        rw [nH5, y8]
        refine ⟨rfl, ?_, by omega, ?_, fun i hi => ?_, fun i hi => ?_⟩
        · rw [f5.I 4 0 1 rfl, e4, gI_q]
        · rw [f5.N 2 rfl, e4, gN_sI, gN_sR, gN_sI, gN_sI, gN_sI, gN_nw, if_pos rfl, r4]
        · have t65 : gI h5 65 0 i = if i = nH h then a1 else gI h 65 0 i := by rw [e5]; simp (disch := decide) only [gI_o, gI_a]; rw [f4.A 65 0 i rfl]
          have t66 : gI h5 66 0 i = if i = nH h then a2 else gI h 66 0 i := by rw [e5]; simp (disch := decide) only [gI_o, gI_a]; rw [f4.A 66 0 i rfl]
          have t67 : gI h5 67 0 i = if i = nH h then a3 else gI h 67 0 i := by rw [e5]; simp (disch := decide) only [gI_o, gI_a]; rw [f4.A 67 0 i rfl]
          have t35 : gR h5 35 0 i = if i = nH h then some (nH h) else gR h 35 0 i := by rw [f5.AR 35 0 i rfl, e4, gR_sI, gR_a, gR_sI, gR_sI, gR_sI, gR_nwo (by decide)]
          rw [t65, t66, t67, t35, f5.I 2 i 0 rfl, f5.I 2 i 1 rfl, f5.I 2 i 2 rfl, f5.I 2 i 3 rfl, f5.A 68 0 i rfl, f4.A 68 0 i rfl]
          by_cases z : i = nH h
          · rw [if_pos z, if_pos z, if_pos z, if_pos z, z, e4]
            simp (disch := decide) only [gI_q, gI_o, gI_p, gI_sR]
            rw [gI_nw, if_pos ⟨rfl, r4.symm⟩, r6 (nH h) (Nat.le_refl _)]
            exact ⟨trivial, trivial, trivial, trivial, rfl, q.1, q.2.1, q.2.2, Or.inl rfl⟩
          · rw [if_neg z, if_neg z, if_neg z, if_neg z, old i 0 (by omega), old i 1 (by omega), old i 2 (by omega), old i 3 (by omega)]
            exact r5 i (by omega)
        · rw [f5.A 68 0 i rfl, f4.A 68 0 i rfl]
          exact r6 i (by omega)
      · rw [(f5.2.2 rfl).1, e4]
        rfl
      · rw [(f5.2.2 rfl).2, e4]
        rfl
      · rw [f5.I 2 i 4 rfl]
        exact old i 4 hi
      · rw [f5.I 2 _ 4 rfl, e4]
        simp (disch := decide) only [gI_q, gI_o, gI_p, gI_sR]
        rw [gI_nw, if_pos ⟨rfl, r4.symm⟩]
    · refine Op_no rfl (r := -3) ?_ ?_ ⟨R0, Or.inl ⟨rfl, rfl, rfl, fun _ => rfl⟩⟩
      · unfold fX11_household fX4_addHousehold
        rw [br_n (by rw [told11]; exact not_not_intro q), br_n (by rw [r2, i32_lt, nZ_t (by omega), n12]; omega)]
        rfl
      · unfold fX12_household
        simp only [lb_e, like12]
        rw [br_n (not_not_intro q), gI_p (by decide), r1, br_p (by rw [i32_eq, nZ_t (by omega), n12]; omega)]
  · refine Op_no rfl (r := -2) ?_ ?_ ⟨R0, Or.inl ⟨rfl, rfl, rfl, fun _ => rfl⟩⟩
    · unfold fX11_household
      rw [br_p (by rw [told11]; exact q)]
    · unfold fX12_household
      simp only [lb_e, like12]
      rw [br_p q]
def w_changed : List Nat := [13000, 3000, 3001, 3002, 65, 66, 67]
theorem s_changed (a1 a2 a3 a4 : Int32) (h : Hp) (R : RP h) : Op w_changed (fX11_changed a1 a2 a3 a4) (fX12_changed a1 a2 a3 a4) h RP := by
  have R0 := RP_sm (thrown_sm rfl h) R
  obtain ⟨r1, r2, r3, r4, r5, r6⟩ := id R
  by_cases q1 : 0 ≤ a1.toInt ∧ a1.toInt < nH h
  · obtain ⟨i, rfl, hi⟩ := hs_ex R q1
    have r5i := r5 i hi
    have xi : ix (nZ i) = i := nZ_ix (by omega)
    by_cases q2 : gI h 68 0 i = 0
    · have t : isT (sI h 12 0 0 0) (nZ i) := ⟨q1, by rw [xi]; exact q2⟩
      by_cases q : (0 ≤ a2.toInt ∧ a2.toInt ≤ 99) ∧ (1 ≤ a3.toInt ∧ a3.toInt ≤ 12) ∧ (0 ≤ a4.toInt ∧ a4.toInt ≤ 9)
      · obtain ⟨h4, e4⟩ : ∃ y, y = sI (sI (sI h 2 i 0 a2) 2 i 1 a3) 2 i 2 a4 := ⟨_, rfl⟩
        have f4 : Fr [3000, 3001, 3002] h h4 := by rw [e4]; exact ((Fr_I _ _ _ _ _ rfl).tr (Fr_I _ _ _ _ _ rfl)).tr (Fr_I _ _ _ _ _ rfl)
        obtain ⟨h5, e5⟩ : ∃ y, y = sI (sI (sI (sI h4 12 0 0 0) 65 0 i a2) 66 0 i a3) 67 0 i a4 := ⟨_, rfl⟩
        have f5 : Fr [13000, 65, 66, 67] h4 h5 := by rw [e5]; exact (((Fr_I _ _ _ _ _ rfl).tr (Fr_I _ _ _ _ _ rfl)).tr (Fr_I _ _ _ _ _ rfl)).tr (Fr_I _ _ _ _ _ rfl)
        have nH5 : nH h5 = nH h := by unfold nH; rw [f5.I 12 0 8 rfl, f4.I 12 0 8 rfl]
        refine ⟨0, h4, h5, ?_, ?_, f4.wk rfl, (f4.wk rfl).tr (f5.wk rfl), ?_⟩
        · unfold fX11_changed
          rw [bd_s (find4_t R hi), mt_s rfl, br_p (by rw [r5i.2.2.2.2.1]; exact q2), br_n (by rw [told11]; exact not_not_intro q)]
          simp only [lb_e, ← e4]
        · unfold fX12_changed
          have t4 : fX12_isThere (nZ i) (sI h4 12 0 0 0) = some (1, sI h4 12 0 0 0) := by
            unfold fX12_isThere fX12_isHouse
            simp only [in_0, to64]
            rw [gI_p (by decide), f4.I 12 0 8 rfl, r1, pre_t (by omega), z0J, br_n (by rw [nZ_t (by omega)]; omega), gd_p (by rw [nZ_ib (by omega)]; omega), gI_o (by decide), f4.A 68 0 _ rfl, xi, br_p q2]
          simp only [lb_e, bd_s t4, like12, xi]
          rw [br_n (by decide), br_n (not_not_intro q), gd_p (by rw [nZ_ib (by omega)]; omega), gd_p (by rw [nZ_ib (by omega)]; omega), gd_p (by rw [nZ_ib (by omega)]; omega), ← e5]
        · unfold RP
          rw [nH5, f5.I 12 0 8 rfl, f5.I 4 0 1 rfl, f5.N 2 rfl, f4.I 12 0 8 rfl, f4.I 4 0 1 rfl, f4.N 2 rfl]
          refine ⟨r1, r2, r3, r4, fun j hj => ?_, fun j hj => ?_⟩
          · have r5j := r5 j hj
            have t65 : gI h5 65 0 j = if j = i then a2 else gI h 65 0 j := by rw [e5]; simp (disch := decide) only [gI_o, gI_a]; rw [f4.A 65 0 j rfl]
            have t66 : gI h5 66 0 j = if j = i then a3 else gI h 66 0 j := by rw [e5]; simp (disch := decide) only [gI_o, gI_a]; rw [f4.A 66 0 j rfl]
            have t67 : gI h5 67 0 j = if j = i then a4 else gI h 67 0 j := by rw [e5]; simp (disch := decide) only [gI_o, gI_a]; rw [f4.A 67 0 j rfl]
            rw [t65, t66, t67, f5.AR 35 0 j rfl, f4.AR 35 0 j rfl, f5.I 2 j 0 rfl, f5.I 2 j 1 rfl, f5.I 2 j 2 rfl, f5.I 2 j 3 rfl, f4.I 2 j 3 rfl, f5.A 68 0 j rfl, f4.A 68 0 j rfl]
            by_cases z : j = i
            · rw [if_pos z, if_pos z, if_pos z, z, e4]
              simp (disch := decide) only [gI_q, gI_o, gI_p]
              exact ⟨r5i.1, trivial, trivial, trivial, r5i.2.2.2.2.1, q.1, q.2.1, q.2.2, Or.inl q2⟩
            · rw [if_neg z, if_neg z, if_neg z, e4, gI_r z, gI_r z, gI_r z, gI_r z, gI_r z, gI_r z, gI_r z, gI_r z, gI_r z]
              exact r5j
          · rw [f5.A 68 0 j rfl, f4.A 68 0 j rfl]
            exact r6 j hj
      · refine Op_no rfl (r := -2) ?_ ?_ R0
        · unfold fX11_changed
          rw [bd_s (find4_t R hi), mt_s rfl, br_p (by rw [r5i.2.2.2.2.1]; exact q2), br_p (by rw [told11]; exact q)]
        · unfold fX12_changed
          simp only [lb_e, bd_s (there_t R0 t), like12]
          rw [br_n (by decide), br_p q]
    · refine Op_no rfl (r := -2) ?_ ?_ R0
      · unfold fX11_changed
        rw [bd_s (find4_t R hi), mt_s rfl, br_n (by rw [r5i.2.2.2.2.1]; exact q2)]
      · unfold fX12_changed
        rw [lb_e, bd_s (there_f R0 fun z => q2 (by have := z.2; rw [xi] at this; exact this))]
        rfl
  · refine Op_no rfl (r := -2) ?_ ?_ R0
    · unfold fX11_changed
      rw [bd_s (find4_f R q1), mt_n rfl]
    · unfold fX12_changed
      rw [lb_e, bd_s (there_f R0 fun z => q1 z.1)]
      rfl
theorem s_worth (a1 a2 a3 : Int32) (h : Hp) (R : RC h) (P : RP h) : Op [13000, 93, 94] (fX11_worth a1 a2 a3) (fX12_worth a1 a2 a3) h (fun _ => True) := by
  have R0 := RC_sm (thrown_sm rfl h) R
  have P0 := RP_sm (thrown_sm rfl h) P
  obtain ⟨r1, r2, r3, r4, r5, r6⟩ := id P
  by_cases q1 : 0 ≤ a1.toInt ∧ a1.toInt < nH h
  · obtain ⟨i, rfl, hi⟩ := hs_ex P q1
    have r5i := r5 i hi
    have xi : ix (nZ i) = i := nZ_ix (by omega)
    have hib : ib (nZ i) 12 := by rw [nZ_ib (by omega)]; omega
    by_cases q : isRn h a2 a3 (gI h 66 0 i)
    · obtain ⟨b, u, w, rfl, rfl, ew, hb, hw, hu⟩ := isRn_ex R q
      obtain ⟨r, h2, e2, k⟩ := listens_t R0
      have q0 : isRn (sI h 12 0 0 0) (nZ b) (nZ u) (gI (sI h 12 0 0 0) 66 0 i) := q
      have s2 : Sm fRC (sI h 12 0 0 0) h2 := k.1.sm rfl
      have e3 := worth12 k.2.1 k.2.2 (b := b) (u := u) (w := w) (by rw [nB_sm s2]; exact hb) (by rw [un_sm s2]; exact hu) (gI h 67 0 i)
      refine ⟨wS h (32 * b + u) w (gI h 67 0 i), h, h2, ?_, ?_, Fr.rf _ _, (Fr_I (W := [13000, 93, 94]) h 12 0 0 0 rfl).tr (k.1.wk rfl), trivial⟩
      · unfold fX11_worth
        rw [bd_s (find4_t P hi), mt_s rfl, r5i.2.2.1, bd_s (run1_t R q), br_n (by decide), r5i.2.2.1, r5i.2.2.2.1, ew]
        obtain ⟨v1, v2, v3, v4⟩ := R.v
        obtain ⟨w1, w2, w3, w4⟩ := v4 b hb
        simp (disch := omega) only [nZ_32x, nZ_add, bd_s (worth1 R hb hw hu _)]
      · unfold fX12_worth
        rw [lb_e, br_n (fun z => (house12 P0 _).mp z q1), gd_p hib, xi, bd_s (run12_t R0 q0), br_n (by decide), bd_s e2, gd_p hib, gd_p hib, k.1.A 66 0 i rfl, k.1.A 67 0 i rfl, gI_o (by decide), gI_o (by decide), ew, bd_s e3, wS_sm (k.1.sm rfl), wS_sm (thrown_sm rfl h)]
    · have q0 : ¬ isRn (sI h 12 0 0 0) a2 a3 (gI (sI h 12 0 0 0) 66 0 i) := q
      refine Op_no rfl (r := -2) ?_ ?_ trivial
      · unfold fX11_worth
        rw [bd_s (find4_t P hi), mt_s rfl, r5i.2.2.1, bd_s (run1_f R q)]
        rfl
      · unfold fX12_worth
        rw [lb_e, br_n (fun z => (house12 P0 _).mp z q1), gd_p hib, xi, bd_s (run12_f R0 q0)]
        rfl
  · refine Op_no rfl (r := -2) ?_ ?_ trivial
    · unfold fX11_worth
      rw [bd_s (find4_f P q1), mt_n rfl]
    · unfold fX12_worth
      rw [lb_e, br_p ((house12 P0 _).mpr q1)]
