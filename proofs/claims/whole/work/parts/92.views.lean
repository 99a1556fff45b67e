/-! ===== level 2: benchOf, householdOf, count ===== -/
theorem ncase {a : Int32} {k : Nat} (h : a.toInt = (k : Int)) (hk : k < 2147483648) : a = nZ k := by rw [i32_eq, nZ_t hk]; exact h
theorem owS_z {h : Hp} (b v y k : Nat) : owS (sI h 12 0 0 0) b v y k = owS h b v y k := rfl
theorem s_benchOf (a1 a2 : Int32) (h : Hp) (R : RC h) (Y : Ry h) (T : RR (nH h) (yr h) (nB h) (un h) h h) (L : RPl (nH h) h h) : Op [13000, 34, 53] (fX11_benchOf a1 a2) (fX12_benchOf a1 a2) h (fun _ => True) := by
  obtain ⟨y1, y2, y3⟩ := Y.e
  obtain ⟨v1, v2, v3, v4⟩ := R.v
  obtain ⟨hB, hu⟩ := R.u32
  by_cases q : 0 ≤ a1.toInt ∧ a1.toInt < nB h
  · obtain ⟨b, rfl, eb, hb'⟩ := nZ_ex q.1
    have hb : b < nB h := by omega
    obtain ⟨w1, w2, w3, w4⟩ := v4 b hb
    obtain ⟨r0, r1, r2, r3, r4, r5, r6, r7, r8, r9, r10, r11⟩ := R.1
    have hib : ib (nZ b) 8 := by rw [nZ_ib (by omega)]; omega
    have xb : ix (nZ b) = b := nZ_ix hb'
    have pre : fX11_benchOf (nZ b) a2 h = br (a2 = 0) (some (gI h 26 0 b, h)) (br (a2 = 1) (some (gI h 27 0 b, h)) (br (a2 = 2) (some (gI h 28 0 b, h)) (br (a2 = 3) (br ((gI h 29 0 b) = 0) (some (0, h)) (some (1, h))) (br (a2 = 4) (bd (fX11_ownedUnits (nZ b) h) (fun r5 h6 => some (r5, h6))) (br (a2 = 5) (bd (fX11_ownedUnits (nZ b) h) (fun r8 h9 => some ((gI h 28 0 b) - r8, h9))) (some ((-2), h))))))) := by
      unfold fX11_benchOf
      simp only [gd_p hib, xb]
      rw [br_n (by rw [nZ_neg hb']; exact id), br_p (by rw [v1, nZ_lt hb' (by omega)]; exact hb)]
    obtain ⟨v0, h2, e2, k2, k3⟩ := fill_t (c := h) (m := h) hB hu y3 T L
    have sm2 : Sm fRC h h2 := k2.sm rfl
    obtain ⟨x, ex⟩ := owned_L (c := h2) (b := b) (w := un h b) (by omega) w4 (by rw [k2.A 28 0 b rfl]; exact w1) FU 0 (by omega) (by show _ < 100000; omega)
    have ec : cnt (fun v => !decide (gI h2 53 0 (32 * b + v) = -1)) (un h b) = cnt (fun v => !decide (owS h b v (yr h) (yr h) = -1)) (un h b) := cnt_ext fun i hi => by
      rw [k3 (32 * b + i) (by omega), show (32 * b + i) / 32 = b by omega, show (32 * b + i) % 32 = i by omega]
    have own : fX11_ownedUnits (nZ b) h = some (nZ (cnt (fun v => !decide (owS h b v (yr h) (yr h) = -1)) (un h b)), h2) := by
      unfold fX11_ownedUnits
      rw [y2, bd_s e2, bd_s (show fX11_ownedUnits_L19 FU (nZ b) 0 0 h2 = _ from ex), ec]
      rfl
    have mod : ∀ g : Hp, Fr [34, 53] h g → fX12_benchOf (nZ b) a2 g = br (a2 = 0) (some (gI h 26 0 b, sI g 12 0 0 0)) (br (a2 = 1) (some (gI h 27 0 b, sI g 12 0 0 0)) (br (a2 = 2) (some (gI h 28 0 b, sI g 12 0 0 0)) (br (a2 = 3) (br ((gI h 29 0 b) = 0) (some (0, sI g 12 0 0 0)) (some (1, sI g 12 0 0 0))) (br (a2 = 4) (some (nZ (cnt (fun v => !decide (owS h b v (yr h) (yr h) = -1)) (un h b)), sI g 12 0 0 0)) (br (a2 = 5) (some ((gI h 28 0 b) - nZ (cnt (fun v => !decide (owS h b v (yr h) (yr h) = -1)) (un h b)), sI g 12 0 0 0)) (some ((-2), sI g 12 0 0 0))))))) := by
      intro g fg
      have f1 : Fr [13000, 34, 53] h (sI g 12 0 0 0) := (fg.wk rfl).tr (Fr_I _ _ _ _ _ rfl)
      have Tg : RR (nH h) (yr h) (nB h) (un h) (sI g 12 0 0 0) (sI g 12 0 0 0) := RR_m (f1.sm rfl) (RR_c (f1.sm rfl) T)
      have eo : ∀ v, owS (sI g 12 0 0 0) b v (yr h) (yr h) = owS h b v (yr h) (yr h) := fun v => by
        have a1 : PR (sI g 12 0 0 0) b v (yr h) (yr h) (fun _ => true) = PR h b v (yr h) (yr h) (fun _ => true) := by
          funext r
          unfold PR onU act toY hol
          simp (disch := decide) only [f1.A]
        have a2 : btr (sI g 12 0 0 0) = btr h := by
          funext r q
          unfold btr
          simp (disch := decide) only [f1.A]
        have a3 : nR (sI g 12 0 0 0) = nR h := nR_sm (f1.sm rfl)
        have a4 : ∀ r, hol (sI g 12 0 0 0) r (yr h) = hol h r (yr h) := fun r => by
          unfold hol
          simp (disch := decide) only [f1.A]
        unfold owS
        rw [a1, a2, a3]
        simp only [a4]
      obtain ⟨x, ex⟩ := bench_L Tg hB hu (b := b) (w := un h b) (y := yr h) a2 (by omega) w4 y3 (by rw [f1.A 63 0 b rfl]; exact w2) (by rw [f1.I 12 0 5 rfl]; exact y1) FU 0 (by omega) (by show _ < 100000; omega)
      simp only [eo] at ex
      unfold fX12_benchOf fX12_isBench
      rw [lb_e, br_n (by rw [in_0, to64, to64, f1.I 12 0 7 rfl, v2, pre_t (by omega), z0J, nZ_t hb']; omega), bd_s (show fX12_benchOf_L21 FU (nZ b) a2 0 0 (sI g 12 0 0 0) = _ from ex)]
      simp only [lb_e, gd_p hib, xb, f1.A 61 0 b rfl, f1.A 62 0 b rfl, f1.A 63 0 b rfl, f1.A 64 0 b rfl, r8, r9, r10, r11]
    have f0 : Fr [34, 53] h h := Fr.rf _ _
    by_cases c45 : a2 = 4 ∨ a2 = 5
    · have m2 := mod h2 k2
      have n0 : ¬ a2 = 0 := by rcases c45 with z | z <;> rw [z] <;> decide
      have n1' : ¬ a2 = 1 := by rcases c45 with z | z <;> rw [z] <;> decide
      have n2' : ¬ a2 = 2 := by rcases c45 with z | z <;> rw [z] <;> decide
      have n3' : ¬ a2 = 3 := by rcases c45 with z | z <;> rw [z] <;> decide
      rw [br_n n0, br_n n1', br_n n2', br_n n3'] at m2 pre
      rw [own] at pre
      have fr3 : Fr [13000, 34, 53] h (sI h2 12 0 0 0) := (k2.wk rfl).tr (Fr_I _ _ _ _ _ rfl)
      rcases c45 with z | z
      · rw [br_p z] at m2 pre
        exact ⟨_, h2, _, pre, m2, k2.wk rfl, fr3, trivial⟩
      · rw [br_n (by rw [z]; decide), br_p z] at m2 pre
        exact ⟨_, h2, _, pre, m2, k2.wk rfl, fr3, trivial⟩
    · refine Op_ro rfl ?_ trivial
      rw [pre, mod h f0, br_n (fun z => c45 (Or.inl z)), br_n (fun z => c45 (Or.inr z)), br_n (fun z => c45 (Or.inl z)), br_n (fun z => c45 (Or.inr z))]
      unfold br
      repeat' split
      all_goals exact ⟨_, rfl, rfl⟩
  · refine Op_no rfl (r := -2) ?_ ?_ trivial
    · unfold fX11_benchOf
      rw [v1]
      by_cases z : a1 < 0
      · rw [br_p z]
      · rw [br_n z, br_n]
        rw [i32_lt, z0] at z
        rw [i32_lt, nZ_t (by omega)]
        omega
    · unfold fX12_benchOf fX12_isBench
      rw [lb_e, br_p]
      rw [in_0, to64, to64, gI_p (by decide), v2, pre_t (by omega), z0J]
      omega
def RYs (h : Hp) : Prop := ∀ i, i < nH h → gI h 2 i 4 = nZ (cnt (fun y => !decide (gI h 88 0 (200 * i + y) = -1)) (yr h))
theorem held_L {H : Nat} {yy : Int} {B : Nat} {u : Nat → Nat} {c m : Hp} (T : RR H yy B u c m) (L : RPl H c m) {y i : Nat} (hy : y ≤ 199) (hi : i < 12) : ∀ n j, j ≤ nR m → nR m - j < n → ∃ w, fX3_heldBy_L5 n (nZ i) (nZ y) (nZ (cnt (fun r => decide (wh m r y y = nZ i)) j)) (nZ j) c = some ((nZ (cnt (fun r => decide (wh m r y y = nZ i)) (nR m)), w), c) := by
  have T' := T
  obtain ⟨r1, r2, r3, r4, r5⟩ := T'
  intro n
  induction n with
  | zero => intro j _ q; omega
  | succ n ih =>
    intro j hj hn
    rw [fX3_heldBy_L5, r2]
    simp (disch := omega) only [lb_e, nZ_le, nZ_suc, nZ_ib, nZ_ix]
    by_cases q : j = nR m
    · subst q
      rw [br_p (by omega)]
      exact ⟨_, rfl⟩
    · have hj' : j < nR m := by omega
      have nx := ih (j + 1) (by omega) (by omega)
      rw [br_n (by omega), bd_s (find3_t T hj'), mt_s rfl]
      have ne : ¬ (-1 : Int32) = nZ i := fun z => (m1_nZ (by omega)).mp z
      by_cases q2 : act m j y y = true
      · rw [br_n (fun z => by have := (isFor5 T hj' hy hy).mp z; rw [q2] at this; cases this), bd_s (holder_t T L hj' hy)]
        by_cases q3 : hol m j y = nZ i
        · rw [br_p q3]
          rw [cnt_t (by unfold wh; simp [q2, q3])] at nx
          exact nx
        · rw [br_n q3]
          rw [cnt_f (by unfold wh; simp [q2, q3])] at nx
          exact nx
      · rw [br_p ((isFor5 T hj' hy hy).mpr (by simpa using q2))]
        rw [cnt_f (by unfold wh; simp only [q2]; simpa using ne)] at nx
        exact nx
theorem held12_L {H : Nat} {yy : Int} {B : Nat} {u : Nat → Nat} {c m : Hp} (T : RR H yy B u c m) {y i : Nat} (hy : y ≤ 199) (ey : gI m 12 0 5 = nZ y) : ∀ n j, j ≤ nR m → nR m - j < n → ∃ w, fX12_householdOf_L140 n (nZ i) (nZ (cnt (fun r => decide (wh m r y y = nZ i)) j)) (nZ j) m = some ((nZ (cnt (fun r => decide (wh m r y y = nZ i)) (nR m)), w), m) := by
  have T' := T
  obtain ⟨r1, r2, r3, r4, r5⟩ := T'
  intro n
  induction n with
  | zero => intro j _ q; omega
  | succ n ih =>
    intro j hj hn
    rw [fX12_householdOf_L140, r1]
    simp (disch := omega) only [lb_e, nZ_le, nZ_suc, nZ_p0, ey]
    by_cases q : j = nR m
    · subst q
      rw [br_p (by omega)]
      exact ⟨_, rfl⟩
    · have hj' : j < nR m := by omega
      have nx := ih (j + 1) (by omega) (by omega)
      rw [br_n (by omega), bd_s (whose_t T hj' hy hy)]
      by_cases q3 : wh m j y y = nZ i
      · rw [br_p q3]
        rw [cnt_t (by simp [q3])] at nx
        exact nx
      · rw [br_n q3]
        rw [cnt_f (by simp [q3])] at nx
        exact nx
theorem sat12_L {m : Hp} {y i : Nat} (hi : i < 12) (hy : y ≤ 199) (ey : gI m 12 0 5 = nZ y) : ∀ n j, j ≤ y → y - j < n → ∃ w, fX12_householdOf_L95 n (nZ i) (nZ (cnt (fun y => !decide (gI m 88 0 (200 * i + y) = -1)) j)) (nZ j) m = some ((nZ (cnt (fun y => !decide (gI m 88 0 (200 * i + y) = -1)) y), w), m) := by
  intro n
  induction n with
  | zero => intro j _ q; omega
  | succ n ih =>
    intro j hj hn
    rw [fX12_householdOf_L95]
    simp (disch := omega) only [lb_e, ey, nZ_x200, nZ_add, nZ_le, nZ_suc, nZ_p0, nZ_ib, nZ_ix]
    by_cases q : j = y
    · subst q
      rw [br_p (by omega)]
      exact ⟨_, rfl⟩
    · have nx := ih (j + 1) (by omega) (by omega)
      rw [br_n (by omega), gd_p (by omega)]
      by_cases z : gI m 88 0 (200 * i + j) = -1
      · rw [br_p z]
        rw [cnt_f (by simp [z])] at nx
        exact nx
      · rw [br_n z]
        rw [cnt_t (by simp [z])] at nx
        exact nx
theorem s_householdOf (a1 a2 : Int32) (h : Hp) (P : RP h) (Y : Ry h) (T : RR (nH h) (yr h) (nB h) (un h) h h) (L : RPl (nH h) h h) (S : RYs h) : Op [13000] (fX11_householdOf a1 a2) (fX12_householdOf a1 a2) h (fun _ => True) := by
  obtain ⟨y1, y2, y3⟩ := Y.e
  have P0 := RP_sm (thrown_sm rfl h) P
  have T0 : RR (nH h) (yr h) (nB h) (un h) (sI h 12 0 0 0) (sI h 12 0 0 0) := RR_m (thrown_sm rfl h) (RR_c (thrown_sm rfl h) T)
  obtain ⟨r1, r2, r3, r4, r5, r6⟩ := id P
  refine Op_ro rfl ?_ trivial
  by_cases q : 0 ≤ a1.toInt ∧ a1.toInt < nH h
  · obtain ⟨i, rfl, hi⟩ := hs_ex P q
    obtain ⟨b1, b2, b3, b4, b5, -⟩ := r5 i hi
    have r3' := T.2.2.1
    have hib : ib (nZ i) 12 := by rw [nZ_ib (by omega)]; omega
    obtain ⟨x1, e1⟩ := held_L T L (i := i) y3 (by omega) FU 0 (by omega) (by show _ < 100000; omega)
    obtain ⟨x2, e2⟩ := held12_L T0 (i := i) (y := yr h) y3 y1 FU 0 (by omega) (by show nR h - 0 < 100000; omega)
    obtain ⟨x3, e3⟩ := sat12_L (m := sI h 12 0 0 0) (i := i) (by omega) y3 y1 FU 0 (by omega) (by show _ < 100000; omega)
    have eh : fX3_heldBy (nZ i) (nZ (yr h)) h = some (nZ (cnt (fun r => decide (wh h r (yr h) (yr h) = nZ i)) (nR h)), h) := by
      unfold fX3_heldBy
      rw [bd_s (show fX3_heldBy_L5 FU (nZ i) (nZ (yr h)) 0 0 h = _ from e1)]
      rfl
    have hA : fX11_householdOf (nZ i) a2 h = br (a2 = 0) (some (gI h 65 0 i, h)) (br (a2 = 1) (some (gI h 66 0 i, h)) (br (a2 = 2) (some (gI h 67 0 i, h)) (br (a2 = 3) (br (gI h 68 0 i = 0) (some (0, h)) (some (1, h))) (br (a2 = 4) (some (nZ (cnt (fun y => !decide (gI h 88 0 (200 * i + y) = -1)) (yr h)), h)) (br (a2 = 5) (some (nZ (cnt (fun r => decide (wh h r (yr h) (yr h) = nZ i)) (nR h)), h)) (some (-2, h))))))) := by
      unfold fX11_householdOf
      rw [bd_s (find4_t P hi), mt_s rfl, b2, b3, b4, b5, S i hi, y2, bd_s eh]
    have hM : fX12_householdOf (nZ i) a2 h = br (a2 = 0) (some (gI h 65 0 i, sI h 12 0 0 0)) (br (a2 = 1) (some (gI h 66 0 i, sI h 12 0 0 0)) (br (a2 = 2) (some (gI h 67 0 i, sI h 12 0 0 0)) (br (a2 = 3) (br (gI h 68 0 i = 0) (some (0, sI h 12 0 0 0)) (some (1, sI h 12 0 0 0))) (br (a2 = 4) (some (nZ (cnt (fun y => !decide (gI h 88 0 (200 * i + y) = -1)) (yr h)), sI h 12 0 0 0)) (br (a2 = 5) (some (nZ (cnt (fun r => decide (wh h r (yr h) (yr h) = nZ i)) (nR h)), sI h 12 0 0 0)) (some (-2, sI h 12 0 0 0))))))) := by
      unfold fX12_householdOf
      rw [lb_e, br_n (fun z => (house12 P0 _).mp z q), bd_s (show fX12_householdOf_L95 FU (nZ i) 0 0 (sI h 12 0 0 0) = _ from e3), bd_s (show fX12_householdOf_L140 FU (nZ i) 0 0 (sI h 12 0 0 0) = _ from e2)]
      simp only [gd_p hib, nZ_ix (by omega : i < 2147483648), lb_e]
      rfl
    rw [hA, hM]
    unfold br
    repeat' split
    all_goals exact ⟨_, rfl, rfl⟩
  · refine ⟨-2, ?_, ?_⟩
    · unfold fX11_householdOf
      rw [bd_s (find4_f P q), mt_n rfl]
    · unfold fX12_householdOf
      rw [lb_e, br_p ((house12 P0 _).mpr q)]
theorem filled_L {h : Hp} (R : Rr h) : ∀ n j, j ≤ 4 → 4 - j < n → ∃ w, fX7_filled_L4 n (nZ (cnt (fun p => decide (0 ≤ gI h 54 0 p)) j)) (nZ j) h = some ((nZ (cnt (fun p => decide (0 ≤ gI h 54 0 p)) 4), w), h) := by
  intro n
  induction n with
  | zero => intro j _ q; omega
  | succ n ih =>
    intro j hj hn
    rw [fX7_filled_L4]
    simp (disch := omega) only [lb_e, nZ_suc, nZ_p0]
    have e4 : ((4 : Int32) ≤ nZ j) ↔ 4 ≤ j := nZ_le (a := 4) (by decide) (by omega)
    by_cases q : j = 4
    · subst q
      rw [br_p (e4.mpr (by omega))]
      exact ⟨_, rfl⟩
    · have nx := ih (j + 1) (by omega) (by omega)
      have qj : 0 ≤ (nZ j).toInt ∧ (nZ j).toInt ≤ 3 := by rw [nZ_t (by omega)]; omega
      rw [br_n (fun z => by have := e4.mp z; omega), bd_s (filled7 qj h)]
      have cs := R.cs qj
      rw [nZ_ix (by omega)] at cs ⊢
      rcases cs with ⟨z1, z2⟩ | ⟨z1, z2, -⟩
      · rw [if_pos z1, br_p rfl]
        rw [cnt_f (by simp [z2])] at nx
        exact nx
      · rw [if_neg z1, br_n (by decide)]
        rw [cnt_t (by simp [z2])] at nx
        exact nx
theorem filled12_L {h : Hp} : ∀ n j, j ≤ 4 → 4 - j < n → ∃ w, fX12_count_L97 n (nZ (cnt (fun p => decide (0 ≤ gI h 54 0 p)) j)) (nZ j) h = some ((nZ (cnt (fun p => decide (0 ≤ gI h 54 0 p)) 4), w), h) := by
  intro n
  induction n with
  | zero => intro j _ q; omega
  | succ n ih =>
    intro j hj hn
    rw [fX12_count_L97]
    have e4 : ((4 : Int32) ≤ nZ j) ↔ 4 ≤ j := nZ_le (a := 4) (by decide) (by omega)
    simp (disch := omega) only [lb_e, nZ_suc, nZ_p0, nZ_ib, nZ_ix]
    by_cases q : j = 4
    · subst q
      rw [br_p (e4.mpr (by omega))]
      exact ⟨_, rfl⟩
    · have nx := ih (j + 1) (by omega) (by omega)
      rw [br_n (fun z => by have := e4.mp z; omega), gd_p (by omega)]
      by_cases z : gI h 54 0 j < 0
      · rw [br_p z]
        rw [cnt_f (by simp only [decide_eq_true_iff, i32_le]; rw [i32_lt] at z; omega)] at nx
        exact nx
      · rw [br_n z]
        rw [cnt_t (by simp only [decide_eq_true_iff, i32_le]; rw [i32_lt] at z; omega)] at nx
        exact nx
theorem stay_L {h : Hp} (P : RP h) : ∀ n j, j ≤ nH h → nH h - j < n → ∃ w, fX4_staying_L4 n (nZ (cnt (fun p => decide (gI h 68 0 p = 0)) j)) (nZ j) h = some ((nZ (cnt (fun p => decide (gI h 68 0 p = 0)) (nH h)), w), h) := by
  obtain ⟨r1, r2, r3, r4, r5, r6⟩ := id P
  intro n
  induction n with
  | zero => intro j _ q; omega
  | succ n ih =>
    intro j hj hn
    rw [fX4_staying_L4]
    simp (disch := omega) only [lb_e, r2, nZ_le, nZ_suc, nZ_p0]
    by_cases q : j = nH h
    · subst q
      rw [br_p (by omega)]
      exact ⟨_, rfl⟩
    · have nx := ih (j + 1) (by omega) (by omega)
      rw [br_n (by omega)]
      have xj : ix (nZ j) = j := nZ_ix (by omega)
      by_cases z : gI h 68 0 j = 0
      · rw [bd_s (stay_t P (a := nZ j) ⟨by rw [nZ_t (by omega)]; omega, by rw [xj]; exact z⟩), br_n (by decide)]
        rw [cnt_t (by simp [z])] at nx
        exact nx
      · rw [bd_s (stay_f P (a := nZ j) fun w => z (by have := w.2; rw [xj] at this; exact this)), br_p rfl]
        rw [cnt_f (by simp [z])] at nx
        exact nx
theorem stay12_L {h : Hp} (P : RP h) : ∀ n j, j ≤ nH h → nH h - j < n → ∃ w, fX12_count_L129 n (nZ (cnt (fun p => decide (gI h 68 0 p = 0)) j)) (nZ j) h = some ((nZ (cnt (fun p => decide (gI h 68 0 p = 0)) (nH h)), w), h) := by
  obtain ⟨r1, r2, r3, r4, r5, r6⟩ := id P
  intro n
  induction n with
  | zero => intro j _ q; omega
  | succ n ih =>
    intro j hj hn
    rw [fX12_count_L129]
    simp (disch := omega) only [lb_e, r1, nZ_le, nZ_suc, nZ_p0, nZ_ib, nZ_ix]
    by_cases q : j = nH h
    · subst q
      rw [br_p (by omega)]
      exact ⟨_, rfl⟩
    · have nx := ih (j + 1) (by omega) (by omega)
      rw [br_n (by omega), gd_p (by omega)]
      by_cases z : gI h 68 0 j = 0
      · rw [br_p z]
        rw [cnt_t (by simp [z])] at nx
        exact nx
      · rw [br_n z]
        rw [cnt_f (by simp [z])] at nx
        exact nx
theorem s_count (a1 : Int32) (h : Hp) (R : RC h) (P : RP h) (Y : Ry h) (T : RR (nH h) (yr h) (nB h) (un h) h h) (W : Rr h) (S : Rs h) (A : gI h 0 0 0 = gI h 12 0 10) : Op [13000] (fX11_count a1) (fX12_count a1) h (fun _ => True) := by
  have P0 := RP_sm (thrown_sm rfl h) P
  have r3 := P.2.2.1
  refine Op_ro rfl ?_ trivial
  obtain ⟨x1, e1⟩ := filled_L W FU 0 (by omega) (by show _ < 100000; omega)
  obtain ⟨x2, e2⟩ := filled12_L (h := sI h 12 0 0 0) FU 0 (by omega) (by show _ < 100000; omega)
  obtain ⟨x3, e3⟩ := stay_L P FU 0 (by omega) (by show _ < 100000; omega)
  obtain ⟨x4, e4⟩ := stay12_L P0 FU 0 (by omega) (by show nH h - 0 < 100000; omega)
  have f1 : fX7_filled h = some (nZ (cnt (fun p => decide (0 ≤ gI h 54 0 p)) 4), h) := by
    unfold fX7_filled
    rw [bd_s (show fX7_filled_L4 FU 0 0 h = _ from e1)]
    rfl
  have f3 : fX4_staying h = some (nZ (cnt (fun p => decide (gI h 68 0 p = 0)) (nH h)), h) := by
    unfold fX4_staying
    rw [bd_s (show fX4_staying_L4 FU 0 0 h = _ from e3)]
    rfl
  unfold fX11_count fX12_count
  rw [lb_e, bd_s f1, bd_s f3, bd_s (show fX12_count_L97 FU 0 0 (sI h 12 0 0 0) = _ from e2), bd_s (show fX12_count_L129 FU 0 0 (sI h 12 0 0 0) = _ from e4)]
  simp (disch := decide) only [gI_p, gI_o, lb_e]
  rw [Y.1, R.1.2.2.2.1, R.1.2.2.2.2.1, P.1, P.2.1, T.1, T.2.1, A, S.1]
  unfold br
  repeat' split
  all_goals exact ⟨_, rfl, rfl⟩
