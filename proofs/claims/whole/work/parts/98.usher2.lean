/-! ===== level 2: worth is bounded; free runs, the best run, who takes one (model) ===== -/
theorem hr_b {h : Hp} (R : RC h) {b u : Nat} (hb : b < nB h) (hu : u < un h b) : 0 ≤ (gI h 30 0 (32 * b + u)).toInt ∧ (gI h 30 0 (32 * b + u)).toInt ≤ 10000 := by
  obtain ⟨v1, v2, v3, v4⟩ := R.v
  obtain ⟨w1, w2, w3, w4⟩ := v4 b hb
  obtain ⟨R1, C, K⟩ := R
  have k := K b u (by rw [v1, nZ_t (by omega)]; omega) (by rw [w1, nZ_t (by omega)]; omega)
  obtain ⟨C1, C2, C3, C4, C5, C6, C7⟩ := id C
  obtain ⟨B1, B2, B3, B4⟩ := C7 b (by rw [v1, nZ_t (by omega)]; omega)
  have eu : (Int32.ofNat u).toInt = (u : Int) := nZ_t (by omega)
  have e28 : (gI h 28 0 b).toInt = (un h b : Int) := by rw [w1, nZ_t (by omega)]
  have ex : (gI h 26 0 b + Int32.ofNat u).toInt = (gI h 26 0 b).toInt + u := by rw [add32 (by omega) (by omega), eu]
  have iwb : 0 ≤ (iw1 h b (Int32.ofNat u)).toInt ∧ (iw1 h b (Int32.ofNat u)).toInt ≤ 8 := by
    have := iwn_b (F := F1 h (gI h 26 0 b + Int32.ofNat u) (gI h 27 0 b)) (fun p => iwp_z _ _ _ _ _ _ _) (ix (gI h 1 0 3)) (by unfold ix; omega)
    unfold iw1
    have e3 : ((ix (gI h 1 0 3) : Nat) : Int) = (gI h 1 0 3).toInt := by unfold ix; omega
    omega
  rw [k.2]
  unfold he1
  exact hev_b C3 C1 C2 (by omega) B2 iwb
theorem wA_b {h : Hp} (R : RC h) {b u : Nat} (hb : b < nB h) : ∀ n, u + n ≤ un h b → 0 ≤ (wA h (32 * b + u) n).toInt ∧ (wA h (32 * b + u) n).toInt ≤ 10001 * n ∧ 0 ≤ (wM h (32 * b + u) n).toInt ∧ (wM h (32 * b + u) n).toInt ≤ 10000 := by
  have un32 := ((R.v).2.2.2 b hb).2.2.2
  intro n
  induction n with
  | zero =>
    intro _
    rw [wA, wM, z0]
    omega
  | succ n ih =>
    intro hn
    obtain ⟨i1, i2, i3, i4⟩ := ih (by omega)
    have k := hr_b R hb (u := u + n) (by omega)
    rw [show 32 * b + (u + n) = 32 * b + u + n by omega] at k
    have es : 0 ≤ (se h (32 * b + u + n)).toInt ∧ (se h (32 * b + u + n)).toInt ≤ 1 := by
      unfold se
      split
      · exact ⟨by decide, by decide⟩
      · exact ⟨by decide, by decide⟩
    have e1 : (gI h 30 0 (32 * b + u + n) + se h (32 * b + u + n)).toInt = (gI h 30 0 (32 * b + u + n)).toInt + (se h (32 * b + u + n)).toInt := add32 (by omega) (by omega)
    have e2 : (wA h (32 * b + u) n + (gI h 30 0 (32 * b + u + n) + se h (32 * b + u + n))).toInt = (wA h (32 * b + u) n).toInt + ((gI h 30 0 (32 * b + u + n)).toInt + (se h (32 * b + u + n)).toInt) := by rw [add32 (by rw [e1]; omega) (by rw [e1]; omega), e1]
    rw [wA, wM, e2]
    refine ⟨by omega, by omega, ?_, ?_⟩
    · unfold mxI
      split <;> omega
    · unfold mxI
      split <;> omega
theorem wS_b {h : Hp} (R : RC h) {b u n : Nat} {d : Int32} (hb : b < nB h) (hn : u + n ≤ un h b) (hd : 0 ≤ d.toInt ∧ d.toInt ≤ 9) : 0 ≤ (wS h (32 * b + u) n d).toInt ∧ (wS h (32 * b + u) n d).toInt ≤ 500000 := by
  have un32 := ((R.v).2.2.2 b hb).2.2.2
  obtain ⟨i1, i2, i3, i4⟩ := wA_b R hb n hn
  have m := mul_b (a := d.toInt) (b := (wM h (32 * b + u) n).toInt) (k := 9) (l := 10000) (by omega) (by omega) (by omega) (by omega)
  have p := Int.mul_nonneg hd.1 i3
  have e1 : (d * wM h (32 * b + u) n).toInt = d.toInt * (wM h (32 * b + u) n).toInt := mul32 (by omega) (by omega)
  unfold wS
  rw [add32 (by rw [e1]; omega) (by rw [e1]; omega), e1]
  omega
theorem wS_c {h : Hp} (R : RC h) {fr : Nat → Bool} {s n : Nat} {d : Int32} (hr : runP h fr n s) (hd : 0 ≤ d.toInt ∧ d.toInt ≤ 9) : 0 ≤ (wS h s n d).toInt ∧ (wS h s n d).toInt ≤ 500000 := by
  have := wS_b R hr.1 hr.2.1 hd
  rw [show 32 * (s / 32) + s % 32 = s by omega] at this
  exact this
def frM (m : Hp) (x : Int32) (s : Nat) : Bool := decide (gI m 106 0 s = 0 ∧ gI m 105 0 s = x)
theorem free_L {m : Hp} {b u w : Nat} {x : Int32} (hs : 32 * b + u + w ≤ 256) : ∀ n j, j ≤ w → w - j < n → (∀ k, k < j → frM m x (32 * b + u + k) = true) → ∃ r, bd (fX12_isFree_L3 n (nZ b) (nZ u) (nZ w) x (nZ (u + j)) m) (fun u7 h4 => ms u7 (fun r8 => some (r8, h4)) (fun v6 => some ((1 : Int32), h4))) = some (r, m) ∧ (r = 0 ↔ ¬ ∀ k, k < w → frM m x (32 * b + u + k) = true) := by
  intro n
  induction n with
  | zero => intro j _ q; omega
  | succ n ih =>
    intro j hj hn K
    rw [fX12_isFree_L3]
    simp (disch := omega) only [lb_e, nZ_suc, nZ_x32, nZ_add, nZ_le, nZ_ib, nZ_ix]
    by_cases q : j = w
    · subst q
      rw [br_p (by omega)]
      exact ⟨1, rfl, iff_of_false (by decide) (not_not_intro K)⟩
    · rw [br_n (by omega)]
      simp only [gd_p (by omega : 32 * b + (u + j) < 256)]
      have bad : frM m x (32 * b + u + j) ≠ true → ¬ ∀ k, k < w → frM m x (32 * b + u + k) = true := fun z y => z (y j (by omega))
      rw [show 32 * b + (u + j) = 32 * b + u + j by omega]
      by_cases z1 : gI m 106 0 (32 * b + u + j) = 0
      · rw [br_p z1]
        by_cases z2 : gI m 105 0 (32 * b + u + j) = x
        · rw [br_p z2]
          refine ih (j + 1) (by omega) (by omega) fun k hk => ?_
          by_cases y : k = j
          · rw [y]
            exact decide_eq_true ⟨z1, z2⟩
          · exact K k (by omega)
        · rw [br_n z2]
          exact ⟨0, rfl, iff_of_true rfl (bad fun y => z2 (of_decide_eq_true y).2)⟩
      · rw [br_n z1]
        exact ⟨0, rfl, iff_of_true rfl (bad fun y => z1 (of_decide_eq_true y).1)⟩
theorem free_t {m : Hp} {b u w : Nat} {x : Int32} (hs : 32 * b + u + w ≤ 256) : ∃ r, fX12_isFree (nZ b) (nZ u) (nZ w) x m = some (r, m) ∧ (r = 0 ↔ ¬ ∀ k, k < w → frM m x (32 * b + u + k) = true) := by
  unfold fX12_isFree
  exact free_L hs FU 0 (by omega) (by show _ < 100000; omega) fun k hk => by omega
/-- the parish as the model has it -/
def wd (m : Hp) (i : Nat) : Nat := ix (gI m 66 0 i)
def rkN (m : Hp) (i : Nat) : Nat := ix (gI m 65 0 i)
theorem RP.w {h : Hp} (P : RP h) {i : Nat} (hi : i < nH h) : gI h 66 0 i = nZ (wd h i) ∧ 1 ≤ wd h i ∧ wd h i ≤ 12 ∧ gI h 65 0 i = nZ (rkN h i) ∧ rkN h i ≤ 99 ∧ (0 ≤ (gI h 67 0 i).toInt ∧ (gI h 67 0 i).toInt ≤ 9) ∧ gI h 2 i 0 = nZ (rkN h i) ∧ gI h 2 i 1 = nZ (wd h i) ∧ gI h 2 i 2 = gI h 67 0 i := by
  obtain ⟨b1, b2, b3, b4, b5, b6, b7, b8, b9⟩ := P.2.2.2.2.1 i hi
  have e1 : gI h 66 0 i = nZ (wd h i) := nZ_of (by omega)
  have e2 : gI h 65 0 i = nZ (rkN h i) := nZ_of (by omega)
  exact ⟨e1, by unfold wd ix; omega, by unfold wd ix; omega, e2, by unfold rkN ix; omega, b8, by rw [b2]; exact e2, by rw [b3]; exact e1, b4⟩
/-- the model's found and most, and what the best so far is -/
def relB (S : Int32 × Int32) (a2 a3 : Int32) : Prop := a2 = S.1 ∧ (a2 ≠ m1 → a3 = S.2) ∧ (S.1 = m1 → S.2 = m1)
theorem relB_step {Q : Nat → Bool} {V : Nat → Int32} {n : Nat} {a2 a3 : Int32} (h : relB (bst Q V n) a2 a3) (hQ : Q n = true) (hV : 0 ≤ (V n).toInt) (hn : n < 2147483648) : ((a2 = -1 ∨ a3 < V n) → relB (bst Q V (n + 1)) (nZ n) (V n)) ∧ (¬ (a2 = -1 ∨ a3 < V n) → relB (bst Q V (n + 1)) a2 a3) := by
  obtain ⟨h1, h2, h3⟩ := h
  refine ⟨fun z => ?_, fun z => ?_⟩
  · have lt : (bst Q V n).2 < V n := by
      by_cases w : a2 = m1
      · rw [h3 (by rw [← h1]; exact w), i32_lt, m1_t]
        omega
      · rcases z with z | z
        · exact absurd z w
        · rw [← h2 w]
          exact z
    rw [bst, if_pos ⟨hQ, lt⟩]
    exact ⟨rfl, fun _ => rfl, fun w => absurd w fun y => (nZ_m1 hn).mp y⟩
  · have w : a2 ≠ m1 := fun y => z (Or.inl y)
    rw [bst, if_neg fun y => z (Or.inr (by rw [h2 w]; exact y.2))]
    exact ⟨h1, h2, h3⟩
theorem bst_skip {Q : Nat → Bool} {V : Nat → Int32} {a : Nat} : ∀ k, (∀ s, a ≤ s → s < a + k → Q s = false) → bst Q V (a + k) = bst Q V a := by
  intro k
  induction k with
  | zero => intro _; rfl
  | succ k ih =>
    intro h
    rw [show a + (k + 1) = a + k + 1 by omega, bst_n (h (a + k) (by omega) (by omega))]
    exact ih fun s h1 h2 => h s h1 (by omega)
theorem by19_L {m : Hp} (R : RC m) (P : RP m) (T : LT m) {i b : Nat} (hi : i < nH m) (hb : b < nB m) : ∀ n j a2 a3, j ≤ 32 → 32 - j < n → relB (bst (QB m (frM m (nZ i)) (wd m i) 1) (fun s => wS m s (wd m i) (gI m 67 0 i)) (32 * b + j)) a2 a3 → ∃ a2' a3' x, fX12_byRights_L19 n (nZ i) a2 a3 (nZ b) (nZ j) m = some ((a2', a3', x), m) ∧ relB (bst (QB m (frM m (nZ i)) (wd m i) 1) (fun s => wS m s (wd m i) (gI m 67 0 i)) (32 * b + 32)) a2' a3' := by
  obtain ⟨v1, v2, v3, v4⟩ := R.v
  obtain ⟨w1, w2, w3, w4⟩ := v4 b hb
  obtain ⟨e66, p1, p2, e65, p3, p4, -⟩ := P.w hi
  have hH := P.2.2.1
  intro n
  induction n with
  | zero => intro j a2 a3 _ q; omega
  | succ n ih =>
    intro j a2 a3 hj hn K
    rw [fX12_byRights_L19]
    simp (disch := omega) only [lb_e, nZ_ix, w2, e66, nZ_suc, nZ_x32, nZ_add, nZ_lt, nZ_ib]
    simp only [gd_p (by omega : i < 12), gd_p (by omega : b < 8)]
    by_cases q : un m b < j + wd m i
    · rw [br_p q]
      refine ⟨_, _, _, rfl, ?_⟩
      have := bst_skip (Q := QB m (frM m (nZ i)) (wd m i) 1) (V := fun s => wS m s (wd m i) (gI m 67 0 i)) (a := 32 * b + j) (32 - j) fun s h1 h2 => QB_f.mpr fun z => by
        have z2 := z.1.2.1
        rw [show s / 32 = b by omega] at z2
        omega
      rw [show 32 * b + j + (32 - j) = 32 * b + 32 by omega] at this
      rw [this]
      exact K
    · rw [br_n q]
      obtain ⟨r, er, kr⟩ := free_t (m := m) (b := b) (u := j) (w := wd m i) (x := nZ i) (by omega)
      rw [bd_s er]
      have eQ : QB m (frM m (nZ i)) (wd m i) 1 (32 * b + j) = true ↔ ∀ k, k < wd m i → frM m (nZ i) (32 * b + j + k) = true := by
        rw [QB_t]
        unfold runP
        rw [show (32 * b + j) / 32 = b by omega, show (32 * b + j) % 32 = j by omega]
        exact ⟨fun z => z.1.2.2, fun z => ⟨⟨hb, by omega, z⟩, Or.inl (by decide)⟩⟩
      by_cases z : r = 0
      · rw [br_p z]
        refine ih (j + 1) a2 a3 (by omega) (by omega) ?_
        rw [show 32 * b + (j + 1) = 32 * b + j + 1 by omega, bst_n]
        · exact K
        · cases y : QB m (frM m (nZ i)) (wd m i) 1 (32 * b + j) with
          | false => rfl
          | true => exact absurd (eQ.mp y) (kr.mp z)
      · rw [br_n z]
        have hQ := eQ.mpr (Classical.byContradiction fun y => z (kr.mpr y))
        have ew := worth12 R T hb (u := j) (w := wd m i) (by omega) (gI m 67 0 i)
        rw [e66] at *
        rw [bd_s ew]
        have hV := (wS_b R hb (u := j) (n := wd m i) (d := gI m 67 0 i) (by omega) p4).1
        have st := relB_step K hQ hV (by omega)
        by_cases z2 : a2 = -1
        · rw [br_p z2]
          exact ih (j + 1) _ _ (by omega) (by omega) (st.1 (Or.inl z2))
        · rw [br_n z2]
          by_cases z3 : a3 < wS m (32 * b + j) (wd m i) (gI m 67 0 i)
          · rw [br_p z3]
            exact ih (j + 1) _ _ (by omega) (by omega) (st.1 (Or.inr z3))
          · rw [br_n z3]
            exact ih (j + 1) _ _ (by omega) (by omega) (st.2 fun y => by rcases y with y | y; exact z2 y; exact z3 y)
theorem by7_L {m : Hp} (R : RC m) (P : RP m) (T : LT m) {i : Nat} (hi : i < nH m) : ∀ n b a2 a3, b ≤ nB m → nB m - b < n → relB (bst (QB m (frM m (nZ i)) (wd m i) 1) (fun s => wS m s (wd m i) (gI m 67 0 i)) (32 * b)) a2 a3 → ∃ a2' a3' x, fX12_byRights_L7 n (nZ i) a2 a3 (nZ b) m = some ((a2', a3', x), m) ∧ relB (bst (QB m (frM m (nZ i)) (wd m i) 1) (fun s => wS m s (wd m i) (gI m 67 0 i)) (32 * nB m)) a2' a3' := by
  obtain ⟨v1, v2, v3, v4⟩ := R.v
  intro n
  induction n with
  | zero => intro b a2 a3 _ q; omega
  | succ n ih =>
    intro b a2 a3 hb hn K
    rw [fX12_byRights_L7, v2]
    simp (disch := omega) only [lb_e, nZ_le, nZ_suc]
    by_cases q : b = nB m
    · rw [br_p (by omega)]
      rw [q] at K ⊢
      exact ⟨_, _, _, rfl, K⟩
    · rw [br_n (by omega)]
      obtain ⟨c2, c3, x, e, k⟩ := by19_L R P T hi (b := b) (by omega) FU 0 a2 a3 (by omega) (by show _ < 100000; omega) K
      rw [bd_s (show fX12_byRights_L19 FU (nZ i) a2 a3 (nZ b) 0 m = _ from e)]
      exact ih (b + 1) c2 c3 (by omega) (by omega) (by rw [show 32 * (b + 1) = 32 * b + 32 by omega]; exact k)
theorem takes_L {m0 : Hp} {i b v w : Nat} (hi : i < 12) (hs : 32 * b + v + w ≤ 256) : ∀ (n j : Nat) (m : Hp), gI m 66 0 i = nZ w → j ≤ w → w - j < n → Wp (fX12_takes_L49 n (nZ i) (nZ b) (nZ v) (nZ (v + j)) m) (fun _ m' => Fr [106] m m' ∧ ∀ s, gI m' 106 0 s = if 32 * b + v + j ≤ s ∧ s < 32 * b + v + w then 1 else gI m 106 0 s) := by
  intro n
  induction n with
  | zero => intro j m _ _ q; omega
  | succ n ih =>
    intro j m e hj hn
    rw [fX12_takes_L49]
    simp (disch := omega) only [lb_e, nZ_ix, e, nZ_suc, nZ_x32, nZ_add, nZ_le, nZ_ib]
    rw [gd_p hi]
    by_cases q : j = w
    · rw [br_p (by omega), wp_some]
      refine ⟨Fr.rf _ _, fun s => ?_⟩
      rw [if_neg (by omega)]
    · rw [br_n (by omega), gd_p (by omega)]
      refine wp_mono (ih (j + 1) _ (by rw [gI_o (by decide)]; exact e) (by omega) (by omega)) fun _ m' k => ⟨(Fr_I _ _ _ _ _ rfl).tr k.1, fun s => ?_⟩
      rw [k.2 s, gI_a]
      by_cases z : s = 32 * b + (v + j)
      · rw [if_neg (by omega), if_pos z, if_pos (by omega)]
      · by_cases z2 : 32 * b + v + (j + 1) ≤ s ∧ s < 32 * b + v + w
        · rw [if_pos z2, if_pos (by omega)]
        · rw [if_neg z2, if_neg z, if_neg (by omega)]
def wTk : List Nat := [99, 100, 101, 104, 106]
theorem takes_t {m : Hp} (R : RC m) (P : RP m) (T : LT m) {i b v : Nat} {a4 : Int32} (h4 : a4 = 0 ∨ a4 = 1) (hi : i < nH m) (hb : b < nB m) (hv : v + wd m i ≤ un m b) : Wp (fX12_takes (nZ i) (nZ b) (nZ v) a4 m) (fun _ m' => Fr wTk m m' ∧ (∀ j, gI m' 99 0 j = if j = i then nZ b else gI m 99 0 j) ∧ (∀ j, gI m' 100 0 j = if j = i then nZ v else gI m 100 0 j) ∧ (∀ j, gI m' 101 0 j = if j = i then wS m (32 * b + v) (wd m i) (gI m 67 0 i) else gI m 101 0 j) ∧ (∀ j, gI m' 104 0 j = if j = i then a4 else gI m 104 0 j) ∧ ∀ s, gI m' 106 0 s = if 32 * b + v ≤ s ∧ s < 32 * b + v + wd m i then 1 else gI m 106 0 s) := by
  obtain ⟨v1, v2, v3, v4⟩ := R.v
  obtain ⟨w1, w2, w3, w4⟩ := v4 b hb
  obtain ⟨e66, p1, p2, e65, p3, p4, -⟩ := P.w hi
  have hH := P.2.2.1
  have hib : ib (nZ i) 12 := by rw [nZ_ib (by omega)]; omega
  have xi : ix (nZ i) = i := nZ_ix (by omega)
  obtain ⟨m2, e2⟩ : ∃ y, y = sI (sI m 99 0 i (nZ b)) 100 0 i (nZ v) := ⟨_, rfl⟩
  have f2 : Fr wTk m m2 := by rw [e2]; exact (Fr_I _ _ _ _ _ rfl).tr (Fr_I _ _ _ _ _ rfl)
  have s2 : Sm fRC m m2 := f2.sm rfl
  have T2 : LT m2 := fun b' u' h1 h2 => by
    rw [nB_sm s2] at h1
    rw [un_sm s2] at h2
    rw [f2.A 93 0 _ rfl, f2.A 30 0 _ rfl, f2.A 94 0 _ rfl, se_sm s2]
    exact T b' u' h1 h2
  have ew := worth12 (RC_sm s2 R) T2 (b := b) (u := v) (w := wd m i) (by rw [nB_sm s2]; exact hb) (by rw [un_sm s2]; exact hv) (gI m 67 0 i)
  rw [wS_sm (f2.sm rfl)] at ew
  obtain ⟨m4, e4⟩ : ∃ y, y = sI (sI m2 101 0 i (wS m (32 * b + v) (wd m i) (gI m 67 0 i))) 104 0 i a4 := ⟨_, rfl⟩
  have f4 : Fr wTk m2 m4 := by rw [e4]; exact (Fr_I _ _ _ _ _ rfl).tr (Fr_I _ _ _ _ _ rfl)
  unfold fX12_takes
  simp only [lb_e, gd_p hib, xi, and1 h4]
  rw [← e2, f2.A 66 0 i rfl, f2.A 67 0 i rfl, e66, bd_s ew, ← e4]
  refine wp_call (takes_L (m0 := m) (w := wd m i) (by omega) (by omega) FU 0 m4 (by rw [f4.A 66 0 i rfl, f2.A 66 0 i rfl]; exact e66) (by omega) (by show _ < 100000; omega)) fun _ m' k => wp_some.mpr ⟨(f2.tr f4).tr (k.1.wk rfl), fun j => ?_, fun j => ?_, fun j => ?_, fun j => ?_, fun s => ?_⟩
  · rw [k.1.A 99 0 j rfl, e4, e2]
    simp (disch := decide) only [gI_o, gI_a]
  · rw [k.1.A 100 0 j rfl, e4, e2]
    simp (disch := decide) only [gI_o, gI_a]
  · rw [k.1.A 101 0 j rfl, e4, e2]
    simp (disch := decide) only [gI_o, gI_a]
  · rw [k.1.A 104 0 j rfl, e4, e2]
    simp (disch := decide) only [gI_o, gI_a]
  · rw [k.2 s, e4, e2]
    simp (disch := decide) only [gI_o, gI_a]
    rfl
