/-! ===== level 2: sunday: those who come, in step on both sides ===== -/
def wHc : List Nat := [53, 34, 45, 46, 47, 48, 10005, 10006, 10007]
def wHm : List Nat := [13000, 13077, 93, 94, 105, 106, 113, 112, 53, 34, 45, 46, 47, 48, 10005, 10006, 10007]
def Hs (g c m : Hp) (low : Int32) : Prop := Fr wHc g c ∧ Fr wHm g m ∧ LT m ∧ Lat g c ∧ gI c 9 0 6 = low ∧ gI m 12 0 17 = low ∧ ∀ s, s < 256 → (gI c 46 0 s = 0 ↔ gI m 106 0 s = 0) ∧ (gI c 45 0 s ≠ 0 ↔ (gI m 105 0 s = -1 ∧ gI m 113 0 s = 0))
theorem Lat_fr {g c c' : Hp} (L : Lat g c) (f : Fr [46, 47, 48, 45] c c') : Lat g c' := by
  rcases L with ⟨l1, l2⟩ | ⟨l1, l2, S, l4⟩
  · exact Or.inl ⟨l1, by rw [f.R 9 0 5 rfl]; exact l2⟩
  · refine Or.inr ⟨l1, by rw [f.R 9 0 5 rfl]; exact l2, ⟨by rw [f.R 8 _ 0 rfl]; exact S.1, by rw [f.R 8 _ 1 rfl]; exact S.2.1, by rw [f.R 8 _ 2 rfl]; exact S.2.2.1, by rw [f.R 8 _ 3 rfl]; exact S.2.2.2⟩, fun i hi => ?_⟩
    have := l4 i hi
    unfold sr at this ⊢
    rw [f.A 41 _ i rfl, f.A 42 _ i rfl, f.A 43 _ i rfl, f.A 44 _ i rfl]
    exact this
theorem bestP {g c m : Hp} (R : RC g) {low : Int32} (K : Hs g c m low) {w : Nat} (hw : 1 ≤ w) (hw2 : w ≤ 12) {d r ah any : Int32} (hd : 0 ≤ d.toInt ∧ d.toInt ≤ 9) (ha : ah = 0 ↔ any ≠ 0) : ∃ c1 X, fX9_openSpots ah c = some ((), c1) ∧ Fr [48] c c1 ∧ fX10_bestRun (nZ w) d (if low ≤ r then 0 else 1) c1 = some (X, c1) ∧ fX12_bestRun (nZ w) r d any m = some (X, m) ∧ (X = m1 ∨ ∃ s, X = nZ s ∧ s < 32 * nB g ∧ s + w ≤ 256) := by
  obtain ⟨k1, k2, k3, k4, k5, k6, k7⟩ := K
  obtain ⟨v1, v2, v3, v4⟩ := R.v
  have s1 : Sm fRC g c := k1.sm rfl
  have s3 : Sm fRC g m := k2.sm rfl
  obtain ⟨u0, c1, e1, f1, r1⟩ := openS_t (ah := ah) (g := g) (RC_sm s1 R) (nB_sm s1) (un_sm s1)
  have t1 : Sm fRC g c1 := s1.tr (f1.sm rfl)
  have eB1 := nB_sm t1
  have bt' := bestRun_t (RC_sm t1 R) (op := opS g c ah) (fun s hs => by
    have := (of_decide_eq_true hs).1
    unfold uS at this ⊢
    rw [nB_sm t1, un_sm t1]
    exact this) (w := w) hw (by omega) (fun s hs => r1 s (by rw [eB1] at hs; exact hs)) d (if low ≤ r then 0 else 1)
  have em := bestS_m (RC_sm s3 R) k3 hw hw2 (r := r) hd k6 any
  have eC : bst (QB c1 (opS g c ah) w (if low ≤ r then 0 else 1)) (fun s => wS c1 s w d) (32 * nB c1) = bst (QB g (opS g c ah) w (if low ≤ r then 0 else 1)) (fun s => wS g s w d) (32 * nB g) := by
    rw [QB_sm t1, eB1, show (fun s => wS c1 s w d) = (fun s => wS g s w d) from funext fun s => wS_sm (sRC_w t1) s _ _]
  have eM : bst (QB m (frS m any) w (if low ≤ r then 0 else 1)) (fun s => wS m s w d) (32 * nB m) = bst (QB g (opS g c ah) w (if low ≤ r then 0 else 1)) (fun s => wS g s w d) (32 * nB g) := by
    rw [QB_sm s3, nB_sm s3]
    refine bst_ext fun s hs => ⟨?_, fun _ => wS_sm (sRC_w s3) _ _ _⟩
    have fr : ∀ t, t < 256 → uS g t → (frS m any t = true ↔ opS g c ah t = true) := fun t ht hu => by
      unfold frS opS
      rw [decide_eq_true_iff, decide_eq_true_iff]
      obtain ⟨q1, q2⟩ := k7 t ht
      refine ⟨fun y => ⟨hu, ?_, q1.mpr y.1⟩, fun y => ⟨q1.mp y.2.2, ?_⟩⟩
      · rcases y.2 with z | z
        · exact Or.inl (ha.mpr z)
        · exact Or.inr (q2.mpr z)
      · rcases y.2.1 with z | z
        · exact Or.inl (ha.mp z)
        · exact Or.inr (q2.mp z)
    have : (runP g (frS m any) w s ∧ galOk g (if low ≤ r then 0 else 1) s) ↔ (runP g (opS g c ah) w s ∧ galOk g (if low ≤ r then 0 else 1) s) := by
      unfold runP
      refine ⟨fun y => ⟨⟨y.1.1, y.1.2.1, fun j hj => ?_⟩, y.2⟩, fun y => ⟨⟨y.1.1, y.1.2.1, fun j hj => ?_⟩, y.2⟩⟩
      · have u32 := (v4 (s / 32) y.1.1).2.2.2
        have y2 := y.1.2.1
        refine (fr (s + j) (by omega) ⟨?_, ?_⟩).mp (y.1.2.2 j hj)
        · rw [show (s + j) / 32 = s / 32 by omega]; exact y.1.1
        · rw [show (s + j) / 32 = s / 32 by omega]; omega
      · have u32 := (v4 (s / 32) y.1.1).2.2.2
        have y2 := y.1.2.1
        refine (fr (s + j) (by omega) ⟨?_, ?_⟩).mpr (y.1.2.2 j hj)
        · rw [show (s + j) / 32 = s / 32 by omega]; exact y.1.1
        · rw [show (s + j) / 32 = s / 32 by omega]; omega
    cases z : QB g (opS g c ah) w (if low ≤ r then 0 else 1) s with
    | true => exact QB_t.mpr (this.mpr (QB_t.mp z))
    | false => exact QB_f.mpr fun y => QB_f.mp z (this.mp y)
  rw [eC] at bt'
  rw [eM] at em
  refine ⟨c1, _, e1, f1, bt', em, ?_⟩
  rcases bst_v (Q := QB g (opS g c ah) w (if low ≤ r then 0 else 1)) (V := fun s => wS g s w d) (fun s hs => (wS_c R (QB_t.mp hs).1 hd).1) (32 * nB g) with z | ⟨s, h1, h2, h3⟩
  · exact Or.inl (by rw [z])
  · have hr := (QB_t.mp h2).1
    have u32 := (v4 (s / 32) hr.1).2.2.2
    have hr2 := hr.2.1
    exact Or.inr ⟨s, by rw [h3], h1, by omega⟩
theorem of46_L {c : Hp} {a w : Nat} (h : a + w ≤ 256) : ∀ f j, j ≤ w → w - j < f → (∀ k, k < j → gI c 46 0 (a + k) = 0) → ∃ x, bd (fX9_isOwnRunFree_L46 f (nZ w) (nZ a) (nZ (a + j)) c) (fun u23 h20 => ms u23 (fun r24 => some (r24, h20)) (fun v22 => some ((1 : Int32), h20))) = some (x, c) ∧ (x = 0 ↔ ¬ ∀ k, k < w → gI c 46 0 (a + k) = 0) := by
  intro f
  induction f with
  | zero => intro j _ q; omega
  | succ f ih =>
    intro j hj hf K
    rw [fX9_isOwnRunFree_L46]
    have e256 : ((256 : Int32) ≤ nZ (a + j)) ↔ 256 ≤ a + j := nZ_le (a := 256) (by decide) (by omega)
    simp (disch := omega) only [lb_e, nZ_add, nZ_le, nZ_suc, nZ_ib, nZ_ix, e256]
    by_cases q : j = w
    · subst q
      rw [br_p (by omega)]
      exact ⟨1, rfl, iff_of_false (by decide) (not_not_intro K)⟩
    · rw [br_n (by omega), br_n (by omega), gd_p (by omega)]
      by_cases z : gI c 46 0 (a + j) = 0
      · rw [br_p z]
        refine ih (j + 1) (by omega) (by omega) fun k hk => ?_
        by_cases e : k = j
        · rw [e]; exact z
        · exact K k (by omega)
      · rw [br_n z]
        exact ⟨0, rfl, iff_of_true rfl fun y => z (y j (by omega))⟩
theorem or51_L {m : Hp} {i b v w t : Nat} (hi : i < 12) (ht : t < 2400) (h : 32 * b + v + w ≤ 256) (e66 : gI m 66 0 i = nZ w) (e88 : gI m 88 0 t = nZ b) (e89 : gI m 89 0 t = nZ v) : ∀ f j, j ≤ w → w - j < f → (∀ k, k < j → gI m 106 0 (32 * b + v + k) = 0) → ((∀ k, k < w → gI m 106 0 (32 * b + v + k) = 0) → fX12_ownRun_L51 f (nZ i) (nZ t) (nZ j) m = some (.inr (nZ w), m)) ∧ (¬ (∀ k, k < w → gI m 106 0 (32 * b + v + k) = 0) → fX12_ownRun_L51 f (nZ i) (nZ t) (nZ j) m = some (.inl (-1), m)) := by
  intro f
  induction f with
  | zero => intro j _ q; omega
  | succ f ih =>
    intro j hj hf K
    rw [fX12_ownRun_L51]
    simp (disch := omega) only [lb_e, nZ_ix, e66, e88, e89, nZ_x32, nZ_add, nZ_le, nZ_suc, nZ_ib]
    simp only [gd_p hi, gd_p ht]
    by_cases q : j = w
    · subst q
      rw [br_p (by omega)]
      exact ⟨fun _ => rfl, fun y => absurd K y⟩
    · rw [br_n (by omega), gd_p (by omega)]
      by_cases z : gI m 106 0 (32 * b + v + j) = 0
      · rw [br_p z]
        refine ih (j + 1) (by omega) (by omega) fun k hk => ?_
        by_cases e : k = j
        · rw [e]; exact z
        · exact K k (by omega)
      · rw [br_n z]
        exact ⟨fun y => absurd (y j (by omega)) z, fun _ => rfl⟩
theorem ownP {g c m : Hp} (R : RC g) (P : RP g) (Y : Ry g) {low : Int32} (K : Hs g c m low) {i : Nat} (hi : i < nH g) : ∃ x, fX9_isOwnRunFree (nZ i) (nZ (wd g i)) c = some (x, c) ∧ ((x = 0 ∧ fX12_ownRun (nZ i) m = some (-1, m)) ∨ (x ≠ 0 ∧ ∃ a, a + wd g i ≤ 256 ∧ fX12_ownRun (nZ i) m = some (nZ a, m) ∧ gR c 9 0 5 = some (yr g) ∧ SeatOk c (yr g) ∧ gI c 41 (yr g) i = nZ a)) := by
  obtain ⟨k1, k2, k3, k4, k5, k6, k7⟩ := K
  obtain ⟨v1, v2, v3, v4⟩ := R.v
  obtain ⟨y1, y2, y3⟩ := Y.e
  have hH := P.2.2.1
  obtain ⟨e66, p1, p2, -⟩ := P.w hi
  have m5 : gI m 12 0 5 = nZ (yr g) := by rw [k2.I 12 0 5 rfl]; exact y1
  have m66 : gI m 66 0 i = nZ (wd g i) := by rw [k2.A 66 0 i rfl]; exact e66
  unfold fX9_isOwnRunFree fX12_ownRun
  simp only [lb_e]
  rw [m5]
  rcases k4 with ⟨l1, l2⟩ | ⟨l1, l2, S, l4⟩
  · rw [mt_n l2, l1, br_p (show nZ 0 = 0 from rfl)]
    exact ⟨0, rfl, Or.inl ⟨rfl, rfl⟩⟩
  · simp only [mt_s l2]
    rw [bd_s (sit_t S (by omega)), br_n (show ¬ nZ (yr g) = 0 from fun y => by rw [nZ_z (by omega)] at y; omega), nZ_x200, nZ_add, nZ_pre (by omega) (by omega), show 200 * i + yr g - 1 = 200 * i + (yr g - 1) by omega]
    have hib2 : ib (nZ (200 * i + (yr g - 1))) 2400 := by rw [nZ_ib (by omega)]; omega
    have hib1 : ib (nZ i) 12 := by rw [nZ_ib (by omega)]; omega
    simp only [gd_p hib2, gd_p hib1, nZ_ix (by omega : 200 * i + (yr g - 1) < 2147483648), nZ_ix (by omega : i < 2147483648)]
    rw [k2.A 88 0 _ rfl, k2.A 90 0 _ rfl, m66]
    rcases l4 i (by omega) with w | ⟨b, v, w, z1, z2, z3, z4, z5, z6, z7, z8, z9, z10, z11, z12⟩
    · rw [if_pos w.1, br_p rfl, br_p w.2]
      exact ⟨0, rfl, Or.inl ⟨rfl, rfl⟩⟩
    · have u32 := (v4 b z9).2.2.2
      have ns : ¬ gI c 41 (yr g) i = -1 := by rw [z1]; exact fun y => (nZ_m1 (by omega)).mp y
      rw [if_neg ns, br_n (by decide), z2, br_n (show ¬ nZ b = -1 from fun y => (nZ_m1 (by omega)).mp y), mt_s l2, mt_s S.2.1, z4, z5]
      by_cases zw : w = wd g i
      · rw [zw, br_p rfl, br_p rfl]
        simp only [mt_s l2, mt_s S.1]
        rw [z1]
        rw [zw] at z12
        obtain ⟨x, ex, kx⟩ := of46_L (c := c) (a := 32 * b + v) (w := wd g i) (by omega) FU 0 (by omega) (by show _ < 100000; omega) fun k hk => by omega
        obtain ⟨d1, d2⟩ := or51_L (m := m) (i := i) (b := b) (v := v) (w := wd g i) (t := 200 * i + (yr g - 1)) (by omega) (by omega) (by omega) m66 (by rw [k2.A 88 0 _ rfl]; exact z2) (by rw [k2.A 89 0 _ rfl]; exact z3) FU 0 (by omega) (by show _ < 100000; omega) fun k hk => by omega
        have eq : (∀ k, k < wd g i → gI c 46 0 (32 * b + v + k) = 0) ↔ ∀ k, k < wd g i → gI m 106 0 (32 * b + v + k) = 0 := ⟨fun y k hk => (k7 _ (by omega)).1.mp (y k hk), fun y k hk => (k7 _ (by omega)).1.mpr (y k hk)⟩
        refine ⟨x, ex, ?_⟩
        by_cases zx : x = 0
        · rw [bd_s (show fX12_ownRun_L51 FU (nZ i) (nZ (200 * i + (yr g - 1))) 0 m = _ from d2 fun y => kx.mp zx (eq.mpr y)), ms_l]
          exact Or.inl ⟨zx, rfl⟩
        · have fr : ∀ k, k < wd g i → gI c 46 0 (32 * b + v + k) = 0 := Classical.byContradiction fun y => zx (kx.mpr y)
          rw [bd_s (show fX12_ownRun_L51 FU (nZ i) (nZ (200 * i + (yr g - 1))) 0 m = _ from d1 (eq.mp fr)), ms_r]
          rw [k2.A 88 0 _ rfl, k2.A 89 0 _ rfl, z2, z3, nZ_x32, nZ_add]
          exact Or.inr ⟨zx, 32 * b + v, by omega, rfl, l2, S, rfl⟩
      · have nw : ¬ nZ w = nZ (wd g i) := fun y => zw ((nZ_eq (by omega) (by omega)).mp y)
        rw [br_n nw, br_n nw]
        exact ⟨0, rfl, Or.inl ⟨rfl, rfl⟩⟩
