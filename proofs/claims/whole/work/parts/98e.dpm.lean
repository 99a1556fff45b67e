/-! ===== level 2: the greatest sum of those who wait: the table, model side ===== -/
theorem can_t {g m : Hp} (R : RC g) (P : RP g) {ow : Nat → Int32} {low : Int32} {wt : Nat → Nat} {k s : Nat} (hw : wt k < nH g) (s1 : Sm fRC g m) (s2 : Sm fRP g m) (hL : gI m 12 0 17 = low) (hs : s < 256) (hO : ∀ t, t < 256 → gI m 105 0 t = ow t) (hS : ∀ t, s ≤ t → t < 256 → ow t = -1 → gI m 106 0 t = 0) : ∃ x, fX12_canByRank (nZ (wt k)) (nZ s) m = some (x, m) ∧ ((x = 0) ↔ ¬ cB g ow low wt k s = true) := by
  obtain ⟨v1, v2, v3, v4⟩ := R.v
  have hH := P.2.2.1
  obtain ⟨e66, p1, p2, e65, p3, p4, -⟩ := P.w hw
  have h66 : gI m 66 0 (wt k) = nZ (wd g (wt k)) := by rw [s2.A 66 0 _ (by decide)]; exact e66
  have h65 : gI m 65 0 (wt k) = nZ (rkN g (wt k)) := by rw [s2.A 65 0 _ (by decide)]; exact e65
  have e7 : gI m 12 0 7 = nZ (nB g) := by rw [s1.I 12 0 7 (by decide)]; exact v2
  have hib : ib (nZ (wt k)) 12 := by rw [nZ_ib (by omega)]; omega
  have hib8 : ib (nZ (s / 32)) 8 := by rw [nZ_ib (by omega)]; omega
  have eQ : cB g ow low wt k s = true ↔ (runP g (opW g ow (-1)) (wd g (wt k)) s ∧ galOk g (gfS g low (wt k)) s) := QB_t
  unfold fX12_canByRank
  simp only [lb_e, nZ_d32 (by omega : s < 2147483648), nZ_m32 (by omega : s < 2147483648), e7, gd_p hib, gd_p hib8, nZ_ix (by omega : s / 32 < 2147483648), nZ_ix (by omega : wt k < 2147483648), h66, h65, hL, nZ_le (by omega : nB g < 2147483648) (by omega : s / 32 < 2147483648)]
  by_cases z1 : nB g ≤ s / 32
  · refine ⟨0, br_p z1, iff_of_true rfl fun y => ?_⟩
    have := (eQ.mp y).1.1
    omega
  · obtain ⟨w1, w2, w3, w4⟩ := v4 (s / 32) (by omega)
    have e63 : gI m 63 0 (s / 32) = nZ (un g (s / 32)) := by rw [s1.A 63 0 _ (by decide)]; exact w2
    rw [br_n z1, e63, nZ_add]
    simp only [nZ_lt (by omega : un g (s / 32) < 2147483648) (by omega : s % 32 + wd g (wt k) < 2147483648)]
    by_cases z2 : un g (s / 32) < s % 32 + wd g (wt k)
    · refine ⟨0, br_p z2, iff_of_true rfl fun y => ?_⟩
      have := (eQ.mp y).1.2.1
      omega
    · rw [br_n z2]
      obtain ⟨x, ex, kx⟩ := free_t (m := m) (b := s / 32) (u := s % 32) (w := wd g (wt k)) (x := -1) (by omega)
      rw [bd_s ex]
      rw [show 32 * (s / 32) + s % 32 = s by omega] at kx
      have hrun : (∀ j, j < wd g (wt k) → frM m (-1) (s + j) = true) ↔ runP g (opW g ow (-1)) (wd g (wt k)) s := by
        unfold runP
        refine ⟨fun y => ⟨by omega, by omega, fun j hj => ?_⟩, fun y j hj => ?_⟩
        · have w := of_decide_eq_true (y j hj)
          refine decide_eq_true ⟨⟨?_, ?_⟩, ?_⟩
          · rw [show (s + j) / 32 = s / 32 by omega]
            omega
          · rw [show (s + j) / 32 = s / 32 by omega]
            omega
          · rw [← hO (s + j) (by omega)]
            exact w.2
        · have w := of_decide_eq_true (y.2.2 j hj)
          exact decide_eq_true ⟨hS (s + j) (by omega) (by omega) w.2, by rw [hO (s + j) (by omega)]; exact w.2⟩
      have e64 : gI m 64 0 (s / 32) = gI g 29 0 (s / 32) := by rw [s1.A 64 0 _ (by decide)]; exact R.1.2.2.2.2.2.2.2.2.2.2.2 _
      rw [e64]
      have fin : galOk g (gfS g low (wt k)) s → ∃ y, br (x = 0) (some ((0 : Int32), m)) (some (1, m)) = some (y, m) ∧ (y = 0 ↔ ¬ cB g ow low wt k s = true) := fun hg => by
        by_cases z : x = 0
        · exact ⟨0, br_p z, iff_of_true rfl fun y => kx.mp z (hrun.mpr (eQ.mp y).1)⟩
        · exact ⟨1, br_n z, iff_of_false (by decide) (not_not_intro (eQ.mpr ⟨hrun.mp (Classical.byContradiction fun y => z (kx.mpr y)), hg⟩))⟩
      by_cases z3 : gI g 29 0 (s / 32) = 0
      · rw [br_p z3]
        exact fin (Or.inr z3)
      · rw [br_n z3]
        by_cases z4 : low ≤ nZ (rkN g (wt k))
        · refine ⟨0, br_p z4, iff_of_true rfl fun y => ?_⟩
          rcases (eQ.mp y).2 with w | w
          · exact w (by unfold gfS; rw [if_pos z4])
          · exact z3 w
        · rw [br_n z4]
          exact fin (Or.inl (by unfold gfS; rw [if_neg z4]; decide))
theorem gain_t {g m : Hp} (R : RC g) (P : RP g) {ow : Nat → Int32} {low : Int32} {wt : Nat → Nat} {k s : Nat} (hw : wt k < nH g) (s1 : Sm fRC g m) (s2 : Sm fRP g m) (T : LT m) (hs : s < 256) (hc : cB g ow low wt k s = true) : ∃ x, fX12_gains (nZ (wt k)) (nZ s) m = some (x, m) ∧ x.toInt = gN' g wt k s := by
  have hH := P.2.2.1
  obtain ⟨e66, p1, p2, e65, p3, p4, -⟩ := P.w hw
  have h66 : gI m 66 0 (wt k) = nZ (wd g (wt k)) := by rw [s2.A 66 0 _ (by decide)]; exact e66
  have h65 : gI m 65 0 (wt k) = nZ (rkN g (wt k)) := by rw [s2.A 65 0 _ (by decide)]; exact e65
  have h67 : gI m 67 0 (wt k) = gI g 67 0 (wt k) := s2.A 67 0 _ (by decide)
  have hib : ib (nZ (wt k)) 12 := by rw [nZ_ib (by omega)]; omega
  have hr := (QB_t.mp hc).1
  have ew := worth12 (RC_sm s1 R) T (b := s / 32) (u := s % 32) (w := wd g (wt k)) (by rw [nB_sm s1]; exact hr.1) (by rw [un_sm s1]; exact hr.2.1) (gI g 67 0 (wt k))
  rw [show 32 * (s / 32) + s % 32 = s by omega, wS_sm (sRC_w s1)] at ew
  unfold fX12_gains
  simp only [gd_p hib, nZ_d32 (by omega : s < 2147483648), nZ_m32 (by omega : s < 2147483648), nZ_ix (by omega : wt k < 2147483648), h66, h67]
  rw [bd_s ew, h65]
  exact ⟨_, rfl, (mulJ (wS_c R hr p4) p3).1⟩
def RowM (g : Hp) (ow : Nat → Int32) (low : Int32) (wt : Nat → Nat) (M k : Nat) (m : Hp) : Prop := ∀ s, s ≤ 256 → (gJ m 107 0 (257 * k + s)).toInt = DD g ow low wt M k s
theorem nZ_x257 (a : Nat) : (257 : Int32) * nZ a = nZ (257 * a) := nZ_mul 257 a
theorem z266_L {M : Nat} (hM : M ≤ 12) : ∀ (f j : Nat) (m : Hp), j ≤ 257 → 257 - j < f → Wp (fX12_seats_L266 f (nZ M) (nZ j) m) (fun _ m' => Fr [107] m m' ∧ ∀ i, gJ m' 107 0 i = if 257 * M + j ≤ i ∧ i < 257 * M + 257 then 0 else gJ m 107 0 i) := by
  intro f
  induction f with
  | zero => intro j m _ q; omega
  | succ f ih =>
    intro j m hj hf
    rw [fX12_seats_L266]
    have e : ((256 : Int32) < nZ j) ↔ 256 < j := nZ_lt (a := 256) (by decide) (by omega)
    simp (disch := omega) only [e, lb_e, nZ_x257, nZ_add, nZ_suc, nZ_ib, nZ_ix]
    by_cases q : j = 257
    · rw [br_p (by omega), wp_some]
      refine ⟨Fr.rf _ _, fun i => ?_⟩
      rw [if_neg (by omega)]
    · rw [br_n (by omega), gd_p (by omega)]
      refine wp_mono (ih (j + 1) _ (by omega) (by omega)) fun _ m' k => ⟨(Fr_J _ _ _ _ _ rfl).tr k.1, fun i => ?_⟩
      rw [k.2 i, gJ_a]
      by_cases z : i = 257 * M + j
      · rw [if_neg (by omega), if_pos z, if_pos (by omega)]
      · by_cases z2 : 257 * M + (j + 1) ≤ i ∧ i < 257 * M + 257
        · rw [if_pos z2, if_pos (by omega)]
        · rw [if_neg z2, if_neg z, if_neg (by omega)]
/-- what the model's heap holds while the table is made -/
def Mo (g : Hp) (ow : Nat → Int32) (low : Int32) (wt : Nat → Nat) (M : Nat) (m : Hp) : Prop := Sm fRC g m ∧ Sm fRP g m ∧ LT m ∧ gI m 12 0 17 = low ∧ (∀ t, t < 256 → gI m 105 0 t = ow t) ∧ (∀ k, k < M → gI m 103 0 k = nZ (wt k))
theorem Mo_fr {g : Hp} {ow : Nat → Int32} {low : Int32} {wt : Nat → Nat} {M : Nat} {m m' : Hp} (K : Mo g ow low wt M m) (f : Fr [107] m m') : Mo g ow low wt M m' := by
  obtain ⟨k1, k2, k3, k4, k5, k6⟩ := K
  exact ⟨k1.tr (f.sm rfl), k2.tr (f.sm rfl), LT_sm (f.sm rfl) (f.sm rfl) k3, by rw [f.I 12 0 17 rfl]; exact k4, fun t h => by rw [f.A 105 0 t rfl]; exact k5 t h, fun k h => by rw [f.A 103 0 k rfl]; exact k6 k h⟩
theorem r325_L {g : Hp} (R : RC g) (P : RP g) {ow : Nat → Int32} {low : Int32} {wt : Nat → Nat} {M k : Nat} (hw : ∀ k, wt k < nH g) (hM : M ≤ 12) (hk : k < M) (a3 : Int32) : ∀ (f j : Nat) (m : Hp), Mo g ow low wt M m → (∀ t, t < 256 → ow t = -1 → gI m 106 0 t = 0) → RowM g ow low wt M (k + 1) m → (∀ s, j ≤ s → s ≤ 256 → (gJ m 107 0 (257 * k + s)).toInt = DD g ow low wt M k s) → j ≤ 256 → j < f → Wp (fX12_seats_L325 f a3 (nZ k) (nZ j + (-1)) m) (fun _ m' => Fr [107] m m' ∧ RowM g ow low wt M k m' ∧ ∀ i, 257 * (k + 1) ≤ i → gJ m' 107 0 i = gJ m 107 0 i) := by
  have hH := P.2.2.1
  have hdb := Dv_b (C := cB g ow low wt) (G := gN' g wt) (W := fun k => wd g (wt k)) (M := M) (gN_b R P hw)
  intro f
  induction f with
  | zero => intro j m _ _ _ _ _ q; omega
  | succ f ih =>
    intro j m K hS T J hj hf
    obtain ⟨k1, k2, k3, k4, k5, k6⟩ := id K
    rw [fX12_seats_L325]
    by_cases q : j = 0
    · subst q
      rw [br_p (by decide), wp_some]
      exact ⟨Fr.rf _ _, fun s hs => J s (by omega) hs, fun i _ => rfl⟩
    · rw [nZ_dn (by omega) (by omega)]
      have hwk := hw k
      obtain ⟨e66, p1, p2, e65, p3, p4, -⟩ := P.w hwk
      have h66 : gI m 66 0 (wt k) = nZ (wd g (wt k)) := by rw [k2.A 66 0 _ (by decide)]; exact e66
      obtain ⟨x, ex, kx⟩ := can_t R P (ow := ow) (low := low) (wt := wt) (k := k) (s := j - 1) hwk k1 k2 k4 (by omega) k5 (fun t _ h1 h2 => hS t h1 h2)
      have hib : ib (nZ (wt k)) 12 := by rw [nZ_ib (by omega)]; omega
      rw [br_n (by rw [nZ_neg (by omega)]; exact id)]
      simp (disch := omega) only [lb_e, nZ_x257, nZ_add, nZ_suc, nZ_ib, nZ_ix, show 257 * k + (j - 1) + 1 = 257 * k + j by omega]
      simp only [gd_p (by omega : 257 * k + j < 3341), gd_p (by omega : 257 * (k + 1) + (j - 1) < 3341), gd_p (by omega : k < 12), gd_p (by omega : 257 * k + (j - 1) < 3341)]
      rw [k6 k hk, bd_s ex]
      have t1 := T (j - 1) (by omega)
      have t2 := J j (Nat.le_refl _) hj
      have rc := Dv_r (C := cB g ow low wt) (G := gN' g wt) (W := fun k => wd g (wt k)) (M := M) (k := k) (s := j - 1) hk (by omega)
      have n1' := hdb k j
      have n2' := hdb (k + 1) (j - 1)
      have fin : ∀ y : Int64, y.toInt = DD g ow low wt M k (j - 1) → Wp (fX12_seats_L325 f a3 (nZ k) (nZ (j - 1) + (-1)) (sJ m 107 0 (257 * k + (j - 1)) y)) (fun _ m' => Fr [107] m m' ∧ RowM g ow low wt M k m' ∧ ∀ i, 257 * (k + 1) ≤ i → gJ m' 107 0 i = gJ m 107 0 i) := by
        intro y ty
        have f1 : Fr [107] m (sJ m 107 0 (257 * k + (j - 1)) y) := Fr_J _ _ _ _ _ rfl
        refine wp_mono (ih (j - 1) _ (Mo_fr K f1) (fun t h1 h2 => by rw [f1.A 106 0 t rfl]; exact hS t h1 h2) (fun s hs => ?_) (fun s h1 h2 => ?_) (by omega) (by omega)) fun _ m' p => ⟨f1.tr p.1, p.2.1, fun i hi => ?_⟩
        · rw [gJ_a, if_neg (by omega)]
          exact T s hs
        · rw [gJ_a]
          by_cases z : s = j - 1
          · rw [if_pos (by omega), z]
            exact ty
          · rw [if_neg (by omega)]
            exact J s (by omega) h2
        · rw [p.2.2 i hi, gJ_a, if_neg (by omega)]
      unfold DD at t1 t2
      by_cases z : x = 0
      · rw [br_p z]
        refine fin _ ?_
        unfold DD
        rw [mxJ_t, t1, t2, rc, show j - 1 + 1 = j by omega, if_neg (kx.mp z)]
        rw [Int.max_def (max _ _), Int.max_def]
        split <;> split <;> omega
      · have hc : cB g ow low wt k (j - 1) = true := Classical.byContradiction fun y => z (kx.mpr y)
        have hr := (QB_t.mp hc).1
        have u32 := ((R.v).2.2.2 ((j - 1) / 32) hr.1).2.2.2
        have hr2 := hr.2.1
        obtain ⟨y, ey, ky⟩ := gain_t R P hwk k1 k2 k3 (by omega) hc
        rw [br_n z, k6 k hk, bd_s ey]
        simp only [k6 k hk, gd_p hib, nZ_ix (by omega : wt k < 2147483648), h66]
        simp (disch := omega) only [nZ_add, nZ_ib, nZ_ix]
        rw [gd_p (by omega)]
        refine fin _ ?_
        have t3 := T (j - 1 + wd g (wt k)) (by omega)
        rw [show 257 * (k + 1) + (j - 1 + wd g (wt k)) = 257 * (k + 1) + (j - 1) + wd g (wt k) by omega] at t3
        have n3' := hdb (k + 1) (j - 1 + wd g (wt k))
        have n4' := gN_b R P (ow := ow) (low := low) hw k (j - 1) hc
        unfold DD at t3 ⊢
        rw [mxJ_t, mxJ_t, t1, t2, rc, show j - 1 + 1 = j by omega, if_pos hc, add64 (by rw [ky, t3]; omega) (by rw [ky, t3]; omega), ky, t3]
theorem r299_L {g : Hp} (R : RC g) (P : RP g) {ow : Nat → Int32} {low : Int32} {wt : Nat → Nat} {M : Nat} (hw : ∀ k, wt k < nH g) (hM : M ≤ 12) : ∀ (f k : Nat) (m : Hp), Mo g ow low wt M m → (∀ t, t < 256 → ow t = -1 → gI m 106 0 t = 0) → (∀ k', k ≤ k' → k' ≤ M → RowM g ow low wt M k' m) → k ≤ M → k < f → Wp (fX12_seats_L299 f (nZ M) (nZ k + (-1)) m) (fun _ m' => Fr [107] m m' ∧ ∀ k', k' ≤ M → RowM g ow low wt M k' m') := by
  intro f
  induction f with
  | zero => intro k m _ _ _ _ q; omega
  | succ f ih =>
    intro k m K hS T hk hf
    rw [fX12_seats_L299]
    by_cases q : k = 0
    · subst q
      rw [br_p (by decide), wp_some]
      exact ⟨Fr.rf _ _, fun k' h => T k' (by omega) h⟩
    · rw [nZ_dn (by omega) (by omega), br_n (by rw [nZ_neg (by omega)]; exact id)]
      have e256 : nZ (257 * (k - 1)) + 256 = nZ (257 * (k - 1) + 256) := nZ_add _ 256
      simp only [lb_e, nZ_x257, e256]
      rw [gd_p (by rw [nZ_ib (by omega)]; omega), nZ_ix (by omega)]
      have f1 : Fr [107] m (sJ m 107 0 (257 * (k - 1) + 256) 0) := Fr_J _ _ _ _ _ rfl
      have e255 : (255 : Int32) = nZ 256 + (-1) := by decide
      rw [e255]
      refine wp_call (r325_L R P (k := k - 1) hw hM (by omega) (nZ M) FU 256 _ (Mo_fr K f1) (fun t h1 h2 => by rw [f1.A 106 0 t rfl]; exact hS t h1 h2) (fun s hs => ?_) (fun s h1 h2 => ?_) (by omega) (by show _ < 100000; omega)) fun _ m1' p => ?_
      · rw [show k - 1 + 1 = k by omega, gJ_a, if_neg (by omega)]
        exact T k (Nat.le_refl _) hk s hs
      · have : s = 256 := by omega
        rw [this, gJ_a, if_pos rfl]
        unfold DD Dv
        rw [show M - (k - 1) = (M - k) + 1 by omega, dpv, Nat.sub_self, rowD]
        decide
      · have f2 := f1.tr p.1
        refine wp_mono (ih (k - 1) m1' (Mo_fr K f2) (fun t h1 h2 => by rw [f2.A 106 0 t rfl]; exact hS t h1 h2) (fun k' h1 h2 => ?_) (by omega) (by omega)) fun _ m2 p2 => ⟨f2.tr p2.1, p2.2⟩
        by_cases z : k' = k - 1
        · rw [z]
          exact p.2.1
        · intro s hs
          rw [p.2.2 _ (by omega), gJ_a, if_neg (by omega)]
          exact T k' (by omega) h2 s hs
