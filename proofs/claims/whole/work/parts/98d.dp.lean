/-! ===== level 2: the greatest sum of those who wait: the table, class side ===== -/
theorem mxJ_t (a b : Int64) : (mxJ a b).toInt = max a.toInt b.toInt := by
  unfold mxJ
  rw [Int.max_def]
  by_cases z : b < a
  · rw [if_pos z]
    rw [i64_lt] at z
    rw [if_neg (by omega)]
  · rw [if_neg z]
    rw [i64_lt] at z
    rw [if_pos (by omega)]
def rowD (C : Nat → Bool) (G : Nat → Int) (w : Nat) (nx : Nat → Int) : Nat → Int
  | 0 => 0
  | t + 1 => max (max (rowD C G w nx t) (nx (t + 1))) (if C (255 - t) = true then G (255 - t) + nx (t + 1 - w) else 0)
def dpv (C : Nat → Nat → Bool) (G : Nat → Nat → Int) (W : Nat → Nat) (M : Nat) : Nat → Nat → Int
  | 0 => fun _ => 0
  | j + 1 => rowD (C (M - (j + 1))) (G (M - (j + 1))) (W (M - (j + 1))) (dpv C G W M j)
/-- those from the k-th on, from spot s on -/
def Dv (C : Nat → Nat → Bool) (G : Nat → Nat → Int) (W : Nat → Nat) (M k s : Nat) : Int := dpv C G W M (M - k) (256 - s)
theorem Dv_r {C : Nat → Nat → Bool} {G : Nat → Nat → Int} {W : Nat → Nat} {M k s : Nat} (hk : k < M) (hs : s < 256) : Dv C G W M k s = max (max (Dv C G W M k (s + 1)) (Dv C G W M (k + 1) s)) (if C k s = true then G k s + Dv C G W M (k + 1) (s + W k) else 0) := by
  unfold Dv
  rw [show M - k = (M - (k + 1)) + 1 by omega, dpv, show 256 - s = (255 - s) + 1 by omega, rowD, show M - (M - (k + 1) + 1) = k by omega, show 255 - (255 - s) = s by omega, show 255 - s + 1 = 256 - s by omega, show 256 - (s + 1) = 255 - s by omega, show 256 - s - W k = 256 - (s + W k) by omega]
theorem Dv_M {C : Nat → Nat → Bool} {G : Nat → Nat → Int} {W : Nat → Nat} {M s : Nat} : Dv C G W M M s = 0 := by
  unfold Dv
  rw [Nat.sub_self]
  rfl
theorem Dv_e {C : Nat → Nat → Bool} {G : Nat → Nat → Int} {W : Nat → Nat} {M E : Nat} (hC : ∀ k s, E ≤ s → C k s = false) (hE : E ≤ 256) : ∀ k s, E ≤ s → Dv C G W M k s = 0 := by
  have key : ∀ j t, t ≤ 256 - E → dpv C G W M j t = 0 := by
    intro j
    induction j with
    | zero => intro t _; rfl
    | succ j ih =>
      intro t
      induction t with
      | zero => intro _; rfl
      | succ t iht =>
        intro ht
        have h1 : rowD (C (M - (j + 1))) (G (M - (j + 1))) (W (M - (j + 1))) (dpv C G W M j) t = 0 := iht (by omega)
        rw [dpv, rowD, h1, ih (t + 1) ht, hC _ (255 - t) (by omega)]
        rfl
  intro k s hs
  exact key _ _ (by omega)
theorem Dv_b {C : Nat → Nat → Bool} {G : Nat → Nat → Int} {W : Nat → Nat} {M : Nat} (hG : ∀ k s, C k s = true → 0 ≤ G k s ∧ G k s ≤ 50000000) : ∀ k s, 0 ≤ Dv C G W M k s ∧ Dv C G W M k s ≤ 50000000 * (M - k : Nat) := by
  have key : ∀ j t, 0 ≤ dpv C G W M j t ∧ dpv C G W M j t ≤ 50000000 * (j : Int) := by
    intro j
    induction j with
    | zero =>
      intro t
      show (0 : Int) ≤ 0 ∧ (0 : Int) ≤ 50000000 * ((0 : Nat) : Int)
      omega
    | succ j ih =>
      intro t
      induction t with
      | zero => rw [dpv, rowD]; omega
      | succ t iht =>
        rw [dpv] at iht ⊢
        rw [rowD]
        have h1 := ih (t + 1)
        have h2 := ih (t + 1 - W (M - (j + 1)))
        rw [Int.max_def, Int.max_def]
        by_cases z : C (M - (j + 1)) (255 - t) = true
        · have h3 := hG _ _ z
          rw [if_pos z]
          split <;> split <;> omega
        · rw [if_neg z]
          split <;> split <;> omega
  intro k s
  exact key _ _
/-- the waiters -/
noncomputable def gfS (g : Hp) (low : Int32) (i : Nat) : Int32 := if low ≤ nZ (rkN g i) then 0 else 1
noncomputable def cB (g : Hp) (ow : Nat → Int32) (low : Int32) (wt : Nat → Nat) (k s : Nat) : Bool := QB g (opW g ow (-1)) (wd g (wt k)) (gfS g low (wt k)) s
def gN' (g : Hp) (wt : Nat → Nat) (k s : Nat) : Int := (wS g s (wd g (wt k)) (gI g 67 0 (wt k))).toInt * (rkN g (wt k) + 1)
noncomputable def DD (g : Hp) (ow : Nat → Int32) (low : Int32) (wt : Nat → Nat) (M k s : Nat) : Int := Dv (cB g ow low wt) (gN' g wt) (fun k => wd g (wt k)) M k s
theorem cB_E {g : Hp} {ow : Nat → Int32} {low : Int32} {wt : Nat → Nat} {k s : Nat} (h : 32 * nB g ≤ s) : cB g ow low wt k s = false := QB_f.mpr fun z => by have := z.1.1; omega
theorem mulJ {a : Int32} {r : Nat} (ha : 0 ≤ a.toInt ∧ a.toInt ≤ 500000) (hr : r ≤ 99) : (a.toInt64 * ((nZ r + 1).toInt64)).toInt = a.toInt * (r + 1) ∧ 0 ≤ a.toInt * ((r : Int) + 1) ∧ a.toInt * ((r : Int) + 1) ≤ 50000000 := by
  have m := mul_b (a := a.toInt) (b := (r : Int) + 1) (k := 500000) (l := 100) (by omega) (by omega) (by omega) (by omega)
  have p := Int.mul_nonneg ha.1 (by omega : 0 ≤ (r : Int) + 1)
  have e : (nZ r + 1).toInt64.toInt = (r : Int) + 1 := by rw [to64, nZ_suc, nZ_t (by omega)]; omega
  refine ⟨?_, p, by omega⟩
  rw [mul64 (by rw [to64, e]; omega) (by rw [to64, e]; omega), to64, e]
theorem gN_b {g : Hp} (R : RC g) (P : RP g) {ow : Nat → Int32} {low : Int32} {wt : Nat → Nat} (hw : ∀ k, wt k < nH g) : ∀ k s, cB g ow low wt k s = true → 0 ≤ gN' g wt k s ∧ gN' g wt k s ≤ 50000000 := fun k s h => by
  obtain ⟨e66, p1, p2, e65, p3, p4, -⟩ := P.w (hw k)
  have := wS_c R (QB_t.mp h).1 p4
  exact (mulJ this p3).2
def RowC (g : Hp) (ow : Nat → Int32) (low : Int32) (wt : Nat → Nat) (M k : Nat) (c : Hp) : Prop := ∀ s, s ≤ 32 * nB g → (gJ c 51 0 (257 * k + s)).toInt = DD g ow low wt M k s
theorem sum_t {g c : Hp} (R : RC g) (P : RP g) {ow : Nat → Int32} {low : Int32} {wt : Nat → Nat} {M k s : Nat} (hw : ∀ k, wt k < nH g) (hM : M ≤ 12) (hk : k < M) (s1 : Sm fRC g c) (s2 : Sm fRP g c) (hR : ∀ s, s < 32 * nB g → RchAt c (opW g ow (-1)) s) (hs : s < 32 * nB g) (T : RowC g ow low wt M (k + 1) c) : ∃ x, fX10_sumSeated (some (wt k)) (nZ (257 * (k + 1))) (nZ s) low c = some (x, c) ∧ x.toInt = if cB g ow low wt k s = true then gN' g wt k s + DD g ow low wt M (k + 1) (s + wd g (wt k)) else -1 := by
  obtain ⟨v1, v2, v3, v4⟩ := R.v
  have Rc' := RC_sm s1 R
  have hwk := hw k
  obtain ⟨e66, p1, p2, e65, p3, p4, -⟩ := P.w hwk
  have ewd : wd c (wt k) = wd g (wt k) := by unfold wd; rw [s2.A 66 0 _ (by decide)]
  have erk : rkN c (wt k) = rkN g (wt k) := by unfold rkN; rw [s2.A 65 0 _ (by decide)]
  obtain ⟨-, -, -, -, -, -, q0, q1, q2⟩ := (RP_sm s2 P).w (i := wt k) (by rw [nH_sm s2]; exact hwk)
  rw [ewd] at q1
  rw [erk] at q0
  rw [s2.A 67 0 _ (by decide)] at q2
  have eB := nB_sm s1
  have hdb := Dv_b (C := cB g ow low wt) (G := gN' g wt) (W := fun k => wd g (wt k)) (M := M) (gN_b R P hw)
  unfold fX10_sumSeated
  simp only [mt_s rfl, lb_e]
  have fin : ∀ a3 : Int32, a3 = gfS g low (wt k) → ∃ x, bd (fX10_isRunOpen (nZ s) (nZ (wd g (wt k))) a3 c) (fun r7 h8 => br (r7 = 0) (some ((-1 : Int64), h8)) (bd (fX1_worthOf (nZ s) (gI h8 2 (wt k) 1) (gI h8 2 (wt k) 2) h8) (fun r9 h10 => gd (ib ((nZ (257 * (k + 1)) + nZ s) + (gI h10 2 (wt k) 1)) 3341) (some ((r9.toInt64 * (((gI h10 2 (wt k) 0) + 1).toInt64)) + (gJ h10 51 0 (ix ((nZ (257 * (k + 1)) + nZ s) + (gI h10 2 (wt k) 1)))), h10))))) = some (x, c) ∧ x.toInt = if cB g ow low wt k s = true then gN' g wt k s + DD g ow low wt M (k + 1) (s + wd g (wt k)) else -1 := by
    intro a3 ha
    obtain ⟨x, ex, kx⟩ := runOpen_t Rc' (op := opW g ow (-1)) (fun s hs => by rw [← opW_sm s1] at hs; exact (of_decide_eq_true hs).1) (s := s) (w := wd g (wt k)) (by rw [eB]; exact hs) p1 (by omega) (hR s hs) a3
    rw [bd_s ex]
    have eq : (runP c (opW g ow (-1)) (wd g (wt k)) s ∧ galOk c a3 s) ↔ cB g ow low wt k s = true := by
      unfold cB
      rw [← QB_sm s1, QB_t, ha]
    by_cases z : x = 0
    · rw [br_p z]
      refine ⟨-1, rfl, ?_⟩
      rw [if_neg fun y => kx.mp z (eq.mpr y)]
      decide
    · have hc := eq.mp (Classical.byContradiction fun y => z (kx.mpr y))
      have hr := (QB_t.mp hc).1
      have u32 := (v4 (s / 32) hr.1).2.2.2
      have hr2 := hr.2.1
      have ew := worth1 Rc' (b := s / 32) (u := s % 32) (w := wd g (wt k)) (by rw [eB]; exact hr.1) p1 (by rw [un_sm s1]; exact hr.2.1) (gI g 67 0 (wt k))
      rw [show 32 * (s / 32) + s % 32 = s by omega, wS_sm (sRC_w s1)] at ew
      rw [br_n z, q1, q2, bd_s ew, q1, q0]
      simp (disch := omega) only [nZ_add, nZ_ib, nZ_ix]
      rw [gd_p (by omega)]
      refine ⟨_, rfl, ?_⟩
      have m := mulJ (wS_c R hr p4) p3
      have t := T (s + wd g (wt k)) (by omega)
      have db := hdb (k + 1) (s + wd g (wt k))
      rw [show 257 * (k + 1) + (s + wd g (wt k)) = 257 * (k + 1) + s + wd g (wt k) by omega] at t
      have t2 : (gJ c 51 0 (257 * (k + 1) + s + wd g (wt k))).toInt = Dv (cB g ow low wt) (gN' g wt) (fun k => wd g (wt k)) M (k + 1) (s + wd g (wt k)) := t
      rw [if_pos hc, add64 (by rw [m.1, t2]; omega) (by rw [m.1, t2]; omega), m.1, t]
      rfl
  rw [q0, q1]
  by_cases z : low ≤ nZ (rkN g (wt k))
  · rw [br_p z]
    exact fin 0 (by unfold gfS; rw [if_pos z])
  · rw [br_n z]
    exact fin 1 (by unfold gfS; rw [if_neg z])
theorem nZ_257x (a : Nat) : nZ a * 257 = nZ (257 * a) := by rw [Nat.mul_comm]; exact nZ_mul a 257
theorem fb_L {g : Hp} (R : RC g) (P : RP g) {ow : Nat → Int32} {low : Int32} {wt : Nat → Nat} {M k : Nat} (hw : ∀ k, wt k < nH g) (hM : M ≤ 12) (hk : k < M) : ∀ (f j : Nat) (c : Hp), Sm fRC g c → Sm fRP g c → (∀ s, s < 32 * nB g → RchAt c (opW g ow (-1)) s) → RowC g ow low wt M (k + 1) c → (∀ s, j ≤ s → s ≤ 32 * nB g → (gJ c 51 0 (257 * k + s)).toInt = DD g ow low wt M k s) → j ≤ 32 * nB g → j < f → Wp (fX10_fillBest_L84 f low (some (wt k)) (nZ (257 * k)) (nZ (257 * (k + 1))) (nZ j + (-1)) c) (fun _ c' => Fr [51] c c' ∧ RowC g ow low wt M k c' ∧ ∀ i, 257 * (k + 1) ≤ i → gJ c' 51 0 i = gJ c 51 0 i) := by
  obtain ⟨v1, v2, v3, v4⟩ := R.v
  have hdb := Dv_b (C := cB g ow low wt) (G := gN' g wt) (W := fun k => wd g (wt k)) (M := M) (gN_b R P hw)
  intro f
  induction f with
  | zero => intro j c _ _ _ _ _ _ q; omega
  | succ f ih =>
    intro j c s1 s2 hR T K hj hf
    rw [fX10_fillBest_L84]
    by_cases q : j = 0
    · subst q
      rw [br_p (by decide), wp_some]
      exact ⟨Fr.rf _ _, fun s hs => K s (by omega) hs, fun i _ => rfl⟩
    · rw [nZ_dn (by omega) (by omega)]
      obtain ⟨x, ex, kx⟩ := sum_t R P (s := j - 1) hw hM hk s1 s2 hR (by omega) T
      rw [br_n (by rw [nZ_neg (by omega)]; exact id)]
      simp (disch := omega) only [lb_e, nZ_add, nZ_suc, nZ_ib, nZ_ix, show 257 * k + (j - 1) + 1 = 257 * k + j by omega]
      rw [gd_p (by omega), gd_p (by omega), bd_s ex, gd_p (by omega)]
      obtain ⟨y, ey⟩ : ∃ y, y = mxJ (mxJ (gJ c 51 0 (257 * (k + 1) + (j - 1))) (gJ c 51 0 (257 * k + j))) x := ⟨_, rfl⟩
      rw [← ey]
      have f1 : Fr [51] c (sJ c 51 0 (257 * k + (j - 1)) y) := Fr_J _ _ _ _ _ rfl
      have ty : y.toInt = DD g ow low wt M k (j - 1) := by
        have t1 := T (j - 1) (by omega)
        have t2 := K j (Nat.le_refl _) hj
        have rc := Dv_r (C := cB g ow low wt) (G := gN' g wt) (W := fun k => wd g (wt k)) (M := M) (k := k) (s := j - 1) hk (by omega)
        have n1' := hdb k j
        have n2' := hdb (k + 1) (j - 1)
        unfold DD at t1 t2 kx ⊢
        rw [ey, mxJ_t, mxJ_t, t1, t2, kx, rc, show j - 1 + 1 = j by omega]
        by_cases z : cB g ow low wt k (j - 1) = true
        · rw [if_pos z, if_pos z, Int.max_comm (Dv _ _ _ M (k + 1) (j - 1))]
        · rw [if_neg z, if_neg z, Int.max_comm (Dv _ _ _ M (k + 1) (j - 1))]
          rw [Int.max_def (max _ _), Int.max_def (max _ _), Int.max_def]
          split <;> split <;> split <;> omega
      refine wp_mono (ih (j - 1) _ (s1.tr (f1.sm rfl)) (s2.tr (f1.sm rfl)) (fun s hs => Rch_e (f1.A 48 0 s rfl) (hR s hs)) (fun s hs => ?_) (fun s h1 h2 => ?_) (by omega) (by omega)) fun _ c' p => ⟨f1.tr p.1, p.2.1, fun i hi => ?_⟩
      · rw [gJ_a, if_neg (by omega)]
        exact T s hs
      · rw [gJ_a]
        by_cases z : s = j - 1
        · rw [if_pos (by omega), z]
          exact ty
        · rw [if_neg (by omega)]
          exact K s (by omega) h2
      · rw [p.2.2 i hi, gJ_a, if_neg (by omega)]
theorem fb_t {g c : Hp} (R : RC g) (P : RP g) {ow : Nat → Int32} {low : Int32} {wt : Nat → Nat} {M k : Nat} (hw : ∀ k, wt k < nH g) (hM : M ≤ 12) (hk : k < M) (s1 : Sm fRC g c) (s2 : Sm fRP g c) (hR : ∀ s, s < 32 * nB g → RchAt c (opW g ow (-1)) s) (hW : ∀ k, k < M → gI c 50 0 k = nZ (wt k)) (h5 : gI c 10 0 5 = nZ M) (T : ∀ k', k < k' → k' < M → RowC g ow low wt M k' c) (T2 : k + 1 < M → RowC g ow low wt M M c) : Wp (fX10_fillBest (nZ k) low c) (fun _ c' => Fr [51] c c' ∧ ∀ k', k ≤ k' → k' ≤ M → RowC g ow low wt M k' c') := by
  obtain ⟨v1, v2, v3, v4⟩ := R.v
  have hH := P.2.2.1
  have Pc := RP_sm s2 P
  have hwk := hw k
  unfold fX10_fillBest fX1_spotsEnd
  rw [gd_p (by rw [nZ_ib (by omega)]; omega), nZ_ix (by omega), hW k hk, bd_s (find4_t Pc (by rw [nH_sm s2]; exact hwk))]
  have e7 : gI c 1 0 7 = nZ (nB g) := by rw [s1.I 1 0 7 (by decide)]; exact v1
  have e256 : nZ (257 * k) + 256 + 1 = nZ (257 * (k + 1)) := by
    show nZ (257 * k) + nZ 256 + nZ 1 = _
    rw [nZ_add, nZ_add]
    congr 1
  simp only [lb_e, nZ_257x, e256, e7, nZ_32x, h5]
  have fin : ∀ c1 : Hp, Fr [51] c c1 → (∀ k', k < k' → k' ≤ M → RowC g ow low wt M k' c1) → Wp (gd (ib (nZ (257 * k) + nZ (32 * nB g)) 3341) (bd (fX10_fillBest_L84 FU low (some (wt k)) (nZ (257 * k)) (nZ (257 * (k + 1))) (nZ (32 * nB g) - 1) (sJ c1 51 0 (ix (nZ (257 * k) + nZ (32 * nB g))) 0)) (fun v22 h20 => some ((), h20)))) (fun _ c' => Fr [51] c c' ∧ ∀ k', k ≤ k' → k' ≤ M → RowC g ow low wt M k' c') := by
    intro c1 f1 T1
    simp (disch := omega) only [nZ_add, nZ_ib, nZ_ix]
    rw [gd_p (by omega), Int32.sub_eq_add_neg]
    have f2 : Fr [51] c (sJ c1 51 0 (257 * k + 32 * nB g) 0) := f1.tr (Fr_J _ _ _ _ _ rfl)
    refine wp_call (fb_L R P hw hM hk FU (32 * nB g) _ (s1.tr (f2.sm rfl)) (s2.tr (f2.sm rfl)) (fun s hs => Rch_e (f2.A 48 0 s rfl) (hR s hs)) (fun s hs => ?_) (fun s h1 h2 => ?_) (Nat.le_refl _) (by show _ < 100000; omega)) fun _ c' p => wp_some.mpr ⟨f2.tr p.1, fun k' h1 h2 => ?_⟩
    · rw [gJ_a, if_neg (by omega)]
      exact T1 (k + 1) (by omega) (by omega) s hs
    · have : s = 32 * nB g := by omega
      rw [this, gJ_a, if_pos rfl]
      unfold DD
      rw [Dv_e (E := 32 * nB g) (fun k s h => cB_E h) (by omega) k _ (Nat.le_refl _)]
      decide
    · by_cases z : k' = k
      · rw [z]
        exact p.2.1
      · intro s hs
        rw [p.2.2 _ (by omega), gJ_a, if_neg (by omega)]
        exact T1 k' (by omega) h2 s hs
  have eM : (nZ k = nZ M - 1) ↔ k + 1 = M := by
    rw [nZ_pre (by omega) (by omega), nZ_eq (by omega) (by omega)]
    omega
  have e1 : (nZ (257 * (k + 1)) + nZ (32 * nB g) + 1) = nZ (257 * (k + 1) + 32 * nB g + 1) := by rw [nZ_add, nZ_suc]
  by_cases z : k + 1 = M
  · rw [br_p (eM.mpr z), e1]
    simp (disch := omega) only [nZ_t, nZ_ix]
    rw [gd_p (by omega)]
    refine fin _ (Fr_flJ _ _ _ _ _ _ (by decide) rfl) fun k' h1 h2 s hs => ?_
    have : k' = k + 1 := by omega
    rw [this, gJ_flJ, if_pos (by omega)]
    unfold DD
    rw [z, Dv_M]
    decide
  · rw [br_n fun y => z (eM.mp y)]
    refine fin c (Fr.rf _ _) fun k' h1 h2 => ?_
    by_cases y : k' = M
    · rw [y]
      exact T2 (by omega)
    · exact T k' h1 (by omega)
theorem fa_L {g : Hp} (R : RC g) (P : RP g) {ow : Nat → Int32} {low : Int32} {wt : Nat → Nat} {M st : Nat} (hw : ∀ k, wt k < nH g) (hM : M ≤ 12) : ∀ (f k : Nat) (c : Hp), Sm fRC g c → Sm fRP g c → (∀ s, s < 32 * nB g → RchAt c (opW g ow (-1)) s) → (∀ k, k < M → gI c 50 0 k = nZ (wt k)) → gI c 10 0 5 = nZ M → (∀ k', k ≤ k' → k' < M → RowC g ow low wt M k' c) → (k < M → RowC g ow low wt M M c) → k ≤ M → k < f → Wp (fX10_seatAll_L94 f st low (nZ k + (-1)) c) (fun _ c' => Fr [51] c c' ∧ ∀ k', k' < M → RowC g ow low wt M k' c' ∧ RowC g ow low wt M M c') := by
  intro f
  induction f with
  | zero => intro k c _ _ _ _ _ _ _ _ q; omega
  | succ f ih =>
    intro k c s1 s2 hR hW h5 T T2 hk hf
    rw [fX10_seatAll_L94]
    by_cases q : k = 0
    · subst q
      rw [br_p (by decide), wp_some]
      exact ⟨Fr.rf _ _, fun k' h => ⟨T k' (by omega) h, T2 (by omega)⟩⟩
    · rw [nZ_dn (by omega) (by omega), br_n (by rw [nZ_neg (by omega)]; exact id)]
      refine wp_call (fb_t R P (k := k - 1) hw hM (by omega) s1 s2 hR hW h5 (fun k' h1 h2 => T k' (by omega) h2) (fun h => T2 (by omega))) fun _ c1 p => ?_
      simp only [lb_e]
      refine wp_mono (ih (k - 1) c1 (s1.tr (p.1.sm rfl)) (s2.tr (p.1.sm rfl)) (fun s hs => Rch_e (p.1.A 48 0 s rfl) (hR s hs)) (fun k h => by rw [p.1.A 50 0 k rfl]; exact hW k h) (by rw [p.1.I 10 0 5 rfl]; exact h5) (fun k' h1 h2 => p.2 k' h1 (by omega)) (fun h => p.2 M (by omega) (Nat.le_refl _)) (by omega) (by omega)) fun _ c2 p2 => ⟨p.1.tr p2.1, p2.2⟩
