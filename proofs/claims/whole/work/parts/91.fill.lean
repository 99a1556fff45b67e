/-! ===== level 2: the class's owners of all spots; benchOf ===== -/
theorem of256 : Int32.ofNat 256 = nZ 256 := rfl
/-- the best right of a spot among the first n -/
def bS (m : Hp) (s y n : Nat) : Option Nat := bR (PR m (s / 32) (s % 32) y y fun _ => true) (btr m) n
theorem mark_L {H : Nat} {yy : Int} {B : Nat} {u : Nat → Nat} {m : Hp} {r y st n' : Nat} (hr : r < nR m) (hst : st + n' ≤ 256) (hP : ∀ s, st ≤ s → s < st + n' → PR m (s / 32) (s % 32) y y (fun _ => true) r = true) : ∀ (n j : Nat) (c : Hp), RR H yy B u c m → gI c 5 r 4 = nZ n' → j ≤ n' → n' - j < n → (∀ s, st + j ≤ s → s < st + n' → gI c 34 0 s = enc (bS m s y r)) → Wp (fX3_markBest_L16 n r (nZ r) (nZ st) (nZ (st + j)) c) (fun _ c' => Fr [34] c c' ∧ ∀ s, gI c' 34 0 s = if st + j ≤ s ∧ s < st + n' then enc (bS m s y (r + 1)) else gI c 34 0 s) := by
  intro n
  induction n with
  | zero => intro j c _ _ _ q; omega
  | succ n ih =>
    intro j c T e4 hj hn K
    have r3 := T.2.2.1
    rw [fX3_markBest_L16, e4]
    simp (disch := omega) only [of256, nZ_add, nZ_le, nZ_suc, nZ_ib, nZ_ix, lb_e]
    by_cases q : j = n'
    · rw [br_p (by omega), wp_some]
      refine ⟨Fr.rf _ _, fun s => ?_⟩
      rw [if_neg (by omega)]
    · rw [br_n (by omega), br_n (by omega), gd_p (by omega), K (st + j) (by omega) (by omega)]
      have eP := hP (st + j) (by omega) (by omega)
      have set : ∀ v : Int32, v = enc (bS m (st + j) y (r + 1)) → ∀ c2 : Hp, (∀ s, gI c2 34 0 s = if s = st + j then v else gI c 34 0 s) → Fr [34] c c2 → Wp (fX3_markBest_L16 n r (nZ r) (nZ st) (nZ (st + j + 1)) c2) (fun _ c' => Fr [34] c c' ∧ ∀ s, gI c' 34 0 s = if st + j ≤ s ∧ s < st + n' then enc (bS m s y (r + 1)) else gI c 34 0 s) := by
        intro v hv c2 e2 f2
        refine wp_mono (ih (j + 1) c2 (RR_c (f2.sm rfl) T) (by rw [f2.I 5 r 4 rfl]; exact e4) (by omega) (by omega) fun s h1 h2 => by rw [e2 s, if_neg (by omega)]; exact K s (by omega) h2) fun _ c' k => ⟨f2.tr k.1, fun s => ?_⟩
        rw [k.2 s, e2 s]
        by_cases z : s = st + j
        · rw [if_neg (by omega), if_pos z, if_pos (by omega), z]
          exact hv
        · by_cases z2 : st + (j + 1) ≤ s ∧ s < st + n'
          · rw [if_pos z2, if_pos (by omega)]
          · rw [if_neg z2, if_neg z, if_neg (by omega)]
      cases e : bS m (st + j) y r with
      | none =>
        show Wp (bd (fX3_find m1 c) _) _
        rw [bd_s (find3_f T (by rw [m1_t]; omega)), mt_n rfl, gd_p (by omega)]
        refine set (nZ r) ?_ _ (fun s => gI_a) (Fr_I _ _ _ _ _ rfl)
        show nZ r = enc (bR _ _ (r + 1))
        rw [bR_f eP e]
        rfl
      | some q =>
        have hq := (bR_P e).2
        show Wp (bd (fX3_find (nZ q) c) _) _
        rw [bd_s (find3_t T (by omega)), mt_s rfl, better5 T hr (by omega)]
        have nx : bS m (st + j) y (r + 1) = if btr m r q = true then some r else some q := bR_b eP e
        by_cases z : btr m r q = true
        · rw [if_pos z] at nx ⊢
          rw [br_n (by decide), gd_p (by omega)]
          refine set (nZ r) ?_ _ (fun s => gI_a) (Fr_I _ _ _ _ _ rfl)
          rw [nx]
          rfl
        · rw [if_neg z] at nx ⊢
          rw [br_p rfl]
          refine set (nZ q) ?_ c (fun s => ?_) (Fr.rf _ _)
          · rw [nx]
            rfl
          · by_cases w : s = st + j
            · rw [if_pos w, w, K (st + j) (by omega) (by omega), e]
              rfl
            · rw [if_neg w]
theorem fo_L {H : Nat} {yy : Int} {B : Nat} {u : Nat → Nat} {m : Hp} {y : Nat} (hB : B ≤ 8) (hu : ∀ b, b < B → u b ≤ 32) (hy : y ≤ 199) : ∀ (n j : Nat) (c : Hp), RR H yy B u c m → RPl H c m → j ≤ nR m → nR m - j < n → (∀ s, s < 256 → gI c 34 0 s = enc (bS m s y j)) → Wp (fX3_fillOwners_L10 n (nZ y) (nZ j) c) (fun _ c' => Fr [34] c c' ∧ ∀ s, s < 256 → gI c' 34 0 s = enc (bS m s y (nR m))) := by
  intro n
  induction n with
  | zero => intro j c _ _ _ q; omega
  | succ n ih =>
    intro j c T L hj hn K
    have T' := T
    obtain ⟨r1, r2, r3, r4, r5⟩ := T'
    rw [fX3_fillOwners_L10, r2]
    simp (disch := omega) only [lb_e, nZ_le, nZ_suc, nZ_ib, nZ_ix]
    by_cases q : j = nR m
    · subst q
      rw [br_p (by omega), wp_some]
      exact ⟨Fr.rf _ _, K⟩
    · have hj' : j < nR m := by omega
      rw [br_n (by omega), bd_s (find3_t T hj'), mt_s rfl]
      have skip : (∀ s, s < 256 → PR m (s / 32) (s % 32) y y (fun _ => true) j = false) → Wp (fX3_fillOwners_L10 n (nZ y) (nZ (j + 1)) c) (fun _ c' => Fr [34] c c' ∧ ∀ s, s < 256 → gI c' 34 0 s = enc (bS m s y (nR m))) := fun e => ih (j + 1) c T L (by omega) (by omega) fun s hs => by
        rw [K s hs]
        unfold bS
        rw [bR_n (e s hs)]
      by_cases q2 : act m j y y = false
      · rw [br_p ((isFor5 T hj' hy hy).mpr q2)]
        exact skip fun s hs => PR_0 (Or.inr (Or.inl q2))
      · rw [br_n (fun z => q2 ((isFor5 T hj' hy hy).mp z)), bd_s (holder_t T L hj' hy)]
        by_cases q3 : hol m j y = -1
        · rw [br_p q3]
          exact skip fun s hs => PR_0 (Or.inr (Or.inr (Or.inl q3)))
        · rw [br_n q3]
          have R := r5 j hj'
          obtain ⟨b1, b2, b3, b4, b5, b6, b7, b8, b9, b10, b11, b12, b13, b14, b15, b16, b17, b18, ⟨b', f', n', e1, e2, e3, g4, g5, g6⟩, b20⟩ := R
          have hub := hu b' g4
          have on : ∀ s, s < 256 → (onU m j (s / 32) (s % 32) = true ↔ 32 * b' + f' ≤ s ∧ s < 32 * b' + f' + n') := fun s hs => by
            unfold onU
            rw [decide_eq_true_iff, e1, e2, e3]
            simp (disch := omega) only [nZ_eq, nZ_t]
            omega
          have mk : Wp (fX3_markBest j (nZ j) c) (fun _ c' => Fr [34] c c' ∧ ∀ s, gI c' 34 0 s = if 32 * b' + f' ≤ s ∧ s < 32 * b' + f' + n' then enc (bS m s y (j + 1)) else gI c 34 0 s) := by
            unfold fX3_markBest
            rw [b4, b5, e1, e2]
            simp only [lb_e, nZ_32x, nZ_add]
            refine wp_call (mark_L (st := 32 * b' + f') (n' := n') hj' (by omega) (fun s h1 h2 => PR_1 ((on s (by omega)).mpr ⟨h1, h2⟩) (by simpa using q2) q3 rfl) FU 0 c T (by rw [b6]; exact e3) (by omega) (by show _ < 100000; omega) fun s h1 h2 => K s (by omega)) fun _ c' k => wp_some.mpr k
          refine wp_call mk fun _ c' k => ?_
          refine wp_mono (ih (j + 1) c' (RR_c (k.1.sm rfl) T) (RPl_sm (k.1.sm rfl) (Fr.sm (Fr.rf [] _) rfl) L) (by omega) (by omega) fun s hs => ?_) fun _ c2 k2 => ⟨k.1.tr k2.1, k2.2⟩
          rw [k.2 s]
          by_cases z : 32 * b' + f' ≤ s ∧ s < 32 * b' + f' + n'
          · rw [if_pos z]
          · rw [if_neg z, K s hs]
            unfold bS
            rw [bR_n (PR_0 (Or.inl (by
              cases w : onU m j (s / 32) (s % 32) with
              | false => rfl
              | true => exact absurd ((on s hs).mp w) z)))]
theorem fo_2 {H : Nat} {yy : Int} {B : Nat} {u : Nat → Nat} {m : Hp} {y : Nat} (hy : y ≤ 199) : ∀ (n j : Nat) (c : Hp), RR H yy B u c m → RPl H c m → j ≤ 256 → 256 - j < n → (∀ s, s < 256 → gI c 34 0 s = enc (bS m s y (nR m))) → Wp (fX3_fillOwners_L65 n (nZ y) (nZ j) c) (fun _ c' => Fr [53] c c' ∧ ∀ s, gI c' 53 0 s = if j ≤ s ∧ s < 256 then owS m (s / 32) (s % 32) y y else gI c 53 0 s) := by
  intro n
  induction n with
  | zero => intro j c _ _ _ q; omega
  | succ n ih =>
    intro j c T L hj hn K
    have r3 := T.2.2.1
    rw [fX3_fillOwners_L65]
    simp (disch := omega) only [of256, lb_e, nZ_le, nZ_suc, nZ_ib, nZ_ix]
    by_cases q : j = 256
    · rw [br_p (by omega), wp_some]
      refine ⟨Fr.rf _ _, fun s => ?_⟩
      rw [if_neg (by omega)]
    · rw [br_n (by omega), br_n (by omega), gd_p (by omega), K j (by omega)]
      have eh : fX3_holderOf (enc (bS m j y (nR m))) (nZ y) c = some (owS m (j / 32) (j % 32) y y, c) := by
        unfold owS bS
        cases e : bR (PR m (j / 32) (j % 32) y y fun _ => true) (btr m) (nR m) with
        | none => exact holder_n T _
        | some r => exact holder_t T L (bR_P e).2 hy
      rw [bd_s eh, gd_p (by omega)]
      have f1 : Fr [53] c (sI c 53 0 j (owS m (j / 32) (j % 32) y y)) := Fr_I _ _ _ _ _ rfl
      refine wp_mono (ih (j + 1) _ (RR_c (f1.sm rfl) T) (RPl_sm (f1.sm rfl) (Fr.sm (Fr.rf [] _) rfl) L) (by omega) (by omega) fun s hs => by rw [gI_o (by decide)]; exact K s hs) fun _ c' k => ⟨f1.tr k.1, fun s => ?_⟩
      rw [k.2 s, gI_a]
      by_cases z : s = j
      · rw [if_neg (by omega), if_pos z, if_pos (by omega), z]
      · by_cases z2 : j + 1 ≤ s ∧ s < 256
        · rw [if_pos z2, if_pos (by omega)]
        · rw [if_neg z2, if_neg z, if_neg (by omega)]
theorem fill_t {H : Nat} {yy : Int} {B : Nat} {u : Nat → Nat} {c m : Hp} {y : Nat} (hB : B ≤ 8) (hu : ∀ b, b < B → u b ≤ 32) (hy : y ≤ 199) (T : RR H yy B u c m) (L : RPl H c m) : Wp (fX3_fillOwners (nZ y) c) (fun _ c' => Fr [34, 53] c c' ∧ ∀ s, s < 256 → gI c' 53 0 s = owS m (s / 32) (s % 32) y y) := by
  unfold fX3_fillOwners
  rw [lb_e]
  have r3 := T.2.2.1
  have f1 : Fr [34] c (flI c 34 0 0 256 (-1)) := Fr_flI _ _ _ _ _ _ (by decide) rfl
  refine wp_call (fo_L hB hu hy FU 0 _ (RR_c (f1.sm rfl) T) (RPl_sm (f1.sm rfl) (Fr.sm (Fr.rf [] _) rfl) L) (by omega) (by show _ < 100000; omega) fun s hs => ?_) fun _ c2 k2 => ?_
  · rw [gI_flI, if_pos ⟨rfl, rfl, by omega, hs⟩]
    rfl
  · have f2 := f1.tr k2.1
    refine wp_call (fo_2 hy FU 0 c2 (RR_c (f2.sm rfl) T) (RPl_sm (f2.sm rfl) (Fr.sm (Fr.rf [] _) rfl) L) (by omega) (by show _ < 100000; omega) k2.2) fun _ c3 k3 => wp_some.mpr ⟨(f2.wk rfl).tr (k3.1.wk rfl), fun s hs => ?_⟩
    rw [k3.2 s, if_pos ⟨by omega, hs⟩]
/-- how many below n -/
def cnt (p : Nat → Bool) : Nat → Nat
  | 0 => 0
  | n + 1 => cnt p n + if p n = true then 1 else 0
theorem cnt_le (p : Nat → Bool) : ∀ n, cnt p n ≤ n := by
  intro n
  induction n with
  | zero => exact Nat.le_refl _
  | succ n ih =>
    rw [cnt]
    split <;> omega
theorem cnt_t {p : Nat → Bool} {n : Nat} (h : p n = true) : cnt p (n + 1) = cnt p n + 1 := by rw [cnt, if_pos h]
theorem cnt_f {p : Nat → Bool} {n : Nat} (h : ¬ p n = true) : cnt p (n + 1) = cnt p n := by rw [cnt, if_neg h]; rfl
theorem cnt_ext {p q : Nat → Bool} : ∀ {n : Nat}, (∀ i, i < n → p i = q i) → cnt p n = cnt q n := by
  intro n
  induction n with
  | zero => intro _; rfl
  | succ n ih =>
    intro h
    rw [cnt, cnt, ih fun i hi => h i (by omega), h n (by omega)]
theorem owned_L {c : Hp} {b w : Nat} (hb : b < 8) (hw : w ≤ 32) (e : gI c 28 0 b = nZ w) : ∀ n j, j ≤ w → w - j < n → ∃ v, fX11_ownedUnits_L19 n (nZ b) (nZ (cnt (fun v => !decide (gI c 53 0 (32 * b + v) = -1)) j)) (nZ j) c = some ((nZ (cnt (fun v => !decide (gI c 53 0 (32 * b + v) = -1)) w), v), c) := by
  intro n
  induction n with
  | zero => intro j _ q; omega
  | succ n ih =>
    intro j hj hn
    rw [fX11_ownedUnits_L19]
    simp (disch := omega) only [lb_e, nZ_32x, nZ_add, nZ_ix, e, nZ_le, nZ_suc, nZ_ib]
    rw [gd_p (by omega)]
    by_cases q : j = w
    · subst q
      rw [br_p (by omega)]
      exact ⟨_, rfl⟩
    · rw [br_n (by omega), gd_p (by omega)]
      have nx := ih (j + 1) (by omega) (by omega)
      by_cases z : gI c 53 0 (32 * b + j) = -1
      · rw [br_p z]
        rw [cnt_f (by simp [z])] at nx
        exact nx
      · rw [br_n z]
        rw [cnt_t (by simp [z])] at nx
        exact nx
theorem nZ_p0 (a : Nat) : nZ a + 0 = nZ a := nZ_add a 0
theorem bench_L {H : Nat} {yy : Int} {B : Nat} {u : Nat → Nat} {c m : Hp} (T : RR H yy B u c m) (hB : B ≤ 8) (hu : ∀ b, b < B → u b ≤ 32) {b w y : Nat} (a2 : Int32) (hb : b < 8) (hw : w ≤ 32) (hy : y ≤ 199) (e : gI m 63 0 b = nZ w) (ey : gI m 12 0 5 = nZ y) : ∀ n j, j ≤ w → w - j < n → ∃ v, fX12_benchOf_L21 n (nZ b) a2 (nZ (cnt (fun v => !decide (owS m b v y y = -1)) j)) (nZ j) m = some ((nZ (cnt (fun v => !decide (owS m b v y y = -1)) w), v), m) := by
  intro n
  induction n with
  | zero => intro j _ q; omega
  | succ n ih =>
    intro j hj hn
    rw [fX12_benchOf_L21]
    simp (disch := omega) only [lb_e, nZ_ix, e, ey, nZ_le, nZ_suc, nZ_ib, nZ_p0]
    rw [gd_p (by omega)]
    by_cases q : j = w
    · subst q
      rw [br_p (by omega)]
      exact ⟨_, rfl⟩
    · rw [br_n (by omega), bd_s (owner_t T hB hu hb (by omega) hy hy)]
      have nx := ih (j + 1) (by omega) (by omega)
      by_cases z : owS m b j y y = -1
      · rw [br_p z]
        rw [cnt_f (by simp [z])] at nx
        exact nx
      · rw [br_n z]
        rw [cnt_t (by simp [z])] at nx
        exact nx
