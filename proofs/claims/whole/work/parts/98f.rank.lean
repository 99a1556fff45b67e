/-! ===== level 2: seats by rank, in step on both sides ===== -/
def fsN (Q : Nat → Bool) : Nat → Nat → Option Nat
  | 0, _ => none
  | n + 1, a => if Q a = true then some a else fsN Q n (a + 1)
theorem fsN_s {Q : Nat → Bool} : ∀ {n a s : Nat}, fsN Q n a = some s → a ≤ s ∧ s < a + n ∧ Q s = true := by
  intro n
  induction n with
  | zero => intro a s h; cases h
  | succ n ih =>
    intro a s h
    rw [fsN] at h
    by_cases z : Q a = true
    · rw [if_pos z] at h
      cases h
      exact ⟨Nat.le_refl _, by omega, z⟩
    · rw [if_neg z] at h
      have := ih h
      exact ⟨by omega, by omega, this.2.2⟩
theorem fsN_0 {Q : Nat → Bool} : ∀ {n a : Nat}, (∀ s, a ≤ s → s < a + n → Q s = false) → fsN Q n a = none := by
  intro n
  induction n with
  | zero => intro a _; rfl
  | succ n ih =>
    intro a h
    rw [fsN, if_neg (by rw [h a (Nat.le_refl _) (by omega)]; decide)]
    exact ih fun s h1 h2 => h s (by omega) (by omega)
theorem fsN_x {Q : Nat → Bool} {k : Nat} : ∀ {n a : Nat}, (∀ s, a + n ≤ s → s < a + n + k → Q s = false) → fsN Q (n + k) a = fsN Q n a := by
  intro n
  induction n with
  | zero => intro a h; rw [Nat.zero_add]; exact fsN_0 fun s h1 h2 => h s (by omega) (by omega)
  | succ n ih =>
    intro a h
    rw [show n + 1 + k = n + k + 1 by omega, fsN, fsN, ih fun s h1 h2 => h s (by omega) (by omega)]
/-- the k-th waiter's seats that keep the greatest sum -/
noncomputable def fQ (g : Hp) (ow : Nat → Int32) (low : Int32) (wt : Nat → Nat) (M k a s : Nat) : Bool := cB g ow low wt k s && decide (gN' g wt k s + DD g ow low wt M (k + 1) (s + wd g (wt k)) = DD g ow low wt M k a)
theorem fo29_L {g c : Hp} (R : RC g) (P : RP g) {ow : Nat → Int32} {low : Int32} {wt : Nat → Nat} {M k a : Nat} (hw : ∀ k, wt k < nH g) (hM : M ≤ 12) (hk : k < M) (ha : a ≤ 32 * nB g) (s1 : Sm fRC g c) (s2 : Sm fRP g c) (hR : ∀ s, s < 32 * nB g → RchAt c (opW g ow (-1)) s) (T : RowC g ow low wt M k c) (T1 : RowC g ow low wt M (k + 1) c) : ∀ f j, j ≤ 32 * nB g → 32 * nB g - j < f → bd (fX10_firstOfBest_L29 f (some (wt k)) (nZ a) low (nZ (257 * k)) (nZ (257 * (k + 1))) (nZ (32 * nB g)) (nZ j) c) (fun u11 h8 => ms u11 (fun r12 => some (r12, h8)) (fun v10 => some ((-1 : Int32), h8))) = some (enc (fsN (fQ g ow low wt M k a) (32 * nB g - j) j), c) := by
  obtain ⟨v1, v2, v3, v4⟩ := R.v
  have hdb := Dv_b (C := cB g ow low wt) (G := gN' g wt) (W := fun k => wd g (wt k)) (M := M) (gN_b R P hw)
  intro f
  induction f with
  | zero => intro j _ q; omega
  | succ f ih =>
    intro j hj hf
    rw [fX10_firstOfBest_L29]
    simp (disch := omega) only [lb_e, nZ_add, nZ_le, nZ_suc, nZ_ib, nZ_ix]
    by_cases q : j = 32 * nB g
    · rw [br_p (by omega), show 32 * nB g - j = 0 by omega]
      rfl
    · obtain ⟨x, ex, kx⟩ := sum_t R P (s := j) hw hM hk s1 s2 hR (by omega) T1
      have t := T a ha
      rw [br_n (by omega), bd_s ex, gd_p (by omega), show 32 * nB g - j = (32 * nB g - (j + 1)) + 1 by omega, fsN]
      have eq : (x = gJ c 51 0 (257 * k + a)) ↔ fQ g ow low wt M k a j = true := by
        rw [i64_eq, kx, t]
        unfold fQ
        rw [Bool.and_eq_true, decide_eq_true_iff]
        by_cases z : cB g ow low wt k j = true
        · rw [if_pos z]
          exact ⟨fun y => ⟨z, y⟩, fun y => y.2⟩
        · rw [if_neg z]
          have : 0 ≤ DD g ow low wt M k a := (hdb k a).1
          exact iff_of_false (by omega) fun y => z y.1
      by_cases z : fQ g ow low wt M k a j = true
      · rw [br_p (eq.mpr z), if_pos z]
        rfl
      · rw [br_n (fun y => z (eq.mp y)), if_neg z]
        exact ih (j + 1) (by omega) (by omega)
theorem fo_t {g c : Hp} (R : RC g) (P : RP g) {ow : Nat → Int32} {low : Int32} {wt : Nat → Nat} {M k a : Nat} (hw : ∀ k, wt k < nH g) (hM : M ≤ 12) (hk : k < M) (ha : a ≤ 32 * nB g) (s1 : Sm fRC g c) (s2 : Sm fRP g c) (hR : ∀ s, s < 32 * nB g → RchAt c (opW g ow (-1)) s) (T : RowC g ow low wt M k c) (T1 : RowC g ow low wt M (k + 1) c) : fX10_firstOfBest (nZ k) (some (wt k)) (nZ a) low c = some (enc (fsN (fQ g ow low wt M k a) (32 * nB g - a) a), c) := by
  obtain ⟨v1, v2, v3, v4⟩ := R.v
  have e7 : gI c 1 0 7 = nZ (nB g) := by rw [s1.I 1 0 7 (by decide)]; exact v1
  have e256 : nZ (257 * k) + 256 + 1 = nZ (257 * (k + 1)) := by
    show nZ (257 * k) + nZ 256 + nZ 1 = _
    rw [nZ_add, nZ_add]
    congr 1
  unfold fX10_firstOfBest fX1_spotsEnd
  simp only [lb_e, nZ_257x, e256, e7, nZ_32x]
  exact fo29_L R P hw hM hk ha s1 s2 hR T T1 FU a ha (by show _ < 100000; omega)
theorem r505_L {g m : Hp} (R : RC g) (P : RP g) {ow : Nat → Int32} {low : Int32} {wt : Nat → Nat} {M k a : Nat} (hw : ∀ k, wt k < nH g) (hM : M ≤ 12) (hk : k < M) (ha : a ≤ 256) (K : Mo g ow low wt M m) (hS : ∀ t, a ≤ t → t < 256 → ow t = -1 → gI m 106 0 t = 0) (T : RowM g ow low wt M k m) (T1 : RowM g ow low wt M (k + 1) m) (a3 a4 : Int32) : ∀ f j, a ≤ j → j ≤ 256 → 258 - j < f → ∃ w, fX12_seats_L505 f a3 a4 (nZ k) (nZ (wt k)) (gJ m 107 0 (257 * k + a)) (-1) (nZ j) m = some ((enc (fsN (fQ g ow low wt M k a) (256 - j) j), w), m) := by
  obtain ⟨k1, k2, k3, k4, k5, k6⟩ := id K
  have hH := P.2.2.1
  have hdb := Dv_b (C := cB g ow low wt) (G := gN' g wt) (W := fun k => wd g (wt k)) (M := M) (gN_b R P hw)
  have hwk := hw k
  obtain ⟨e66, p1, p2, e65, p3, p4, -⟩ := P.w hwk
  have h66 : gI m 66 0 (wt k) = nZ (wd g (wt k)) := by rw [k2.A 66 0 _ (by decide)]; exact e66
  have hib : ib (nZ (wt k)) 12 := by rw [nZ_ib (by omega)]; omega
  have e256 : ∀ {j : Nat}, j < 2147483648 → (((256 : Int32) ≤ nZ j) ↔ 256 ≤ j) := fun h => nZ_le (a := 256) (by decide) h
  have stop : ∀ (f s j : Nat), s < 256 → j < 1000 → 1 ≤ f → ∃ w, fX12_seats_L505 f a3 a4 (nZ k) (nZ (wt k)) (gJ m 107 0 (257 * k + a)) (nZ s) (nZ j) m = some ((nZ s, w), m) := fun f s j h1 h2 h3 => by
    cases f with
    | zero => omega
    | succ f =>
      rw [fX12_seats_L505]
      simp (disch := omega) only [e256]
      by_cases z : 256 ≤ j
      · exact ⟨_, br_p z⟩
      · rw [br_n z, br_n (show ¬ nZ s = -1 from fun y => (nZ_m1 (by omega)).mp y)]
        exact ⟨_, rfl⟩
  intro f
  induction f with
  | zero => intro j _ _ q; omega
  | succ f ih =>
    intro j h0 hj hf
    rw [fX12_seats_L505]
    simp (disch := omega) only [lb_e, e256, nZ_suc, nZ_x257, nZ_add]
    by_cases q : j = 256
    · rw [br_p (by omega), show 256 - j = 0 by omega]
      exact ⟨_, rfl⟩
    · obtain ⟨x, ex, kx⟩ := can_t R P (ow := ow) (low := low) (wt := wt) (k := k) (s := j) hwk k1 k2 k4 (by omega) k5 (fun t h1 h2 h3 => hS t (by omega) h2 h3)
      have t := T a ha
      rw [br_n (by omega), br_p trivial, bd_s ex, show 256 - j = (256 - (j + 1)) + 1 by omega, fsN]
      by_cases z : x = 0
      · have : ¬ fQ g ow low wt M k a j = true := fun y => kx.mp z (by unfold fQ at y; rw [Bool.and_eq_true] at y; exact y.1)
        rw [br_p z, if_neg this]
        exact ih (j + 1) (by omega) (by omega) (by omega)
      · have hc : cB g ow low wt k j = true := Classical.byContradiction fun y => z (kx.mpr y)
        have hr := (QB_t.mp hc).1
        have u32 := ((R.v).2.2.2 (j / 32) hr.1).2.2.2
        have hr2 := hr.2.1
        obtain ⟨y, ey, ky⟩ := gain_t R P hwk k1 k2 k3 (by omega) hc
        rw [br_n z, bd_s ey, gd_p hib, nZ_ix (by omega), h66]
        simp (disch := omega) only [nZ_add, nZ_ib, nZ_ix]
        rw [gd_p (by omega)]
        have t3 := T1 (j + wd g (wt k)) (by omega)
        rw [show 257 * (k + 1) + (j + wd g (wt k)) = 257 * (k + 1) + j + wd g (wt k) by omega] at t3
        have n3' := hdb (k + 1) (j + wd g (wt k))
        have n4' := gN_b R P (ow := ow) (low := low) hw k j hc
        have eq : (y + gJ m 107 0 (257 * (k + 1) + j + wd g (wt k)) = gJ m 107 0 (257 * k + a)) ↔ fQ g ow low wt M k a j = true := by
          have t3' : (gJ m 107 0 (257 * (k + 1) + j + wd g (wt k))).toInt = Dv (cB g ow low wt) (gN' g wt) (fun k => wd g (wt k)) M (k + 1) (j + wd g (wt k)) := t3
          rw [i64_eq, add64 (by rw [ky, t3']; omega) (by rw [ky, t3']; omega), ky, t3, t]
          unfold fQ
          rw [Bool.and_eq_true, decide_eq_true_iff]
          exact ⟨fun w => ⟨hc, w⟩, fun w => w.2⟩
        by_cases w : fQ g ow low wt M k a j = true
        · rw [br_p (eq.mpr w), if_pos w]
          exact stop f j (j + 1) (by omega) (by omega) (by omega)
        · rw [br_n (fun y => w (eq.mp y)), if_neg w]
          exact ih (j + 1) (by omega) (by omega) (by omega)
/-- while seats by rank are given -/
def CiK (g : Hp) (ow : Nat → Int32) (low : Int32) (st M : Nat) (wt : Nat → Nat) (c0 c m : Hp) (k a : Nat) : Prop := Bo g c m ow st ∧ Mo g ow low wt M m ∧ (∀ k, k < M → gI c 50 0 k = nZ (wt k)) ∧ gI c 10 0 5 = nZ M ∧ (∀ s, s < 32 * nB g → RchAt c (opW g ow (-1)) s) ∧ (∀ k', k' ≤ M → 0 < M → RowC g ow low wt M k' c) ∧ (∀ k', k' ≤ M → RowM g ow low wt M k' m) ∧ (∀ i, i < nH g → Sq g c m st i) ∧ (∀ i, nH g ≤ i → i < 12 → gI c 41 st i = -1) ∧ (∀ k', k ≤ k' → k' < M → gI c 41 st (wt k') = -1 ∧ gI m 99 0 (wt k') = -1) ∧ (∀ t, a ≤ t → t < 256 → ow t = -1 → gI m 106 0 t = 0) ∧ gI c 8 st 4 = nZ (cnt (fun i => !decide (gI m 99 0 i = -1)) (nH g)) ∧ Oth st c0 c
def wKc : List Nat := [41, 42, 43, 44, 9004]
theorem rk_L {g : Hp} (R : RC g) (P : RP g) {ow : Nat → Int32} {low : Int32} {wt : Nat → Nat} {M st : Nat} {c0 : Hp} (hw : ∀ k, wt k < nH g) (hinj : ∀ k l, k < M → l < M → wt k = wt l → k = l) (hM : M ≤ 12) : ∀ (f k a : Nat) (c m : Hp), k ≤ M → M - k < f → a ≤ 32 * nB g → CiK g ow low st M wt c0 c m k a → ∃ v c' w m' a', fX10_seatByRank_L5 f st low (nZ a) (nZ k) c = some (v, c') ∧ fX12_seats_L467 f (nZ M) (nZ a) (nZ k) m = some (w, m') ∧ CiK g ow low st M wt c0 c' m' M a' ∧ Fr wKc c c' ∧ Fr wTk m m' := by
  obtain ⟨v1, v2, v3, v4⟩ := R.v
  have hH := P.2.2.1
  intro f
  induction f with
  | zero => intro k a c m _ q; omega
  | succ f ih =>
    intro k a c m hk hf ha K
    obtain ⟨B, Mm, w50, w5, hR, TC, TM, SQ, S12, Sw, S6, s4, Ot⟩ := id K
    obtain ⟨b1, b2, b3, b4, b5, b6, b7⟩ := id B
    rw [fX10_seatByRank_L5, fX12_seats_L467, w5]
    simp (disch := omega) only [lb_e, nZ_le, nZ_suc, nZ_ib, nZ_ix, nZ_x257, nZ_add]
    by_cases q : k = M
    · subst q
      rw [br_p (by omega), br_p (by omega)]
      exact ⟨_, c, _, m, a, rfl, rfl, K, Fr.rf _ _, Fr.rf _ _⟩
    · have hwk := hw k
      obtain ⟨e66, p1, p2, e65, p3, p4, -⟩ := P.w hwk
      have Pc := RP_sm b2 P
      obtain ⟨-, -, -, -, -, -, q0, q1, q2⟩ := Pc.w (i := wt k) (by rw [nH_sm b2]; exact hwk)
      have ewd : wd c (wt k) = wd g (wt k) := by unfold wd; rw [b2.A 66 0 _ (by decide)]
      rw [ewd] at q1
      rw [b2.A 67 0 _ (by decide)] at q2
      have h66 : gI m 66 0 (wt k) = nZ (wd g (wt k)) := by rw [b4.A 66 0 _ (by decide)]; exact e66
      have hib : ib (nZ (wt k)) 12 := by rw [nZ_ib (by omega)]; omega
      simp only [gd_p (by omega : k < 12), gd_p (by omega : 257 * k + a < 3341)]
      obtain ⟨w0, e5⟩ := r505_L R P hw hM (by omega : k < M) (by omega : a ≤ 256) Mm S6 (TM k hk) (TM (k + 1) (by omega)) (nZ M) (nZ a) FU a (Nat.le_refl _) (by omega) (by show _ < 100000; omega)
      have eF : fsN (fQ g ow low wt M k a) (256 - a) a = fsN (fQ g ow low wt M k a) (32 * nB g - a) a := by
        rw [show 256 - a = (32 * nB g - a) + (256 - 32 * nB g) by omega]
        exact fsN_x fun s h1 h2 => by
          unfold fQ
          rw [cB_E (by omega)]
          rfl
      rw [eF] at e5
      rw [br_n (by omega), br_n (by omega), w50 k (by omega), bd_s (find4_t Pc (by rw [nH_sm b2]; exact hwk)), bd_s (fo_t R P hw hM (by omega) ha b1 b2 hR (TC k hk (by omega)) (TC (k + 1) (by omega) (by omega))), mt_s rfl, Mm.2.2.2.2.2 k (by omega), bd_s e5]
      simp only [lb_e]
      cases e : fsN (fQ g ow low wt M k a) (32 * nB g - a) a with
      | none =>
        rw [br_p (show enc none = -1 from rfl), br_p (show enc none = -1 from rfl)]
        exact ih (k + 1) a c m (by omega) (by omega) ha ⟨B, Mm, w50, w5, hR, TC, TM, SQ, S12, fun k' h1 h2 => Sw k' (by omega) h2, S6, s4, Ot⟩
      | some s =>
        obtain ⟨h1, h2, h3⟩ := fsN_s e
        have hc : cB g ow low wt k s = true := by unfold fQ at h3; rw [Bool.and_eq_true] at h3; exact h3.1
        have hr := (QB_t.mp hc).1
        have u32 := (v4 (s / 32) hr.1).2.2.2
        have hr2 := hr.2.1
        have ns : ¬ nZ s = -1 := fun y => (nZ_m1 (by omega)).mp y
        have es : enc (some s) = nZ s := rfl
        have ew := worth1 (RC_sm b1 R) (b := s / 32) (u := s % 32) (w := wd g (wt k)) (by rw [nB_sm b1]; exact hr.1) p1 (by rw [un_sm b1]; exact hr.2.1) (gI g 67 0 (wt k))
        rw [show 32 * (s / 32) + s % 32 = s by omega, wS_sm (sRC_w b1)] at ew
        obtain ⟨c1, ec1, pt⟩ := put_t (c := c) (st := st) (i := wt k) (a := nZ s) (w := nZ (wd g (wt k))) (v := wS g s (wd g (wt k)) (gI g 67 0 (wt k))) (r := 0) b6 (by omega) (Or.inl rfl)
        obtain ⟨vm, m1', em1, fm, t99, t100, t101, t104, t106⟩ := takes_t (RC_sm b3 R) (RP_sm b4 P) b5 (a4 := 0) (Or.inl rfl) (i := wt k) (b := s / 32) (v := s % 32) (by rw [nH_sm b4]; exact hwk) (by rw [nB_sm b3]; exact hr.1) (by rw [show wd m (wt k) = wd g (wt k) from by unfold wd; rw [b4.A 66 0 _ (by decide)], un_sm b3]; exact hr.2.1)
        have ewm : wd m (wt k) = wd g (wt k) := by unfold wd; rw [b4.A 66 0 _ (by decide)]
        rw [ewm, b4.A 67 0 _ (by decide), wS_sm (sRC_w b3), show 32 * (s / 32) + s % 32 = s by omega] at t101
        rw [ewm, show 32 * (s / 32) + s % 32 = s by omega] at t106
        simp only [es]
        rw [br_n ns, br_n ns]
        rw [q1, q2, bd_s ew, w50 k (by omega), q1, bd_s ec1, gd_p hib, nZ_d32 (by omega), nZ_m32 (by omega), bd_s em1, nZ_ix (by omega), h66]
        obtain ⟨pf, p41, p42, p43, p44, p84⟩ := id pt
        have ef : nZ s + gI c1 2 (wt k) 1 = nZ (s + wd g (wt k)) := by
          rw [pf.I 2 (wt k) 1 rfl, q1]
          exact nZ_add s _
        rw [ef, nZ_add]
        have fmo : Fr wTk m m1' := fm
        have K' : CiK g ow low st M wt c0 c1 m1' (k + 1) (s + wd g (wt k)) := by
          refine ⟨Bo_fr B pf fm rfl rfl rfl rfl rfl rfl, ?_, fun k' h => ?_, ?_, fun t ht => Rch_e (pf.A 48 0 t rfl) (hR t ht), fun k' h1 h2 t ht => ?_, fun k' h1 t ht => ?_, fun i hi => ?_, fun i h1 h2 => ?_, fun k' h1 h2 => ?_, fun t h1 h2 h3 => ?_, ?_, Oth_put Ot pt⟩
          · obtain ⟨k1, k2, k3, k4, k5, k6⟩ := Mm
            exact ⟨k1.tr (fm.sm rfl), k2.tr (fm.sm rfl), LT_sm (fm.sm rfl) (fm.sm rfl) k3, by rw [fm.I 12 0 17 rfl]; exact k4, fun t h => by rw [fm.A 105 0 t rfl]; exact k5 t h, fun k h => by rw [fm.A 103 0 k rfl]; exact k6 k h⟩
          · rw [pf.A 50 0 k' rfl]
            exact w50 k' h
          · rw [pf.I 10 0 5 rfl]
            exact w5
          · rw [pf.AJ 51 0 _ rfl]
            exact TC k' h1 h2 t ht
          · rw [fm.AJ 107 0 _ rfl]
            exact TM k' h1 t ht
          · unfold Sq
            rw [p41, p42, p43, p44, t99, t100, t101, t104]
            by_cases z : i = wt k
            · rw [z]
              simp only [and_self, if_true]
              exact Or.inr ⟨s / 32, s % 32, by rw [show 32 * (s / 32) + s % 32 = s by omega], (by first | rfl | trivial), (by first | rfl | trivial), (by first | rfl | trivial), (by first | rfl | trivial), (by first | rfl | trivial), Or.inl (by first | rfl | trivial), hr.1, hr.2.1⟩
            · simp only [true_and, if_neg z]
              exact SQ i hi
          · rw [p41, if_neg fun y => by have := y.2; omega]
            exact S12 i h1 h2
          · have hne : wt k' ≠ wt k := fun y => by have := hinj k' k h2 (by omega) y; omega
            rw [p41, if_neg fun y => hne y.2, t99, if_neg hne]
            exact Sw k' (by omega) h2
          · rw [t106, if_neg (by omega)]
            exact S6 t (by omega) h2 h3
          · rw [p84, if_pos rfl, s4, nZ_suc]
            congr 1
            refine (cnt_upd (i := wt k) hwk (fun j hj => ?_) ?_ ?_).symm
            · rw [t99, if_neg hj]
            · rw [(Sw k (Nat.le_refl _) (by omega)).2]
              rfl
            · rw [t99, if_pos rfl]
              have : ¬ nZ (s / 32) = -1 := fun y => (nZ_m1 (by omega)).mp y
              simp [this]
        obtain ⟨v, c', w, m', a', g1, g2, g3, g4, g5⟩ := ih (k + 1) (s + wd g (wt k)) c1 m1' (by omega) (by omega) (by omega) K'
        exact ⟨v, c', w, m', a', g1, g2, g3, pf.tr g4, fm.tr g5⟩
