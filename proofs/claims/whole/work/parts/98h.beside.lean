/-! ===== level 2: beside ===== -/
theorem owS_n {H : Nat} {yy : Int} {c m : Hp} {B : Nat} {u : Nat → Nat} (T : RR H yy B u c m) (hB : B ≤ 8) (hu : ∀ b, b < B → u b ≤ 32) {b v y k : Nat} (hb : b < 8) (hv : v < 32) (h : ¬ (b < B ∧ v < u b)) : owS m b v y k = -1 := by
  unfold owS
  have : bR (PR m b v y k fun _ => true) (btr m) (nR m) = none := by
    cases e : bR (PR m b v y k fun _ => true) (btr m) (nR m) with
    | none => rfl
    | some r =>
      obtain ⟨e1, e2⟩ := bR_P e
      unfold PR at e1
      simp only [Bool.and_eq_true] at e1
      have on := of_decide_eq_true e1.1.1.1
      obtain ⟨-, -, -, -, -, -, -, -, -, -, -, -, -, -, -, -, -, -, ⟨b', f', n', g1, g2, g3, g4, g5, g6⟩, -⟩ := T.2.2.2.2 r e2
      rw [g1, g2, g3] at on
      have := hu b' g4
      rw [nZ_eq (by omega) (by omega), nZ_t (by omega), nZ_t (by omega)] at on
      rw [← on.1] at h
      omega
  rw [this]
theorem owS_sm {m m' : Hp} (e : Sm [69, 70, 71, 72, 73, 74, 75, 76, 77, 78, 79, 80] m m') (eR : nR m' = nR m) (b v y k : Nat) : owS m' b v y k = owS m b v y k := by
  have a1 : PR m' b v y k (fun _ => true) = PR m b v y k (fun _ => true) := by
    funext r
    unfold PR onU act toY hol
    simp (disch := decide) only [e.A]
  have a2 : btr m' = btr m := by
    funext r q
    unfold btr
    simp (disch := decide) only [e.A]
  have a4 : ∀ r, hol m' r y = hol m r y := fun r => by
    unfold hol
    simp (disch := decide) only [e.A]
  unfold owS
  rw [a1, a2, eR]
  simp only [a4]
theorem s6_L {g : Hp} {H y B : Nat} {yy : Int} {u : Nat → Nat} (hB : B = nB g) (hu : u = un g) (R : RC g) (hy : y ≤ 199) {ow : Nat → Int32} : ∀ (f j : Nat) (m : Hp), Sm fRC g m → (∃ c, RR H yy B u c m) → (∀ s, s < 256 → owS m (s / 32) (s % 32) y y = ow s) → gI m 12 0 5 = nZ y → j ≤ 256 → 256 - j < f → (∀ s, s < j → gI m 106 0 s = 0 ∧ gI m 105 0 s = ow s) → Wp (fX12_seats_L6 f 0 (nZ j) m) (fun _ m2 => Fr [105, 106] m m2 ∧ ∀ s, s < 256 → gI m2 106 0 s = 0 ∧ gI m2 105 0 s = ow s) := by
  obtain ⟨v1, v2, v3, v4⟩ := R.v
  obtain ⟨hB8, hu32⟩ := R.u32
  intro f
  induction f with
  | zero => intro j m _ _ _ _ _ q; omega
  | succ f ih =>
    intro j m s3 T ho ey hj hf K
    rw [fX12_seats_L6]
    have e256 : ((256 : Int32) ≤ nZ j) ↔ 256 ≤ j := nZ_le (a := 256) (by decide) (by omega)
    simp (disch := omega) only [lb_e, e256, nZ_suc, nZ_ib, nZ_ix]
    by_cases q : j = 256
    · rw [br_p (by omega), wp_some]
      exact ⟨Fr.rf _ _, fun s hs => K s (by omega)⟩
    · obtain ⟨c, T'⟩ := T
      have e7 : gI m 12 0 7 = nZ (nB g) := by rw [s3.I 12 0 7 (by decide)]; exact v2
      simp only [gd_p (by omega : j < 256)]
      rw [br_n (by omega), br_p trivial, nZ_d32 (by omega), nZ_m32 (by omega), gI_o (by decide), e7]
      have f0 : Fr [105, 106] m (sI m 106 0 j 0) := Fr_I _ _ _ _ _ rfl
      have fin : ∀ x : Int32, x = ow j → Wp (fX12_seats_L6 f 0 (nZ (j + 1)) (sI (sI m 106 0 j 0) 105 0 j x)) (fun _ m2 => Fr [105, 106] m m2 ∧ ∀ s, s < 256 → gI m2 106 0 s = 0 ∧ gI m2 105 0 s = ow s) := by
        intro x hx
        have f1 : Fr [105, 106] m (sI (sI m 106 0 j 0) 105 0 j x) := f0.tr (Fr_I _ _ _ _ _ rfl)
        refine wp_mono (ih (j + 1) _ (s3.tr (f1.sm rfl)) ⟨c, RR_m (f1.sm rfl) T'⟩ (fun s hs => by rw [owS_sm (f1.sm rfl) (nR_sm (f1.sm rfl))]; exact ho s hs) (by rw [f1.I 12 0 5 rfl]; exact ey) (by omega) (by omega) fun s hs => ?_) fun _ m2 p => ⟨f1.tr p.1, p.2⟩
        rw [gI_o (by decide), gI_a, gI_a, gI_o (by decide)]
        by_cases z : s = j
        · rw [if_pos z, if_pos z, z]
          exact ⟨rfl, hx⟩
        · rw [if_neg z, if_neg z]
          exact K s (by omega)
      have oj := ho j (by omega)
      simp only [nZ_le (by omega : nB g < 2147483648) (by omega : j / 32 < 2147483648)]
      by_cases z1 : nB g ≤ j / 32
      · rw [br_p z1]
        refine fin (-1) ?_
        rw [← oj, owS_n T' (by omega) (by rw [hB, hu]; exact hu32) (by omega) (by omega) (by omega)]
      · obtain ⟨w1, w2, w3, w4⟩ := v4 (j / 32) (by omega)
        have e63 : gI (sI m 106 0 j 0) 63 0 (j / 32) = nZ (un g (j / 32)) := by rw [gI_o (by decide), s3.A 63 0 _ (by decide)]; exact w2
        rw [br_n z1, gd_p (by rw [nZ_ib (by omega)]; omega), nZ_ix (by omega), e63]
        simp only [nZ_le (by omega : un g (j / 32) < 2147483648) (by omega : j % 32 < 2147483648)]
        by_cases z2 : un g (j / 32) ≤ j % 32
        · rw [br_p z2]
          refine fin (-1) ?_
          rw [← oj, owS_n T' (by omega) (by rw [hB, hu]; exact hu32) (by omega) (by omega) (by rw [hu]; omega)]
        · rw [br_n z2, gI_o (by decide), ey, bd_s (owner_t (RR_m (f0.sm rfl) T') (by omega) (by rw [hB, hu]; exact hu32) (by omega) (by omega) hy hy)]
          refine fin _ ?_
          rw [owS_sm (f0.sm rfl) (nR_sm (f0.sm rfl))]
          exact oj
theorem s6f_L (x : Int32) (hx : ¬ x = 0) : ∀ (f j : Nat) (m : Hp), j ≤ 256 → 256 - j < f → (∀ s, s < j → gI m 106 0 s = 0 ∧ gI m 105 0 s = -1) → Wp (fX12_seats_L6 f x (nZ j) m) (fun _ m2 => Fr [105, 106] m m2 ∧ ∀ s, s < 256 → gI m2 106 0 s = 0 ∧ gI m2 105 0 s = -1) := by
  intro f
  induction f with
  | zero => intro j m _ q; omega
  | succ f ih =>
    intro j m hj hf K
    rw [fX12_seats_L6]
    have e256 : ((256 : Int32) ≤ nZ j) ↔ 256 ≤ j := nZ_le (a := 256) (by decide) (by omega)
    simp (disch := omega) only [lb_e, e256, nZ_suc, nZ_ib, nZ_ix]
    by_cases q : j = 256
    · rw [br_p (by omega), wp_some]
      exact ⟨Fr.rf _ _, fun s hs => K s (by omega)⟩
    · simp only [gd_p (by omega : j < 256)]
      rw [br_n (by omega), br_n hx]
      have f1 : Fr [105, 106] m (sI (sI m 106 0 j 0) 105 0 j (-1)) := (Fr_I _ _ _ _ _ rfl).tr (Fr_I _ _ _ _ _ rfl)
      refine wp_mono (ih (j + 1) _ (by omega) (by omega) fun s hs => ?_) fun _ m2 p => ⟨f1.tr p.1, p.2⟩
      rw [gI_o (by decide), gI_a, gI_a, gI_o (by decide)]
      by_cases z : s = j
      · rw [if_pos z, if_pos z]
        exact ⟨rfl, rfl⟩
      · rw [if_neg z, if_neg z]
        exact K s (by omega)
/-- sums over those who sit -/
def sumS (p : Nat → Bool) (v : Nat → Int64) : Nat → Int64
  | 0 => 0
  | n + 1 => if p n = true then sumS p v n + v n else sumS p v n
def sumU (p : Nat → Bool) (v : Nat → Int32) : Nat → Int32
  | 0 => 0
  | n + 1 => if p n = true then sumU p v n + v n else sumU p v n
def stB (m : Hp) (i : Nat) : Bool := !decide (gI m 99 0 i = -1)
def vW (m : Hp) (i : Nat) : Int64 := (gI m 101 0 i).toInt64 * ((gI m 65 0 i + 1).toInt64)
theorem Sq_b {g c m : Hp} {st i : Nat} (R : RC g) (h : Sq g c m st i) : (gI c 41 st i = -1) ↔ (stB m i = false) := by
  obtain ⟨v1, v2, v3, v4⟩ := R.v
  unfold stB
  rcases h with z | ⟨b, v, z1, z2, z3, z4, z5, z6, z7, z8, z9⟩
  · exact iff_of_true z.1 (by simp [z.2])
  · have := (v4 b z8).2.2.2
    rw [z1, z2]
    refine iff_of_false (fun y => (nZ_m1 (by omega)).mp y) fun y => ?_
    have w : ¬ nZ b = -1 := fun y => (nZ_m1 (by omega)).mp y
    simp [w] at y
theorem wall_L {g c m : Hp} (R : RC g) (P : RP g) (s2 : Sm fRP g c) (s4 : Sm fRP g m) (S : SeatOk c 0) (SQ : ∀ i, i < nH g → Sq g c m 0 i) : ∀ n j, j ≤ nH g → nH g - j < n → ∃ w, fX4_worthOfAll_L5 n (sumS (stB m) (vW m) j) (nZ j) c = some ((sumS (stB m) (vW m) (nH g), w), c) := by
  have Pc := RP_sm s2 P
  have eH := nH_sm s2
  have hH := P.2.2.1
  intro n
  induction n with
  | zero => intro j _ q; omega
  | succ n ih =>
    intro j hj hn
    rw [fX4_worthOfAll_L5, Pc.2.1, eH]
    simp (disch := omega) only [lb_e, nZ_le, nZ_suc, nZ_ib, nZ_ix]
    by_cases q : j = nH g
    · subst q
      rw [br_p (by omega)]
      exact ⟨_, rfl⟩
    · have nx := ih (j + 1) (by omega) (by omega)
      rw [br_n (by omega), bd_s (find4_t Pc (by rw [eH]; omega)), mt_s rfl, bd_s (sit_t S (by omega))]
      have sb := Sq_b R (SQ j (by omega))
      rw [sumS] at nx
      by_cases z : gI c 41 0 j = -1
      · rw [if_pos z, br_p rfl]
        rw [if_neg (by rw [sb.mp z]; decide)] at nx
        exact nx
      · have t : stB m j = true := by
          cases y : stB m j with
          | true => rfl
          | false => exact absurd (sb.mpr y) z
        rw [if_neg z, br_n (by decide), mt_s S.2.2.1, gd_p (by omega)]
        rw [if_pos t] at nx
        rcases SQ j (by omega) with w | ⟨b, v, z1, z2, z3, z4, z5, z6, z7, z8, z9⟩
        · exact absurd w.1 z
        · have e65 : gI c 2 j 0 = gI m 65 0 j := by rw [(Pc.2.2.2.2.1 j (by rw [eH]; omega)).2.1, s2.A 65 0 j (by decide), s4.A 65 0 j (by decide)]
          rw [z5, e65]
          exact nx
theorem units_L {g c m : Hp} (R : RC g) (P : RP g) (s2 : Sm fRP g c) (s4 : Sm fRP g m) (S : SeatOk c 0) (SQ : ∀ i, i < nH g → Sq g c m 0 i) (S12 : ∀ i, nH g ≤ i → i < 12 → gI c 41 0 i = -1) : ∀ n j, j ≤ 12 → 12 - j < n → ∃ w, fX8_unitsSatOn_L4 n (sumU (stB m) (fun i => gI m 66 0 i) (min j (nH g))) (nZ j) c = some ((sumU (stB m) (fun i => gI m 66 0 i) (nH g), w), c) := by
  have hH := P.2.2.1
  intro n
  induction n with
  | zero => intro j _ q; omega
  | succ n ih =>
    intro j hj hn
    rw [fX8_unitsSatOn_L4, of12]
    simp (disch := omega) only [lb_e, nZ_le, nZ_suc, nZ_ib, nZ_ix]
    rw [mt_s S.1]
    by_cases q : j = 12
    · subst q
      rw [br_p (by omega), Nat.min_eq_right hH]
      exact ⟨_, rfl⟩
    · have nx := ih (j + 1) (by omega) (by omega)
      rw [br_n (by omega), bd_s (sit_t S (by omega))]
      by_cases hb : j < nH g
      · rw [Nat.min_eq_left (by omega), sumU] at nx
        rw [Nat.min_eq_left (by omega)]
        have sb := Sq_b R (SQ j hb)
        by_cases z : gI c 41 0 j = -1
        · rw [if_pos z, br_p rfl, Int32.add_zero]
          rw [if_neg (by rw [sb.mp z]; decide)] at nx
          exact nx
        · have t : stB m j = true := by
            cases y : stB m j with
            | true => rfl
            | false => exact absurd (sb.mpr y) z
          rw [if_neg z, br_n (by decide), mt_s S.2.1, gd_p (by omega)]
          rw [if_pos t] at nx
          rcases SQ j hb with w | ⟨b, v, z1, z2, z3, z4, z5, z6, z7, z8, z9⟩
          · exact absurd w.1 z
          · have e66 : gI m 66 0 j = nZ (wd g j) := by rw [s4.A 66 0 j (by decide)]; exact (P.w hb).1
            rw [z4, ← e66]
            exact nx
      · rw [Nat.min_eq_right (by omega)] at nx ⊢
        rw [if_pos (S12 j (by omega) (by omega)), br_p rfl, Int32.add_zero]
        exact nx
theorem bs_L {g m : Hp} (P : RP g) (s4 : Sm fRP g m) (a1 : Int32) : ∀ n j, j ≤ nH g → nH g - j < n → ∃ w, fX12_beside_L46 n a1 (sumS (stB m) (vW m) j) (nZ (cnt (stB m) j)) (sumU (stB m) (fun i => gI m 66 0 i) j) (nZ j) m = some ((sumS (stB m) (vW m) (nH g), nZ (cnt (stB m) (nH g)), sumU (stB m) (fun i => gI m 66 0 i) (nH g), w), m) := by
  have hH := P.2.2.1
  intro n
  induction n with
  | zero => intro j _ q; omega
  | succ n ih =>
    intro j hj hn
    have e8 : gI m 12 0 8 = nZ (nH g) := by rw [s4.I 12 0 8 (by decide)]; exact P.1
    rw [fX12_beside_L46, e8]
    simp (disch := omega) only [lb_e, nZ_le, nZ_suc, nZ_ib, nZ_ix]
    by_cases q : j = nH g
    · subst q
      rw [br_p (by omega)]
      exact ⟨_, rfl⟩
    · have nx := ih (j + 1) (by omega) (by omega)
      simp only [gd_p (by omega : j < 12)]
      rw [br_n (by omega)]
      rw [sumS, sumU] at nx
      by_cases z : gI m 99 0 j = -1
      · rw [br_p z]
        have t : ¬ stB m j = true := by unfold stB; simp [z]
        rw [if_neg t, if_neg t, cnt_f t] at nx
        exact nx
      · rw [br_n z]
        have t : stB m j = true := by unfold stB; simp [z]
        rw [if_pos t, if_pos t, cnt_t t] at nx
        exact nx
theorem n5' : (5 : Int32).toInt = 5 := by decide
theorem md3 : ∀ a : Fin 6, (Int32.ofNat a.val - Int32.ofNat a.val / 3 * 3) = Int32.ofNat (a.val % 3) := by decide
def w_bes : List Nat := [13000, 34, 53, 41, 42, 43, 44, 9004, 11005, 48, 49, 50, 51, 93, 94, 99, 100, 101, 102, 103, 104, 105, 106, 107]
theorem s_beside (a1 : Int32) (h : Hp) (R : RC h) (P : RP h) (Y : Ry h) (T : RR (nH h) (yr h) (nB h) (un h) h h) (L : RPl (nH h) h h) (Tt : Rt h) (HI : RHi (nH h) (yr h) (nB h) (un h) h h) : Op w_bes (fX11_beside a1) (fX12_beside a1) h (fun h3 => RHi (nH h) (yr h) (nB h) (un h) h3 h3) := by
  obtain ⟨y1, y2, y3⟩ := Y.e
  obtain ⟨hB, hu⟩ := R.u32
  have hH := P.2.2.1
  by_cases q : 0 ≤ a1.toInt ∧ a1.toInt ≤ 5
  · obtain ⟨a, rfl, ea, ha'⟩ := nZ_ex q.1
    have ha : a < 6 := by omega
    have em3 : nZ a - nZ a / 3 * 3 = nZ (a % 3) := md3 ⟨a, ha⟩
    -- owners
    have own : ∃ (c1 : Hp) (ow : Nat → Int32), Fr [34, 53] h c1 ∧ (∀ s, s < 256 → gI c1 53 0 s = ow s) ∧ (∀ X : Option (Int64 × Hp), ∀ J : Hp → Option (Int64 × Hp), J c1 = X → br (3 ≤ nZ a) (J (flI h 53 0 0 256 (-1))) (bd (fX3_fillOwners (gI h 11 0 11) h) (fun r11 h12 => J h12)) = X) ∧ ∀ m, Sm fRC h m → RR (nH h) (yr h) (nB h) (un h) h m → Sm [69, 70, 71, 72, 73, 74, 75, 76, 77, 78, 79, 80] h m → nR m = nR h → gI m 12 0 5 = nZ (yr h) → Wp (fX12_seats_L6 FU (if a ≤ 2 then 0 else 1) 0 m) (fun _ m2 => Fr [105, 106] m m2 ∧ ∀ s, s < 256 → gI m2 106 0 s = 0 ∧ gI m2 105 0 s = ow s) := by
      have e3 : ((3 : Int32) ≤ nZ a) ↔ 3 ≤ a := nZ_le (a := 3) (by decide) (by omega)
      by_cases z : 3 ≤ a
      · refine ⟨flI h 53 0 0 256 (-1), fun _ => -1, Fr_flI _ _ _ _ _ _ (by decide) rfl, fun s hs => by rw [gI_flI, if_pos ⟨rfl, rfl, by omega, hs⟩], fun X J hJ => by rw [br_p (e3.mpr z)]; exact hJ, fun m _ _ _ _ _ => ?_⟩
        rw [if_neg (by omega)]
        exact s6f_L 1 (by decide) FU 0 m (by omega) (by show _ < 100000; omega) fun s hs => by omega
      · obtain ⟨v0, c1, e1, f1, k1⟩ := fill_t (c := h) (m := h) hB hu y3 T L
        refine ⟨c1, fun s => owS h (s / 32) (s % 32) (yr h) (yr h), f1, k1, fun X J hJ => by rw [br_n (fun y => z (e3.mp y)), y2, bd_s e1]; exact hJ, fun m s3 Tm sm eR ey => ?_⟩
        rw [if_pos (by omega)]
        exact s6_L rfl rfl R y3 FU 0 m s3 ⟨h, Tm⟩ (fun s hs => owS_sm sm eR _ _ _ _) ey (by omega) (by show _ < 100000; omega) fun s hs => by omega
    obtain ⟨c1, ow, f1, k1, J1, J2⟩ := own
    have S0 : SeatOk c1 0 := by
      have := HI.2.1 0 (by omega)
      exact ⟨by rw [f1.R 8 0 0 rfl]; exact this.1, by rw [f1.R 8 0 1 rfl]; exact this.2.1, by rw [f1.R 8 0 2 rfl]; exact this.2.2.1, by rw [f1.R 8 0 3 rfl]; exact this.2.2.2⟩
    -- first with h's model cells, to have the class's heap; then the model from there
    have run : ∀ m, Fr [13000, 34, 53, 41, 42, 43, 44, 9004, 11005, 48, 49, 50, 51] h m → ∃ c' m', fX10_seatAll 0 (gI h 11 0 13) c1 = some ((), c') ∧ fX12_seats (if a ≤ 2 then 0 else 1) m = some ((), m') ∧ SeatRes h c' m' 0 ∧ Fr wSc c1 c' ∧ Fr wSm m m' ∧ Oth 0 c1 c' := fun m fm => seats_t R P (ow := ow) (f1.sm rfl) (f1.sm rfl) (fm.sm rfl) (fm.sm rfl) S0 k1 (by rw [fm.I 12 0 17 rfl]; exact Tt.2.symm) fun m' fm' => by
      have f2 : Fr [13000, 34, 53, 41, 42, 43, 44, 9004, 11005, 48, 49, 50, 51, 93, 94] h m' := (fm.wk rfl).tr (fm'.wk rfl)
      exact J2 m' (f2.sm rfl) (RR_m (f2.sm rfl) T) (f2.sm rfl) (nR_sm (f2.sm rfl)) (by rw [f2.I 12 0 5 rfl]; exact y1)
    obtain ⟨c2, mx, e1, -, -, f2, -, O2⟩ := run h (Fr.rf _ _)
    have fc : Fr [34, 53, 41, 42, 43, 44, 9004, 11005, 48, 49, 50, 51] h c2 := (f1.wk rfl).tr (f2.wk rfl)
    have fz : Fr [13000] c2 (sI c2 12 0 0 0) := Fr_I _ _ _ _ _ rfl
    obtain ⟨c2', m2, e1', e2, SR, -, fm2, -⟩ := run (sI c2 12 0 0 0) ((fc.wk rfl).tr (fz.wk rfl))
    have ec : c2' = c2 := by
      rw [e1] at e1'
      cases e1'
      rfl
    subst ec
    have fcm : Fr w_bes h m2 := ((fc.wk rfl).tr (fz.wk rfl)).tr (fm2.wk rfl)
    have S2 : SeatOk c2' 0 := ⟨by rw [f2.R 8 0 0 rfl]; exact S0.1, by rw [f2.R 8 0 1 rfl]; exact S0.2.1, by rw [f2.R 8 0 2 rfl]; exact S0.2.2.1, by rw [f2.R 8 0 3 rfl]; exact S0.2.2.2⟩
    have p2 : Sm fRP h c2' := fc.sm rfl
    have p4 : Sm fRP h m2 := fcm.sm rfl
    obtain ⟨x1, w1⟩ := wall_L R P p2 p4 S2 SR.1 FU 0 (by omega) (by show _ < 100000; omega)
    obtain ⟨x2, w2⟩ := units_L R P p2 p4 S2 SR.1 SR.2.1 FU 0 (by omega) (by show _ < 100000; omega)
    obtain ⟨x3, w3⟩ := bs_L P p4 (nZ a) FU 0 (by omega) (by show _ < 100000; omega)
    have HI' : RHi (nH h) (yr h) (nB h) (un h) m2 m2 := by
      have HI2 : RHi (nH h) (yr h) (nB h) (un h) c2' h := by
        obtain ⟨r1, r2, r3, r4, r5⟩ := id HI
        have O1 : Oth 0 h c2' := fun n hn => by
          obtain ⟨o1, o2, o3, o4, o5⟩ := O2 n hn
          exact ⟨fun j => by rw [o1, f1.A 41 n j rfl], fun j => by rw [o2, f1.A 42 n j rfl], fun j => by rw [o3, f1.A 43 n j rfl], fun j => by rw [o4, f1.A 44 n j rfl], by rw [o5, f1.I 8 n 4 rfl]⟩
        refine ⟨by rw [fc.N 8 rfl, fc.N 41 rfl, fc.N 42 rfl, fc.N 43 rfl, fc.N 44 rfl]; exact r1, fun s hs => ⟨by rw [fc.R 8 s 0 rfl]; exact (r2 s hs).1, by rw [fc.R 8 s 1 rfl]; exact (r2 s hs).2.1, by rw [fc.R 8 s 2 rfl]; exact (r2 s hs).2.2.1, by rw [fc.R 8 s 3 rfl]; exact (r2 s hs).2.2.2⟩, fun t ht => by rw [fc.AR 52 0 t rfl]; exact r3 t ht, fun t i ht hi => ?_, r5⟩
        have := r4 t i ht hi
        obtain ⟨o1, o2, o3, o4, o5⟩ := O1 (t + 1) (by omega)
        unfold sr at this ⊢
        rw [o1, o2, o3, o4]
        exact this
      exact RHi_sm (((fz.wk (W' := [13000, 93, 94, 99, 100, 101, 102, 103, 104, 105, 106, 107]) rfl).tr (fm2.wk rfl)).sm rfl) (fcm.sm rfl) HI2
    refine ⟨if a % 3 = 0 then sumS (stB m2) (vW m2) (nH h) else if a % 3 = 1 then (nZ (cnt (stB m2) (nH h))).toInt64 else (sumU (stB m2) (fun i => gI m2 66 0 i) (nH h)).toInt64, c2', m2, ?_, ?_, fc.wk rfl, fcm, HI'⟩
    · unfold fX11_beside
      rw [br_n (by rw [isWithin_0, z0, n5]; omega)]
      simp only [lb_e]
      refine J1 _ (fun h2 => bd (fX10_seatAll 0 (gI h2 11 0 13) h2) (fun r3 h4 => br (nZ a - nZ a / 3 * 3 = 0) (bd (fX4_worthOfAll h4) (fun r6 h7 => some (r6, h7))) (br (nZ a - nZ a / 3 * 3 = 1) (some ((gI h4 8 0 4).toInt64, h4)) (bd (fX8_unitsSatOn h4) (fun r8 h9 => some (r8.toInt64, h9)))))) ?_
      have eW : fX4_worthOfAll c2' = some (sumS (stB m2) (vW m2) (nH h), c2') := by
        unfold fX4_worthOfAll
        rw [bd_s (show fX4_worthOfAll_L5 FU 0 0 c2' = _ from w1)]
        rfl
      have eU : fX8_unitsSatOn c2' = some (sumU (stB m2) (fun i => gI m2 66 0 i) (nH h), c2') := by
        unfold fX8_unitsSatOn
        rw [bd_s (show fX8_unitsSatOn_L4 FU 0 0 c2' = _ from (by have := w2; rw [Nat.zero_min] at this; exact this))]
        rfl
      show bd (fX10_seatAll 0 (gI c1 11 0 13) c1) _ = _
      rw [f1.I 11 0 13 rfl, bd_s e1, em3, bd_s eW, bd_s eU, SR.2.2]
      have d0 : (nZ (a % 3) = 0) ↔ a % 3 = 0 := nZ_z (by omega)
      have d1 : (nZ (a % 3) = 1) ↔ a % 3 = 1 := nZ_eq (b := 1) (by omega) (by decide)
      by_cases z0' : a % 3 = 0
      · rw [br_p (d0.mpr z0'), if_pos z0']
      · rw [br_n (fun y => z0' (d0.mp y)), if_neg z0']
        by_cases z1' : a % 3 = 1
        · rw [br_p (d1.mpr z1'), if_pos z1']
          rfl
        · rw [br_n (fun y => z1' (d1.mp y)), if_neg z1']
    · unfold fX12_beside
      rw [lb_e, br_n (by rw [in_0, to64, z0J, n5J]; omega)]
      simp only [lb_e]
      have e2' : (nZ a ≤ (2 : Int32)) ↔ a ≤ 2 := nZ_le (b := 2) (by omega) (by decide)
      have fin : bd (fX12_seats (if a ≤ 2 then 0 else 1) (sI c2' 12 0 0 0)) (fun r5 h6 => bd (fX12_beside_L46 FU (nZ a) 0 0 0 0 h6) (fun t17 h16 => br (nZ a - nZ a / 3 * 3 = 0) (some (t17.1, h16)) (br (nZ a - nZ a / 3 * 3 = 1) (some (t17.2.1.toInt64, h16)) (some (t17.2.2.1.toInt64, h16))))) = some (if a % 3 = 0 then sumS (stB m2) (vW m2) (nH h) else if a % 3 = 1 then (nZ (cnt (stB m2) (nH h))).toInt64 else (sumU (stB m2) (fun i => gI m2 66 0 i) (nH h)).toInt64, m2) := by
        rw [bd_s e2, bd_s (show fX12_beside_L46 FU (nZ a) 0 0 0 0 m2 = _ from w3), em3]
        have d0 : (nZ (a % 3) = 0) ↔ a % 3 = 0 := nZ_z (by omega)
        have d1 : (nZ (a % 3) = 1) ↔ a % 3 = 1 := nZ_eq (b := 1) (by omega) (by decide)
        by_cases z0' : a % 3 = 0
        · rw [br_p (d0.mpr z0'), if_pos z0']
        · rw [br_n (fun y => z0' (d0.mp y)), if_neg z0']
          by_cases z1' : a % 3 = 1
          · rw [br_p (d1.mpr z1'), if_pos z1']
          · rw [br_n (fun y => z1' (d1.mp y)), if_neg z1']
      by_cases z : a ≤ 2
      · rw [if_pos z] at fin
        rw [br_p (e2'.mpr z)]
        exact fin
      · rw [if_neg z] at fin
        rw [br_n (fun y => z (e2'.mp y))]
        exact fin
  · refine Op_no rfl (r := -2) ?_ ?_ (RHi_sm (thrown_sm rfl h) (thrown_sm rfl h) HI)
    · unfold fX11_beside
      rw [br_p (by rw [isWithin_0, z0, n5]; exact q)]
    · unfold fX12_beside
      rw [lb_e, br_p (by rw [in_0, to64, z0J, n5J]; exact q)]
