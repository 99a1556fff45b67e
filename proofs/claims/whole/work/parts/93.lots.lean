/-! ===== level 2: lots: lot, offers ===== -/
def nL (m : Hp) : Nat := ix (gI m 12 0 10)
def RA (H B : Nat) (u : Nat → Nat) (c m : Hp) : Prop := gI m 12 0 10 = nZ (nL m) ∧ gI c 0 0 0 = nZ (nL m) ∧ nL m ≤ 8 ∧ (∀ l, l < nL m → gI c 13 0 l = gI m 83 0 l ∧ gI c 14 0 l = gI m 84 0 l ∧ gI c 15 0 l = gI m 85 0 l ∧ gI c 16 0 l = gI m 86 0 l ∧ ∃ b f n y, gI m 83 0 l = nZ b ∧ gI m 84 0 l = nZ f ∧ gI m 85 0 l = nZ n ∧ gI m 86 0 l = nZ y ∧ b < B ∧ 1 ≤ n ∧ f + n ≤ u b ∧ 1 ≤ y ∧ y ≤ 30) ∧ (∀ l i, l < nL m → i < 12 → gI c 17 0 (12 * l + i) = (if gI m 68 0 i = 0 then gI m 87 0 (12 * l + i) else 0) ∧ (0 ≤ (gI m 87 0 (12 * l + i)).toInt ∧ (gI m 87 0 (12 * l + i)).toInt ≤ 10000) ∧ (H ≤ i → gI m 87 0 (12 * l + i) = 0))
def fRAc : List Nat := [1000, 13, 14, 15, 16, 17]
def fRAm : List Nat := [13010, 83, 84, 85, 86, 87, 68]
theorem RA_c {H B : Nat} {u : Nat → Nat} {c c' m : Hp} (e : Sm fRAc c c') (R : RA H B u c m) : RA H B u c' m := by
  unfold RA at R ⊢
  simp (disch := decide) only [e.A, e.I]
  exact R
theorem RA_m {H B : Nat} {u : Nat → Nat} {c m m' : Hp} (e : Sm fRAm m m') (R : RA H B u c m) : RA H B u c m' := by
  unfold RA nL at R ⊢
  simp (disch := decide) only [e.A, e.I]
  exact R
theorem RA_mono {H H' B B' : Nat} {u u' : Nat → Nat} {c m : Hp} (R : RA H B u c m) (h1 : H ≤ H') (h3 : B ≤ B') (h4 : ∀ b, b < B → u' b = u b) : RA H' B' u' c m := by
  obtain ⟨r1, r2, r3, r4, r5⟩ := R
  refine ⟨r1, r2, r3, fun l hl => ?_, fun l i hl hi => ?_⟩
  · obtain ⟨a1, a2, a3, a4, b, f, n, y, e1, e2, e3, e4, e5, e6, e7, e8⟩ := r4 l hl
    exact ⟨a1, a2, a3, a4, b, f, n, y, e1, e2, e3, e4, by omega, e6, by rw [h4 b e5]; exact e7, e8⟩
  · obtain ⟨a1, a2, a3⟩ := r5 l i hl hi
    exact ⟨a1, a2, fun z => a3 (by omega)⟩
theorem nZ_x12 (a : Nat) : (12 : Int32) * nZ a = nZ (12 * a) := nZ_mul 12 a
theorem nZ_12x (a : Nat) : nZ a * 12 = nZ (12 * a) := by rw [Nat.mul_comm]; exact nZ_mul a 12
theorem le12 {j : Nat} (h : j < 2147483648) : ((12 : Int32) ≤ nZ j) ↔ 12 ≤ j := nZ_le (a := 12) (by decide) h
theorem put_L {l : Nat} (hl : l < 8) : ∀ (n j : Nat) (c : Hp), gI c 0 0 0 = nZ l → j ≤ 12 → 12 - j < n → Wp (fX0_putUp_L56 n (nZ j) c) (fun _ c' => Fr [17] c c' ∧ ∀ i, gI c' 17 0 i = if 12 * l + j ≤ i ∧ i < 12 * l + 12 then 0 else gI c 17 0 i) := by
  intro n
  induction n with
  | zero => intro j c _ _ q; omega
  | succ n ih =>
    intro j c e hj hn
    rw [fX0_putUp_L56, e]
    simp (disch := omega) only [le12, nZ_suc, lb_e]
    by_cases q : j = 12
    · rw [br_p (by omega), wp_some]
      refine ⟨Fr.rf _ _, fun i => ?_⟩
      rw [if_neg (by omega)]
    · rw [br_n (by omega)]
      unfold fX0_noteOffer
      simp (disch := omega) only [nZ_12x, nZ_add, nZ_ib, nZ_ix, lb_e]
      rw [gd_p (by omega), bd_s rfl]
      refine wp_mono (ih (j + 1) _ (by rw [gI_o (by decide)]; exact e) (by omega) (by omega)) fun _ c' k => ⟨(Fr_I _ _ _ _ _ rfl).tr k.1, fun i => ?_⟩
      rw [k.2 i, gI_a]
      by_cases z : i = 12 * l + j
      · rw [if_neg (by omega), if_pos z, if_pos (by omega)]
      · by_cases z2 : 12 * l + (j + 1) ≤ i ∧ i < 12 * l + 12
        · rw [if_pos z2, if_pos (by omega)]
        · rw [if_neg z2, if_neg z, if_neg (by omega)]
theorem lot12_L {l : Nat} (hl : l < 8) : ∀ (n j : Nat) (m : Hp), gI m 12 0 10 = nZ l → j ≤ 12 → 12 - j < n → Wp (fX12_lot_L87 n (nZ j) m) (fun _ m' => Fr [87] m m' ∧ ∀ i, gI m' 87 0 i = if 12 * l + j ≤ i ∧ i < 12 * l + 12 then 0 else gI m 87 0 i) := by
  intro n
  induction n with
  | zero => intro j c _ _ q; omega
  | succ n ih =>
    intro j c e hj hn
    rw [fX12_lot_L87, e]
    simp (disch := omega) only [le12, nZ_suc, lb_e, nZ_x12, nZ_add, nZ_ib, nZ_ix]
    by_cases q : j = 12
    · rw [br_p (by omega), wp_some]
      refine ⟨Fr.rf _ _, fun i => ?_⟩
      rw [if_neg (by omega)]
    · rw [br_n (by omega), gd_p (by omega)]
      refine wp_mono (ih (j + 1) _ (by rw [gI_o (by decide)]; exact e) (by omega) (by omega)) fun _ c' k => ⟨(Fr_I _ _ _ _ _ rfl).tr k.1, fun i => ?_⟩
      rw [k.2 i, gI_a]
      by_cases z : i = 12 * l + j
      · rw [if_neg (by omega), if_pos z, if_pos (by omega)]
      · by_cases z2 : 12 * l + (j + 1) ≤ i ∧ i < 12 * l + 12
        · rw [if_pos z2, if_pos (by omega)]
        · rw [if_neg z2, if_neg z, if_neg (by omega)]
theorem n30 : (30 : Int32).toInt = 30 := by decide
theorem n30J : (30 : Int64).toInt = 30 := by decide
def w_lot : List Nat := [13000, 1000, 13, 14, 15, 16, 17, 13010, 83, 84, 85, 86, 87]
theorem s_lot (a1 a2 a3 a4 : Int32) (h : Hp) (R : RC h) (A : RA (nH h) (nB h) (un h) h h) : Op w_lot (fX11_lot a1 a2 a3 a4) (fX12_lot a1 a2 a3 a4) h (fun h3 => RA (nH h) (nB h) (un h) h3 h3) := by
  have R0 := RC_sm (thrown_sm rfl h) R
  have A0 : RA (nH h) (nB h) (un h) (sI h 12 0 0 0) (sI h 12 0 0 0) := RA_m (thrown_sm rfl h) (RA_c (thrown_sm rfl h) A)
  obtain ⟨r1, r2, r3, r4, r5⟩ := id A
  by_cases q : isRn h a1 a2 a3
  · have q' : isRn (sI h 12 0 0 0) a1 a2 a3 := q
    by_cases q4 : 1 ≤ a4.toInt ∧ a4.toInt ≤ 30
    · by_cases q8 : nL h < 8
      · have hib : ib (nZ (nL h)) 8 := by rw [nZ_ib (by omega)]; omega
        obtain ⟨c1, ec1⟩ : ∃ z, z = sI (sI (sI (sI h 13 0 (nL h) a1) 14 0 (nL h) a2) 15 0 (nL h) a3) 16 0 (nL h) a4 := ⟨_, rfl⟩
        have f1 : Fr [13, 14, 15, 16] h c1 := by rw [ec1]; exact (((Fr_I _ _ _ _ _ rfl).tr (Fr_I _ _ _ _ _ rfl)).tr (Fr_I _ _ _ _ _ rfl)).tr (Fr_I _ _ _ _ _ rfl)
        obtain ⟨v, c2, ec2, f2, k2⟩ := put_L q8 FU 0 c1 (by rw [f1.I 0 0 0 rfl]; exact r2) (by omega) (by show _ < 100000; omega)
        obtain ⟨c3, ec3⟩ : ∃ z, z = sI c2 0 0 0 (nZ (nL h + 1)) := ⟨_, rfl⟩
        have f3 : Fr [1000] c2 c3 := by rw [ec3]; exact Fr_I _ _ _ _ _ rfl
        have fc : Fr [1000, 13, 14, 15, 16, 17] h c3 := ((f1.wk rfl).tr (f2.wk rfl)).tr (f3.wk rfl)
        obtain ⟨m1', em1⟩ : ∃ z, z = sI (sI (sI (sI (sI c3 12 0 0 0) 83 0 (nL h) a1) 84 0 (nL h) a2) 85 0 (nL h) a3) 86 0 (nL h) a4 := ⟨_, rfl⟩
        have g1 : Fr [13000, 83, 84, 85, 86] c3 m1' := by rw [em1]; exact ((((Fr_I _ _ _ _ _ rfl).tr (Fr_I _ _ _ _ _ rfl)).tr (Fr_I _ _ _ _ _ rfl)).tr (Fr_I _ _ _ _ _ rfl)).tr (Fr_I _ _ _ _ _ rfl)
        have e10 : gI c3 12 0 10 = nZ (nL h) := by rw [fc.I 12 0 10 rfl]; exact r1
        obtain ⟨v', m2, em2, g2, l2⟩ := lot12_L q8 FU 0 m1' (by rw [g1.I 12 0 10 rfl]; exact e10) (by omega) (by show _ < 100000; omega)
        obtain ⟨m3, em3⟩ : ∃ z, z = sI m2 12 0 10 (nZ (nL h + 1)) := ⟨_, rfl⟩
        have g3 : Fr [13010] m2 m3 := by rw [em3]; exact Fr_I _ _ _ _ _ rfl
        have gm : Fr [13000, 83, 84, 85, 86, 87, 13010] c3 m3 := ((g1.wk rfl).tr (g2.wk rfl)).tr (g3.wk rfl)
        refine ⟨nZ (nL h), c3, m3, ?_, ?_, fc.wk rfl, (fc.wk rfl).tr (gm.wk rfl), ?_⟩
        · unfold fX11_lot fX0_putUp
          rw [bd_s (run1_t R q), br_n (by decide), br_n (by rw [isWithin_0, o1, n30]; omega)]
          simp (disch := decide) only [lb_e, gI_o, r2]
          rw [br_p (by show nZ (nL h) < nZ 8; rw [nZ_lt (by omega) (by omega)]; exact q8)]
          simp only [gd_p hib, nZ_ix (by omega : nL h < 2147483648)]
          rw [← ec1, bd_s (show fX0_putUp_L56 FU 0 c1 = _ from ec2), f2.I 0 0 0 rfl, f1.I 0 0 0 rfl, r2, nZ_suc, gI_q, ← ec3, nZ_pre (by omega) (by omega)]
          rfl
        · have qc : isRn (sI c3 12 0 0 0) a1 a2 a3 := by
            unfold isRn at q ⊢
            rw [gI_o (by decide), gI_o (by decide), fc.I 1 0 7 rfl, fc.A 28 0 _ rfl]
            exact q
          have fz : Fr [13000] c3 (sI c3 12 0 0 0) := Fr_I _ _ _ _ _ rfl
          have Rz := RC_sm (fz.sm rfl) (RC_sm (fc.sm rfl) R)
          unfold fX12_lot
          rw [lb_e, bd_s (run12_t Rz qc), br_n (by decide), br_n (by rw [in_0, to64, o1J, n30J]; omega)]
          simp (disch := decide) only [lb_e, gI_o, gI_p, e10]
          rw [br_n (by show ¬ nZ (nL h) = nZ 8; rw [nZ_eq (by omega) (by omega)]; omega)]
          simp only [gd_p hib, nZ_ix (by omega : nL h < 2147483648)]
          rw [← em1, bd_s (show fX12_lot_L87 FU 0 m1' = _ from em2), g2.I 12 0 10 rfl, g1.I 12 0 10 rfl, e10, nZ_suc, gI_q, ← em3, nZ_pre (by omega) (by omega)]
          rfl
        · have eL : nL m3 = nL h + 1 := by
            have : nL m3 = ix (gI m3 12 0 10) := rfl
            rw [this, em3, gI_q, nZ_ix (by omega)]
          show RA (nH h) (nB h) (un h) m3 m3
          unfold RA
          rw [eL]
          refine ⟨by rw [em3, gI_q], by rw [gm.I 0 0 0 rfl, ec3, gI_q], by omega, fun l hl => ?_, fun l i hl hi => ?_⟩
          · have t13 : gI m3 13 0 l = if l = nL h then a1 else gI h 13 0 l := by rw [gm.A 13 0 l rfl, f3.A 13 0 l rfl, f2.A 13 0 l rfl, ec1]; simp (disch := decide) only [gI_o, gI_a]
            have t14 : gI m3 14 0 l = if l = nL h then a2 else gI h 14 0 l := by rw [gm.A 14 0 l rfl, f3.A 14 0 l rfl, f2.A 14 0 l rfl, ec1]; simp (disch := decide) only [gI_o, gI_a]
            have t15 : gI m3 15 0 l = if l = nL h then a3 else gI h 15 0 l := by rw [gm.A 15 0 l rfl, f3.A 15 0 l rfl, f2.A 15 0 l rfl, ec1]; simp (disch := decide) only [gI_o, gI_a]
            have t16 : gI m3 16 0 l = if l = nL h then a4 else gI h 16 0 l := by rw [gm.A 16 0 l rfl, f3.A 16 0 l rfl, f2.A 16 0 l rfl, ec1]; simp (disch := decide) only [gI_o, gI_a]
            have t83 : gI m3 83 0 l = if l = nL h then a1 else gI h 83 0 l := by rw [g3.A 83 0 l rfl, g2.A 83 0 l rfl, em1]; simp (disch := decide) only [gI_o, gI_a]; rw [fc.A 83 0 l rfl]
            have t84 : gI m3 84 0 l = if l = nL h then a2 else gI h 84 0 l := by rw [g3.A 84 0 l rfl, g2.A 84 0 l rfl, em1]; simp (disch := decide) only [gI_o, gI_a]; rw [fc.A 84 0 l rfl]
            have t85 : gI m3 85 0 l = if l = nL h then a3 else gI h 85 0 l := by rw [g3.A 85 0 l rfl, g2.A 85 0 l rfl, em1]; simp (disch := decide) only [gI_o, gI_a]; rw [fc.A 85 0 l rfl]
            have t86 : gI m3 86 0 l = if l = nL h then a4 else gI h 86 0 l := by rw [g3.A 86 0 l rfl, g2.A 86 0 l rfl, em1]; simp (disch := decide) only [gI_o, gI_a]; rw [fc.A 86 0 l rfl]
            rw [t13, t14, t15, t16, t83, t84, t85, t86]
            by_cases z : l = nL h
            · simp only [if_pos z]
              obtain ⟨b, f, n, rfl, rfl, rfl, hb, hn, hf⟩ := isRn_ex R q
              obtain ⟨y, rfl, ey, hy⟩ := nZ_ex (by omega : 0 ≤ a4.toInt)
              exact ⟨trivial, trivial, trivial, trivial, b, f, n, y, rfl, rfl, rfl, rfl, hb, hn, hf, by omega, by omega⟩
            · simp only [if_neg z]
              exact r4 l (by omega)
          · rw [gm.A 17 0 _ rfl, f3.A 17 0 _ rfl, k2, f1.A 17 0 _ rfl, g3.A 87 0 _ rfl, l2, g1.A 87 0 _ rfl, fc.A 87 0 _ rfl, gm.A 68 0 _ rfl, fc.A 68 0 _ rfl]
            by_cases z : l = nL h
            · have cnd : 12 * nL h + 0 ≤ 12 * l + i ∧ 12 * l + i < 12 * nL h + 12 := by omega
              simp only [if_pos cnd]
              refine ⟨?_, ⟨by decide, by decide⟩, fun _ => trivial⟩
              split <;> rfl
            · have cnd : ¬ (12 * nL h + 0 ≤ 12 * l + i ∧ 12 * l + i < 12 * nL h + 12) := by omega
              simp only [if_neg cnd]
              exact r5 l i (by omega) hi
      · have e8 : nL h = 8 := by omega
        refine Op_no rfl (r := -3) ?_ ?_ A0
        · unfold fX11_lot fX0_putUp
          rw [bd_s (run1_t R q), br_n (by decide), br_n (by rw [isWithin_0, o1, n30]; omega), r2, e8]
          rfl
        · unfold fX12_lot
          rw [lb_e, bd_s (run12_t R0 q'), br_n (by decide), br_n (by rw [in_0, to64, o1J, n30J]; omega), gI_p (by decide), r1, e8]
          rfl
    · refine Op_no rfl (r := -2) ?_ ?_ A0
      · unfold fX11_lot
        rw [bd_s (run1_t R q), br_n (by decide), br_p (by rw [isWithin_0, o1, n30]; exact q4)]
      · unfold fX12_lot
        rw [lb_e, bd_s (run12_t R0 q'), br_n (by decide), br_p (by rw [in_0, to64, o1J, n30J]; exact q4)]
  · have q' : ¬ isRn (sI h 12 0 0 0) a1 a2 a3 := q
    refine Op_no rfl (r := -2) ?_ ?_ A0
    · unfold fX11_lot
      rw [bd_s (run1_f R q)]
      rfl
    · unfold fX12_lot
      rw [lb_e, bd_s (run12_f R0 q')]
      rfl
/-- a row that is filled: n numbers -/
theorem Rr.ex {h : Hp} (R : Rr h) {p : Nat} (hp : p < 4) (f : 0 ≤ gI h 54 0 p) : ∃ n, n ≤ 60 ∧ gI h 39 0 p = nZ n ∧ gI h 55 0 p = nZ n ∧ ∀ i, i < 60 → gJ h 38 0 (60 * p + i) = gJ h 56 0 (60 * p + i) := by
  rcases R.1 p hp with z | ⟨z1, z2, z3, z4, z5⟩
  · rw [z.2, i32_le] at f
    exact absurd f (by decide)
  · obtain ⟨n, en, en2, en3⟩ := nZ_ex z3
    exact ⟨n, by omega, en, by rw [← z1]; exact en, fun i hi => R.2 _ (by omega)⟩
theorem Rr.no {h : Hp} (R : Rr h) {p : Nat} (hp : p < 4) (f : ¬ 0 ≤ gI h 54 0 p) : gI h 39 0 p = -1 := by
  rcases R.1 p hp with z | ⟨z1, z2, z3, z4, z5⟩
  · exact z.1
  · exact absurd (i32_le.mpr (by rw [z0]; exact z5)) f
theorem Rr.yes {h : Hp} (R : Rr h) {p : Nat} (hp : p < 4) (f : 0 ≤ gI h 54 0 p) : ¬ gI h 39 0 p = -1 := by
  obtain ⟨n, h1, h2, -⟩ := R.ex hp f
  rw [h2]
  exact fun z => (nZ_m1 (by omega)).mp z
theorem mx0 {n : Nat} (h : n < 2147483648) : mxI 0 (nZ n) = nZ n := by
  unfold mxI
  by_cases z : (0 : Int32) < nZ n
  · rw [if_pos z]
  · rw [if_neg z]
    rw [i32_lt, nZ_t h, z0] at z
    have : n = 0 := by omega
    rw [this]
    rfl
theorem length7 {h : Hp} {p n : Nat} (hp : p < 4) (hn : n ≤ 60) (e : gI h 39 0 p = nZ n) : fX7_lengthOf (nZ p) h = some (nZ n, h) := by
  unfold fX7_lengthOf
  rw [gd_p (by rw [nZ_ib (by omega)]; omega), nZ_ix (by omega), e, mx0 (by omega)]
theorem nZ_60x (a : Nat) : nZ a * 60 = nZ (60 * a) := by rw [Nat.mul_comm]; exact nZ_mul a 60
theorem nZ_x60 (a : Nat) : (60 : Int32) * nZ a = nZ (60 * a) := nZ_mul 60 a
theorem number7 {h : Hp} {p n i : Nat} (hp : p < 4) (hn : n ≤ 60) (hi : i < 1000) (e : gI h 39 0 p = nZ n) : fX7_numberAt (nZ p) (nZ i) h = some (if i < n then gJ h 38 0 (60 * p + i) else 0, h) := by
  unfold fX7_numberAt
  rw [br_n (by rw [nZ_neg (by omega)]; exact id), bd_s (length7 hp hn e)]
  by_cases q : i < n
  · rw [br_n (by rw [nZ_le (by omega) (by omega)]; omega), if_pos q]
    simp (disch := omega) only [nZ_60x, nZ_add, nZ_ib, nZ_ix]
    rw [gd_p (by omega)]
  · rw [br_p (by rw [nZ_le (by omega) (by omega)]; omega), if_neg q]
theorem n1e4J : (10000 : Int64).toInt = 10000 := by decide
abbrev okO (x : Int64) : Prop := 0 ≤ x.toInt ∧ x.toInt ≤ 10000
theorem of41_t {h : Hp} {p n : Nat} (a1 : Int32) (hp : p < 4) (hn : n ≤ 60) (e : gI h 39 0 p = nZ n) : ∀ f j, j ≤ n → n - j < f → (∀ i, j ≤ i → i < n → okO (gJ h 38 0 (60 * p + i))) → fX11_offers_L41 f a1 (nZ p) (nZ j) h = some (.inr (nZ n), h) := by
  intro f
  induction f with
  | zero => intro j _ q; omega
  | succ f ih =>
    intro j hj hf K
    rw [fX11_offers_L41, bd_s (length7 hp hn e), nZ_suc]
    by_cases q : j = n
    · subst q
      rw [br_p (by rw [nZ_le (by omega) (by omega)]; omega)]
    · have k := K j (Nat.le_refl _) (by omega)
      rw [br_n (by rw [nZ_le (by omega) (by omega)]; omega), bd_s (number7 hp hn (by omega) e), if_pos (by omega), br_n (by rw [i64_lt, z0J]; have := k.1; omega), br_p (by rw [i64_le, n1e4J]; exact k.2), lb_e]
      exact ih (j + 1) (by omega) (by omega) fun i h1 h2 => K i (by omega) h2
theorem of41_f {h : Hp} {p n : Nat} (a1 : Int32) (hp : p < 4) (hn : n ≤ 60) (e : gI h 39 0 p = nZ n) : ∀ f j, j ≤ n → n - j < f → (∃ i, j ≤ i ∧ i < n ∧ ¬ okO (gJ h 38 0 (60 * p + i))) → fX11_offers_L41 f a1 (nZ p) (nZ j) h = some (.inl (-4), h) := by
  intro f
  induction f with
  | zero => intro j _ q; omega
  | succ f ih =>
    intro j hj hf ⟨i, h1, h2, h3⟩
    rw [fX11_offers_L41, bd_s (length7 hp hn e), nZ_suc]
    rw [br_n (by rw [nZ_le (by omega) (by omega)]; omega), bd_s (number7 hp hn (by omega) e), if_pos (by omega)]
    by_cases q : okO (gJ h 38 0 (60 * p + j))
    · rw [br_n (by rw [i64_lt, z0J]; have := q.1; omega), br_p (by rw [i64_le, n1e4J]; exact q.2), lb_e]
      exact ih (j + 1) (by omega) (by omega) ⟨i, by
        by_cases z : i = j
        · rw [z] at h3; exact absurd q h3
        · omega, h2, h3⟩
    · by_cases z : gJ h 38 0 (60 * p + j) < 0
      · rw [br_p z]
      · rw [br_n z, br_n]
        rw [i64_lt, z0J] at z
        rw [i64_le, n1e4J]
        unfold okO at q
        omega
theorem of45_t {h : Hp} {p n : Nat} (a1 : Int32) (hp : p < 4) (hn : n ≤ 60) (e : gI h 55 0 p = nZ n) : ∀ f j, j ≤ n → n - j < f → (∀ i, j ≤ i → i < n → okO (gJ h 56 0 (60 * p + i))) → fX12_offers_L45 f a1 (nZ p) (nZ j) h = some (.inr (nZ n), h) := by
  intro f
  induction f with
  | zero => intro j _ q; omega
  | succ f ih =>
    intro j hj hf K
    rw [fX12_offers_L45]
    simp (disch := omega) only [lb_e, nZ_suc, nZ_ix, e, nZ_le, nZ_x60, nZ_add, nZ_ib, in_0, z0J, n1e4J]
    rw [gd_p (by omega)]
    by_cases q : j = n
    · subst q
      rw [br_p (by omega)]
    · have k := K j (Nat.le_refl _) (by omega)
      rw [br_n (by omega), gd_p (by omega), br_n (not_not_intro k)]
      exact ih (j + 1) (by omega) (by omega) fun i h1 h2 => K i (by omega) h2
theorem of45_f {h : Hp} {p n : Nat} (a1 : Int32) (hp : p < 4) (hn : n ≤ 60) (e : gI h 55 0 p = nZ n) : ∀ f j, j ≤ n → n - j < f → (∃ i, j ≤ i ∧ i < n ∧ ¬ okO (gJ h 56 0 (60 * p + i))) → fX12_offers_L45 f a1 (nZ p) (nZ j) h = some (.inl (-4), h) := by
  intro f
  induction f with
  | zero => intro j _ q; omega
  | succ f ih =>
    intro j hj hf ⟨i, h1, h2, h3⟩
    rw [fX12_offers_L45]
    simp (disch := omega) only [lb_e, nZ_suc, nZ_ix, e, nZ_le, nZ_x60, nZ_add, nZ_ib, in_0, z0J, n1e4J]
    rw [gd_p (by omega), br_n (by omega), gd_p (by omega)]
    by_cases q : okO (gJ h 56 0 (60 * p + j))
    · rw [br_n (not_not_intro q)]
      exact ih (j + 1) (by omega) (by omega) ⟨i, by
        by_cases z : i = j
        · rw [z] at h3; exact absurd q h3
        · omega, h2, h3⟩
    · rw [br_p q]
/-- what household i offers by row p -/
def vO (m : Hp) (p n i : Nat) : Int32 := if (i < nH m ∧ gI m 68 0 i = 0) ∧ i < n then (gJ m 56 0 (60 * p + i)).toInt32 else 0
theorem of94_L {g : Hp} {l p n : Nat} (hl : l < 8) (hp : p < 4) (hn : n ≤ 60) : ∀ f j (c : Hp), RP c → nH c = nH g → (∀ i, gI c 68 0 i = gI g 68 0 i) → gI c 39 0 p = nZ n → (∀ i, i < 60 → gJ c 38 0 (60 * p + i) = gJ g 56 0 (60 * p + i)) → j ≤ 12 → 12 - j < f → Wp (fX11_offers_L94 f (nZ l) (nZ p) (nZ (cnt (fun i => decide (0 < vO g p n i)) j)) (nZ j) c) (fun r c' => r.1 = nZ (cnt (fun i => decide (0 < vO g p n i)) 12) ∧ Fr [17] c c' ∧ ∀ i, gI c' 17 0 i = if 12 * l + j ≤ i ∧ i < 12 * l + 12 then vO g p n (i - 12 * l) else gI c 17 0 i) := by
  intro f
  induction f with
  | zero => intro j c _ _ _ _ _ _ q; omega
  | succ f ih =>
    intro j c P eH eG e39 e38 hj hf
    have r3 := P.2.2.1
    rw [fX11_offers_L94]
    simp (disch := omega) only [le12, nZ_suc, nZ_p0, lb_e]
    by_cases q : j = 12
    · subst q
      rw [br_p (by omega), wp_some]
      refine ⟨rfl, Fr.rf _ _, fun i => ?_⟩
      rw [if_neg (by omega)]
    · rw [br_n (by omega)]
      have fin : ∀ x : Int32, x = vO g p n j → Wp (bd (fX0_noteOffer (nZ l) (nZ j) x c) (fun r18 h19 => br (x ≤ 0) (fX11_offers_L94 f (nZ l) (nZ p) (nZ (cnt (fun i => decide (0 < vO g p n i)) j)) (nZ (j + 1)) h19) (fX11_offers_L94 f (nZ l) (nZ p) (nZ (cnt (fun i => decide (0 < vO g p n i)) j + 1)) (nZ (j + 1)) h19))) (fun r c' => r.1 = nZ (cnt (fun i => decide (0 < vO g p n i)) 12) ∧ Fr [17] c c' ∧ ∀ i, gI c' 17 0 i = if 12 * l + j ≤ i ∧ i < 12 * l + 12 then vO g p n (i - 12 * l) else gI c 17 0 i) := by
        intro x hx
        subst hx
        unfold fX0_noteOffer
        simp (disch := omega) only [nZ_12x, nZ_add, nZ_ib, nZ_ix, lb_e]
        rw [gd_p (by omega), bd_s rfl]
        obtain ⟨c2, e2⟩ : ∃ y, y = sI c 17 0 (12 * l + j) (vO g p n j) := ⟨_, rfl⟩
        have f2 : Fr [17] c c2 := by rw [e2]; exact Fr_I _ _ _ _ _ rfl
        rw [← e2]
        have nx := ih (j + 1) c2 (RP_sm (f2.sm rfl) P) (by rw [nH_sm (f2.sm rfl)]; exact eH) (fun i => by rw [f2.A 68 0 i rfl]; exact eG i) (by rw [f2.A 39 0 p rfl]; exact e39) (fun i hi => by rw [f2.AJ 38 0 _ rfl]; exact e38 i hi) (by omega) (by omega)
        have post : ∀ r c', (r : Int32 × Int32).1 = nZ (cnt (fun i => decide (0 < vO g p n i)) 12) ∧ Fr [17] c2 c' ∧ (∀ i, gI c' 17 0 i = if 12 * l + (j + 1) ≤ i ∧ i < 12 * l + 12 then vO g p n (i - 12 * l) else gI c2 17 0 i) → r.1 = nZ (cnt (fun i => decide (0 < vO g p n i)) 12) ∧ Fr [17] c c' ∧ ∀ i, gI c' 17 0 i = if 12 * l + j ≤ i ∧ i < 12 * l + 12 then vO g p n (i - 12 * l) else gI c 17 0 i := by
          intro r c' ⟨p1, p2, p3⟩
          refine ⟨p1, f2.tr p2, fun i => ?_⟩
          rw [p3 i, e2, gI_a]
          by_cases z : i = 12 * l + j
          · rw [if_neg (by omega), if_pos z, if_pos (by omega), z, show 12 * l + j - 12 * l = j by omega]
          · by_cases z2 : 12 * l + (j + 1) ≤ i ∧ i < 12 * l + 12
            · rw [if_pos z2, if_pos (by omega)]
            · rw [if_neg z2, if_neg z, if_neg (by omega)]
        by_cases z : vO g p n j ≤ 0
        · rw [br_p z]
          rw [cnt_f (by rw [decide_eq_true_iff, i32_lt]; rw [i32_le] at z; omega)] at nx
          exact wp_mono nx post
        · rw [br_n z]
          rw [cnt_t (by rw [decide_eq_true_iff, i32_lt]; rw [i32_le] at z; omega)] at nx
          exact wp_mono nx post
      have xj : ix (nZ j) = j := nZ_ix (by omega)
      by_cases z : j < nH g ∧ gI g 68 0 j = 0
      · have st : isT c (nZ j) := ⟨by rw [nZ_t (by omega), eH]; omega, by rw [xj, eG]; exact z.2⟩
        rw [bd_s (stay_t P st), br_n (by decide), bd_s (number7 hp hn (by omega) e39)]
        refine fin _ ?_
        unfold vO
        by_cases w : j < n
        · rw [if_pos w, if_pos ⟨z, w⟩, e38 j (by omega)]
        · rw [if_neg w, if_neg fun y => w y.2]
          rfl
      · have st : ¬ isT c (nZ j) := fun w => z ⟨by have := w.1.2; rw [nZ_t (by omega), eH] at this; omega, by have := w.2; rw [xj, eG] at this; exact this⟩
        rw [bd_s (stay_f P st), br_p rfl]
        refine fin _ ?_
        unfold vO
        rw [if_neg fun y => z y.1]
theorem of90_L {g : Hp} {l p n : Nat} (hl : l < 8) (hp : p < 4) (hn : n ≤ 60) : ∀ f j (m : Hp), RP m → nH m = nH g → (∀ i, gI m 68 0 i = gI g 68 0 i) → gI m 55 0 p = nZ n → (∀ i, i < 60 → gJ m 56 0 (60 * p + i) = gJ g 56 0 (60 * p + i)) → j ≤ 12 → 12 - j < f → Wp (fX12_offers_L90 f (nZ l) (nZ p) (nZ (cnt (fun i => decide (0 < vO g p n i)) j)) (nZ j) m) (fun r m' => r.1 = nZ (cnt (fun i => decide (0 < vO g p n i)) 12) ∧ Fr [87] m m' ∧ ∀ i, gI m' 87 0 i = if 12 * l + j ≤ i ∧ i < 12 * l + 12 then vO g p n (i - 12 * l) else gI m 87 0 i) := by
  intro f
  induction f with
  | zero => intro j c _ _ _ _ _ _ q; omega
  | succ f ih =>
    intro j c P eH eG e55 e56 hj hf
    have r3 := P.2.2.1
    rw [fX12_offers_L90, P.1, eH]
    rw [eH] at r3
    simp (disch := omega) only [le12, nZ_suc, nZ_p0, lb_e, nZ_le, nZ_ix, e55, nZ_x60, nZ_x12, nZ_add, nZ_ib, eG]
    by_cases q : j = 12
    · subst q
      rw [br_p (by omega), wp_some]
      refine ⟨rfl, Fr.rf _ _, fun i => ?_⟩
      rw [if_neg (by omega)]
    · rw [br_n (by omega)]
      have fin : ∀ x : Int32, x = vO g p n j → Wp (gd (12 * l + j < 96) (br (x ≤ 0) (fX12_offers_L90 f (nZ l) (nZ p) (nZ (cnt (fun i => decide (0 < vO g p n i)) j)) (nZ (j + 1)) (sI c 87 0 (12 * l + j) x)) (fX12_offers_L90 f (nZ l) (nZ p) (nZ (cnt (fun i => decide (0 < vO g p n i)) j + 1)) (nZ (j + 1)) (sI c 87 0 (12 * l + j) x)))) (fun r c' => r.1 = nZ (cnt (fun i => decide (0 < vO g p n i)) 12) ∧ Fr [87] c c' ∧ ∀ i, gI c' 87 0 i = if 12 * l + j ≤ i ∧ i < 12 * l + 12 then vO g p n (i - 12 * l) else gI c 87 0 i) := by
        intro x hx
        subst hx
        rw [gd_p (by omega)]
        obtain ⟨c2, e2⟩ : ∃ y, y = sI c 87 0 (12 * l + j) (vO g p n j) := ⟨_, rfl⟩
        have f2 : Fr [87] c c2 := by rw [e2]; exact Fr_I _ _ _ _ _ rfl
        rw [← e2]
        have nx := ih (j + 1) c2 (RP_sm (f2.sm rfl) P) (by rw [nH_sm (f2.sm rfl)]; exact eH) (fun i => by rw [f2.A 68 0 i rfl]; exact eG i) (by rw [f2.A 55 0 p rfl]; exact e55) (fun i hi => by rw [f2.AJ 56 0 _ rfl]; exact e56 i hi) (by omega) (by omega)
        have post : ∀ r c', (r : Int32 × Int32).1 = nZ (cnt (fun i => decide (0 < vO g p n i)) 12) ∧ Fr [87] c2 c' ∧ (∀ i, gI c' 87 0 i = if 12 * l + (j + 1) ≤ i ∧ i < 12 * l + 12 then vO g p n (i - 12 * l) else gI c2 87 0 i) → r.1 = nZ (cnt (fun i => decide (0 < vO g p n i)) 12) ∧ Fr [87] c c' ∧ ∀ i, gI c' 87 0 i = if 12 * l + j ≤ i ∧ i < 12 * l + 12 then vO g p n (i - 12 * l) else gI c 87 0 i := by
          intro r c' ⟨p1, p2, p3⟩
          refine ⟨p1, f2.tr p2, fun i => ?_⟩
          rw [p3 i, e2, gI_a]
          by_cases z : i = 12 * l + j
          · rw [if_neg (by omega), if_pos z, if_pos (by omega), z, show 12 * l + j - 12 * l = j by omega]
          · by_cases z2 : 12 * l + (j + 1) ≤ i ∧ i < 12 * l + 12
            · rw [if_pos z2, if_pos (by omega)]
            · rw [if_neg z2, if_neg z, if_neg (by omega)]
        by_cases z : vO g p n j ≤ 0
        · rw [br_p z]
          rw [cnt_f (by rw [decide_eq_true_iff, i32_lt]; rw [i32_le] at z; omega)] at nx
          exact wp_mono nx post
        · rw [br_n z]
          rw [cnt_t (by rw [decide_eq_true_iff, i32_lt]; rw [i32_le] at z; omega)] at nx
          exact wp_mono nx post
      by_cases z1 : nH g ≤ j
      · rw [br_p z1]
        exact fin 0 (by unfold vO; rw [if_neg (by omega)])
      · rw [br_n z1, gd_p (by omega)]
        by_cases z2 : n ≤ j
        · rw [br_p z2]
          exact fin 0 (by unfold vO; rw [if_neg (by omega)])
        · rw [br_n z2, gd_p (by omega)]
          by_cases z3 : gI g 68 0 j = 0
          · rw [br_p z3, gd_p (by omega)]
            exact fin _ (by unfold vO; rw [if_pos ⟨⟨by omega, z3⟩, by omega⟩, e56 j (by omega)])
          · rw [br_n z3]
            exact fin 0 (by unfold vO; rw [if_neg fun y => z3 y.1.2])
theorem ms_r {ρ τ γ : Type} {f : ρ → γ} {g : τ → γ} {z : τ} : ms (.inr z) f g = g z := rfl
theorem ms_l {ρ τ γ : Type} {f : ρ → γ} {g : τ → γ} {z : ρ} : ms (.inl z) f g = f z := rfl
theorem isLot_t {c : Hp} {n : Nat} (hn : n ≤ 8) (e : gI c 0 0 0 = nZ n) (a : Int32) : (fX0_isLot a c = 0) ↔ ¬ (0 ≤ a.toInt ∧ a.toInt < n) := by
  unfold fX0_isLot
  rw [br_or, br01, e, i32_lt, i32_le, z0, nZ_t (by omega)]
  omega
theorem vO_b {m : Hp} {p n : Nat} (K : ∀ i, i < n → okO (gJ m 56 0 (60 * p + i))) (i : Nat) : 0 ≤ (vO m p n i).toInt ∧ (vO m p n i).toInt ≤ 10000 := by
  unfold vO
  by_cases q : (i < nH m ∧ gI m 68 0 i = 0) ∧ i < n
  · have k := K i q.2
    rw [if_pos q, Int64.toInt_toInt32, Int.bmod_eq_of_le (by omega) (by omega)]
    exact k
  · rw [if_neg q, z0]
    omega
def w_off : List Nat := [13000, 17, 87]
theorem s_offers (a1 a2 : Int32) (h : Hp) (P : RP h) (W : Rr h) {B : Nat} {u : Nat → Nat} (A : RA (nH h) B u h h) : Op w_off (fX11_offers a1 a2) (fX12_offers a1 a2) h (fun h3 => RA (nH h) B u h3 h3) := by
  have P0 := RP_sm (thrown_sm rfl h) P
  have A0 : RA (nH h) B u (sI h 12 0 0 0) (sI h 12 0 0 0) := RA_m (thrown_sm rfl h) (RA_c (thrown_sm rfl h) A)
  obtain ⟨r1, r2, r3, r4, r5⟩ := id A
  have lot12 : ∀ g : Hp, gI g 12 0 10 = nZ (nL h) → ((fX12_in a1.toInt64 0 (((gI g 12 0 10) - 1).toInt64) g = 0) ↔ ¬ (0 ≤ a1.toInt ∧ a1.toInt < nL h)) := fun g e => by
    rw [in_0, to64, to64, e, pre_t (by omega), z0J]
    omega
  by_cases q : (0 ≤ a1.toInt ∧ a1.toInt < nL h) ∧ (0 ≤ a2.toInt ∧ a2.toInt ≤ 3)
  · obtain ⟨l, rfl, el, hl'⟩ := nZ_ex q.1.1
    obtain ⟨p, rfl, ep, hp'⟩ := nZ_ex q.2.1
    have hl : l < nL h := by omega
    have hp : p < 4 := by omega
    have hib : ib (nZ p) 4 := by rw [nZ_ib (by omega)]; omega
    have xp : ix (nZ p) = p := nZ_ix hp'
    by_cases q5 : 0 ≤ gI h 54 0 p
    · obtain ⟨n, hn, e39, e55, e38⟩ := W.ex hp q5
      have nf39 := W.yes hp q5
      have fl : fX7_isFilled (nZ p) h = some (1, h) := by
        rw [filled7 q.2 h, xp, if_neg nf39]
      have pre11 : fX11_offers (nZ l) (nZ p) h = bd (fX11_offers_L41 FU (nZ l) (nZ p) 0 h) (fun u11 h8 => ms u11 (fun r12 => some (r12, h8)) (fun v10 => bd (fX11_offers_L94 FU (nZ l) (nZ p) 0 0 h8) (fun t27 h26 => lb t27.1 (fun v28 => lb t27.2 (fun v29 => some (v28, h26)))))) := by
        unfold fX11_offers
        rw [br_n (fun z => (isLot_t r3 r2 _).mp z q.1), br_n (fun z => (place7 _ _).mp z q.2), bd_s fl, br_n (by decide)]
      have pre12 : ∀ g : Hp, gI g 12 0 10 = nZ (nL h) → 0 ≤ gI g 54 0 p → fX12_offers (nZ l) (nZ p) g = bd (fX12_offers_L45 FU (nZ l) (nZ p) 0 (sI g 12 0 0 0)) (fun u9 h6 => ms u9 (fun r10 => some (r10, h6)) (fun v8 => bd (fX12_offers_L90 FU (nZ l) (nZ p) 0 0 h6) (fun t26 h25 => lb t26.1 (fun v27 => lb t26.2 (fun v28 => some (v27, h25)))))) := fun g e1 e2 => by
        unfold fX12_offers
        rw [lb_e, br_n (fun z => (lot12 _ (by rw [gI_p (by decide)]; exact e1)).mp z q.1), br_n (fun z => (place12 _ _).mp z q.2), gd_p hib, xp, br_p (by rw [gI_o (by decide)]; exact e2)]
      by_cases K : ∀ i, i < n → okO (gJ h 56 0 (60 * p + i))
      · obtain ⟨r, c', ec, k1, k2, k3⟩ := of94_L (g := h) (l := l) (by omega) hp hn FU 0 h P rfl (fun _ => rfl) e39 e38 (by omega) (by show _ < 100000; omega)
        have fz : Fr [13000] c' (sI c' 12 0 0 0) := Fr_I _ _ _ _ _ rfl
        have fcz : Fr [13000, 17] h (sI c' 12 0 0 0) := (k2.wk rfl).tr (fz.wk rfl)
        obtain ⟨r', m', em, l1, l2, l3⟩ := of90_L (g := h) (l := l) (n := n) (by omega) hp hn FU 0 (sI c' 12 0 0 0) (RP_sm (fcz.sm rfl) P) (nH_sm (fcz.sm rfl)) (fun i => fcz.A 68 0 i rfl) (by rw [fcz.A 55 0 p rfl]; exact e55) (fun i hi => fcz.AJ 56 0 _ rfl) (by omega) (by show _ < 100000; omega)
        refine ⟨nZ (cnt (fun i => decide (0 < vO h p n i)) 12), c', m', ?_, ?_, k2.wk rfl, (fcz.wk rfl).tr (l2.wk rfl), ?_⟩
        · rw [pre11, bd_s (show fX11_offers_L41 FU (nZ l) (nZ p) 0 h = _ from of41_t (nZ l) hp hn e39 FU 0 (by omega) (by show _ < 100000; omega) fun i _ hi => by rw [e38 i (by omega)]; exact K i hi)]
          rw [ms_r, bd_s (show fX11_offers_L94 FU (nZ l) (nZ p) 0 0 h = _ from ec)]
          rw [← k1]
          rfl
        · rw [pre12 c' (by rw [k2.I 12 0 10 rfl]; exact r1) (by rw [k2.A 54 0 p rfl]; exact q5), bd_s (show fX12_offers_L45 FU (nZ l) (nZ p) 0 (sI c' 12 0 0 0) = _ from of45_t (nZ l) hp hn (by rw [fcz.A 55 0 p rfl]; exact e55) FU 0 (by omega) (by show _ < 100000; omega) fun i _ hi => by rw [fcz.AJ 56 0 _ rfl]; exact K i hi)]
          rw [ms_r, bd_s (show fX12_offers_L90 FU (nZ l) (nZ p) 0 0 (sI c' 12 0 0 0) = _ from em)]
          rw [← l1]
          rfl
        · have fm : Fr [13000, 17, 87] h m' := (fcz.wk rfl).tr (l2.wk rfl)
          have eL : nL m' = nL h := by unfold nL; rw [fm.I 12 0 10 rfl]
          show RA (nH h) B u m' m'
          unfold RA
          rw [eL]
          refine ⟨by rw [fm.I 12 0 10 rfl]; exact r1, by rw [fm.I 0 0 0 rfl]; exact r2, r3, fun l' hl' => ?_, fun l' i hl' hi => ?_⟩
          · rw [fm.A 13 0 _ rfl, fm.A 14 0 _ rfl, fm.A 15 0 _ rfl, fm.A 16 0 _ rfl, fm.A 83 0 _ rfl, fm.A 84 0 _ rfl, fm.A 85 0 _ rfl, fm.A 86 0 _ rfl]
            exact r4 l' hl'
          · rw [l2.A 17 0 _ rfl, fz.A 17 0 _ rfl, k3, l3, fcz.A 87 0 _ rfl, fm.A 68 0 _ rfl]
            by_cases z : l' = l
            · have cnd : 12 * l + 0 ≤ 12 * l' + i ∧ 12 * l' + i < 12 * l + 12 := by omega
              simp only [if_pos cnd]
              rw [z, show 12 * l + i - 12 * l = i by omega]
              refine ⟨?_, vO_b K i, fun w => ?_⟩
              · by_cases w : gI h 68 0 i = 0
                · rw [if_pos w]
                · rw [if_neg w]
                  unfold vO
                  rw [if_neg fun y => w y.1.2]
              · unfold vO
                rw [if_neg (by omega)]
            · have cnd : ¬ (12 * l + 0 ≤ 12 * l' + i ∧ 12 * l' + i < 12 * l + 12) := by omega
              simp only [if_neg cnd]
              exact r5 l' i hl' hi
      · have ex : ∃ i, 0 ≤ i ∧ i < n ∧ ¬ okO (gJ h 56 0 (60 * p + i)) := Classical.byContradiction fun w => K fun i hi => Classical.byContradiction fun y => w ⟨i, by omega, hi, y⟩
        refine Op_no rfl (r := -4) ?_ ?_ A0
        · rw [pre11, bd_s (show fX11_offers_L41 FU (nZ l) (nZ p) 0 h = _ from of41_f (nZ l) hp hn e39 FU 0 (by omega) (by show _ < 100000; omega) (by obtain ⟨i, h1, h2, h3⟩ := ex; exact ⟨i, h1, h2, by rw [e38 i (by omega)]; exact h3⟩))]
          rfl
        · rw [pre12 h r1 q5, bd_s (show fX12_offers_L45 FU (nZ l) (nZ p) 0 (sI h 12 0 0 0) = _ from of45_f (h := sI h 12 0 0 0) (nZ l) hp hn (by rw [gI_o (by decide)]; exact e55) FU 0 (by omega) (by show _ < 100000; omega) (by simp only [gJ_sI]; exact ex))]
          rfl
    · have n39 := W.no hp q5
      refine Op_no rfl (r := -5) ?_ ?_ A0
      · unfold fX11_offers
        rw [br_n (fun z => (isLot_t r3 r2 _).mp z q.1), br_n (fun z => (place7 _ _).mp z q.2), bd_s (filled7 q.2 h), xp, if_pos n39]
        rfl
      · unfold fX12_offers
        rw [lb_e, br_n (fun z => (lot12 _ (by rw [gI_p (by decide)]; exact r1)).mp z q.1), br_n (fun z => (place12 _ _).mp z q.2), gd_p hib, xp, br_n (by rw [gI_o (by decide)]; exact q5)]
  · refine Op_no rfl (r := -2) ?_ ?_ A0
    · unfold fX11_offers
      rw [br_or, br_p]
      rw [isLot_t r3 r2, place7]
      omega
    · unfold fX12_offers
      rw [lb_e, br_or, br_p]
      rw [lot12 _ (by rw [gI_p (by decide)]; exact r1), place12]
      omega
def RK (h : Hp) : Prop := gI h 0 0 9 = gI h 12 0 56 ∧ (gI h 12 0 56 ≠ 0 → ∃ k, gI h 12 0 60 = nZ k ∧ k ≤ nH h ∧ (∀ i, i < k → gI h 21 0 i = gI h 96 0 i ∧ (gI h 22 0 i).toInt64 = gJ h 98 0 i) ∧ (∀ i, k ≤ i → i < 12 → gI h 21 0 i = -1 ∧ gI h 22 0 i = 0) ∧ (gI h 0 0 12).toInt64 = gJ h 12 0 61)
theorem s_knocked (a1 a2 : Int32) (h : Hp) (P : RP h) (K : RK h) : Op [13000] (fX11_knocked a1 a2) (fX12_knocked a1 a2) h (fun _ => True) := by
  have P0 := RP_sm (thrown_sm rfl h) P
  have r3 := P.2.2.1
  refine Op_ro rfl ?_ trivial
  unfold fX11_knocked fX12_knocked
  simp only [lb_e, house4 P, house12 P0, show nH (sI h 12 0 0 0) = nH h from rfl, gI_p (show ((56 : Nat) == 0) = false from rfl), K.1, in_0, to64, z0J, n2J]
  by_cases q1 : gI h 12 0 56 = 0
  · refine ⟨-2, ?_, ?_⟩
    · by_cases z : 0 ≤ a1.toInt ∧ a1.toInt < nH h
      · rw [br_n (not_not_intro z), br_p q1]
      · rw [br_p z]
    · rw [br_p q1]
  · obtain ⟨k, k1, k2, k3, k4, k5⟩ := K.2 q1
    by_cases q2 : 0 ≤ a1.toInt ∧ a1.toInt < nH h
    · obtain ⟨i, rfl, hi⟩ := hs_ex P q2
      have hib : ib (nZ i) 12 := by rw [nZ_ib (by omega)]; omega
      simp (disch := decide) only [gI_p, gI_o, gJ_sI]
      rw [k1]
      simp only [gd_p hib, nZ_ix (by omega : i < 2147483648), nZ_lt (by omega : i < 2147483648) (by omega : k < 2147483648)]
      by_cases z0' : a2 = 0
      · by_cases w : i < k
        · refine ⟨(gI h 21 0 i).toInt64, ?_, ?_⟩
          · rw [br_n (not_not_intro q2), br_n q1, br_p z0']
          · rw [br_n q1, br_n (not_not_intro q2), br_n (by rw [z0', z0]; omega), br_n (by rw [z0']; decide), br_p w, br_p z0', (k3 i w).1]
        · refine ⟨(gI h 21 0 i).toInt64, ?_, ?_⟩
          · rw [br_n (not_not_intro q2), br_n q1, br_p z0']
          · rw [br_n q1, br_n (not_not_intro q2), br_n (by rw [z0', z0]; omega), br_n (by rw [z0']; decide), br_n w, br_p z0', (k4 i (by omega) (by omega)).1]
            rfl
      · by_cases z1' : a2 = 1
        · by_cases w : i < k
          · refine ⟨(gI h 22 0 i).toInt64, ?_, ?_⟩
            · rw [br_n (not_not_intro q2), br_n q1, br_n z0', br_p z1']
            · rw [br_n q1, br_n (not_not_intro q2), br_n (by rw [z1', o1]; omega), br_n (by rw [z1']; decide), br_p w, br_n z0', (k3 i w).2]
          · refine ⟨(gI h 22 0 i).toInt64, ?_, ?_⟩
            · rw [br_n (not_not_intro q2), br_n q1, br_n z0', br_p z1']
            · rw [br_n q1, br_n (not_not_intro q2), br_n (by rw [z1', o1]; omega), br_n (by rw [z1']; decide), br_n w, br_n z0', (k4 i (by omega) (by omega)).2]
              rfl
        · by_cases z2' : a2 = 2
          · refine ⟨(gI h 0 0 12).toInt64, ?_, ?_⟩
            · rw [br_n (not_not_intro q2), br_n q1, br_n z0', br_n z1', br_p z2']
            · rw [br_n q1, br_n (not_not_intro q2), br_n (by rw [z2', n2]; omega), br_p z2', k5]
          · refine ⟨-2, ?_, ?_⟩
            · rw [br_n (not_not_intro q2), br_n q1, br_n z0', br_n z1', br_n z2']
            · rw [br_n q1, br_n (not_not_intro q2), br_p]
              rw [i32_eq, z0] at z0'
              rw [i32_eq, o1] at z1'
              rw [i32_eq, n2] at z2'
              omega
    · refine ⟨-2, ?_, ?_⟩
      · rw [br_p q2]
      · rw [br_n q1, br_p q2]
def RG (h : Hp) : Prop := ∀ i, i < 12 → gI h 37 0 i = if gI h 12 0 75 = 0 then -1 else gI h 109 0 i
theorem s_changedTo (a1 : Int32) (h : Hp) (P : RP h) (K : RG h) : Op [13000] (fX11_changedTo a1) (fX12_changedTo a1) h (fun _ => True) := by
  have P0 := RP_sm (thrown_sm rfl h) P
  have r3 := P.2.2.1
  refine Op_ro rfl ?_ trivial
  unfold fX11_changedTo fX12_changedTo
  simp only [lb_e, house4 P, house12 P0, show nH (sI h 12 0 0 0) = nH h from rfl]
  by_cases q2 : 0 ≤ a1.toInt ∧ a1.toInt < nH h
  · obtain ⟨i, rfl, hi⟩ := hs_ex P q2
    have hib : ib (nZ i) 12 := by rw [nZ_ib (by omega)]; omega
    refine ⟨gI h 37 0 i, ?_, ?_⟩
    · rw [br_n (not_not_intro q2), gd_p hib, nZ_ix (by omega)]
    · rw [br_n (not_not_intro q2), gd_p hib, nZ_ix (by omega), gI_p (by decide), gI_o (by decide), K i (by omega)]
      unfold br
      split <;> rfl
  · exact ⟨-1, br_p q2, br_p q2⟩
def RSn (h : Hp) : Prop := ∃ k, k ≤ 60 ∧ gI h 9 0 7 = nZ k ∧ gI h 12 0 77 = nZ k ∧ ∀ i, i < k → (gI h 47 0 i = -1 ∧ gI h 112 0 i = -1) ∨ ∃ s, s < 256 ∧ gI h 47 0 i = nZ s ∧ gI h 112 0 i = nZ (100 * (s / 32) + s % 32)
theorem nZ_100x (a : Nat) : nZ a * 100 = nZ (100 * a) := by rw [Nat.mul_comm]; exact nZ_mul a 100
theorem s_sat (a1 : Int32) (h : Hp) (K : RSn h) : Op [13000] (fX11_sat a1) (fX12_sat a1) h (fun _ => True) := by
  obtain ⟨k, h1, h2, h3, h4⟩ := K
  refine Op_ro rfl ?_ trivial
  unfold fX11_sat fX12_sat
  simp only [lb_e, in_0, to64, z0J, gI_p (show ((77 : Nat) == 0) = false from rfl), h2, h3, pre_t (by omega : k ≤ 1000)]
  by_cases q : 0 ≤ a1.toInt ∧ a1.toInt ≤ (k : Int) - 1
  · obtain ⟨i, rfl, ei, hi⟩ := nZ_ex q.1
    have hik : i < k := by omega
    have hib : ib (nZ i) 60 := by rw [nZ_ib (by omega)]; omega
    simp only [gd_p hib, nZ_ix hi, gI_o (show ((112 : Nat) == 12) = false from rfl)]
    refine ⟨gI h 112 0 i, ?_, br_n (not_not_intro q)⟩
    rw [br_n (by rw [nZ_neg hi]; exact id), br_p (by rw [nZ_lt hi (by omega)]; exact hik)]
    rcases h4 i hik with z | ⟨s, z1, z2, z3⟩
    · rw [br_p z.1, z.2]
    · rw [z2, z3, br_n (show ¬ nZ s = -1 from fun z => (nZ_m1 (by omega)).mp z), nZ_d32 (by omega), nZ_m32 (by omega), nZ_100x, nZ_add]
  · refine ⟨-1, ?_, br_p q⟩
    by_cases z : a1 < 0
    · rw [br_p z]
    · rw [br_n z, br_n]
      rw [i32_lt, z0] at z
      rw [i32_lt, nZ_t (by omega)]
      omega
