/-! ===== level 2: who sat where in the years: seat, moved ===== -/
def SeatOk (c : Hp) (s : Nat) : Prop := gR c 8 s 0 = some s ∧ gR c 8 s 1 = some s ∧ gR c 8 s 2 = some s ∧ gR c 8 s 3 = some s
def sr (B : Nat) (u : Nat → Nat) (c m : Hp) (s y i : Nat) : Prop := (gI c 41 s i = -1 ∧ gI m 88 0 (200 * i + y) = -1) ∨ ∃ b v w, gI c 41 s i = nZ (32 * b + v) ∧ gI m 88 0 (200 * i + y) = nZ b ∧ gI m 89 0 (200 * i + y) = nZ v ∧ gI c 42 s i = nZ w ∧ gI m 90 0 (200 * i + y) = nZ w ∧ gI c 43 s i = gI m 91 0 (200 * i + y) ∧ gI c 44 s i = gI m 92 0 (200 * i + y) ∧ (gI m 92 0 (200 * i + y) = 0 ∨ gI m 92 0 (200 * i + y) = 1) ∧ b < B ∧ 1 ≤ w ∧ w ≤ 12 ∧ v + w ≤ u b
def RHi (H y B : Nat) (u : Nat → Nat) (c m : Hp) : Prop := (gN c 8 = y + 1 ∧ gN c 41 = y + 1 ∧ gN c 42 = y + 1 ∧ gN c 43 = y + 1 ∧ gN c 44 = y + 1) ∧ (∀ s, s ≤ y → SeatOk c s) ∧ (∀ t, t < y → gR c 52 0 t = some (t + 1)) ∧ (∀ t i, t < y → i < 12 → sr B u c m (t + 1) t i) ∧ (∀ t i, i < 12 → t < 200 → (y ≤ t ∨ H ≤ i) → gI m 88 0 (200 * i + t) = -1)
def fRHc : List Nat := [508, 541, 542, 543, 544, 9000, 9001, 9002, 9003, 52, 41, 42, 43, 44]
def fRHm : List Nat := [88, 89, 90, 91, 92]
theorem RHi_sm {H y B : Nat} {u : Nat → Nat} {c c' m m' : Hp} (e1 : Sm fRHc c c') (e2 : Sm fRHm m m') (R : RHi H y B u c m) : RHi H y B u c' m' := by
  unfold RHi SeatOk sr at R ⊢
  simp (disch := decide) only [e1.A, e1.AR, e1.R, e1.N, e2.A]
  exact R
theorem RHi_mono {H H' y B B' : Nat} {u u' : Nat → Nat} {c m : Hp} (R : RHi H y B u c m) (h1 : H ≤ H') (h3 : B ≤ B') (h4 : ∀ b, b < B → u' b = u b) : RHi H' y B' u' c m := by
  obtain ⟨r1, r2, r3, r4, r5⟩ := R
  refine ⟨r1, r2, r3, fun t i ht hi => ?_, fun t i hi ht z => r5 t i hi ht (by omega)⟩
  rcases r4 t i ht hi with z | ⟨b, v, w, z1, z2, z3, z4, z5, z6, z7, z8, z9, z10, z11, z12⟩
  · exact Or.inl z
  · exact Or.inr ⟨b, v, w, z1, z2, z3, z4, z5, z6, z7, z8, by omega, z10, z11, by rw [h4 b z9]; exact z12⟩
theorem of12 : Int32.ofNat 12 = nZ 12 := rfl
theorem of200 : Int32.ofNat 200 = nZ 200 := rfl
theorem sit_t {c : Hp} {s i : Nat} (S : SeatOk c s) (hi : i < 12) : fX8_isSitting s (nZ i) c = some (if gI c 41 s i = -1 then 0 else 1, c) := by
  unfold fX8_isSitting
  simp (disch := omega) only [lb_e, of12, nZ_le, nZ_ib, nZ_ix, mt_s S.1]
  rw [br_n (by rw [nZ_neg (by omega)]; exact id), br_n (by omega), gd_p (by omega)]
  by_cases z : gI c 41 s i = -1
  · rw [br_p z, if_pos z]
  · rw [br_n z, if_neg z]
theorem sit_o {c : Hp} {s : Nat} {a : Int32} (S : SeatOk c s) (ha : ¬ (0 ≤ a.toInt ∧ a.toInt < 12)) : fX8_isSitting s a c = some (0, c) := by
  unfold fX8_isSitting
  simp only [lb_e, of12, mt_s S.1]
  by_cases z : a < 0
  · rw [br_p z]
  · rw [br_n z, br_p]
    rw [i32_lt, z0] at z
    rw [i32_le, nZ_t (by omega)]
    omega
theorem same_t {c : Hp} {s t i : Nat} (S : SeatOk c s) (S' : SeatOk c t) (hi : i < 12) : fX8_isSameRun s t (nZ i) c = some (if gI c 41 s i = gI c 41 t i ∧ gI c 42 s i = gI c 42 t i then 1 else 0, c) := by
  unfold fX8_isSameRun
  simp (disch := omega) only [lb_e, nZ_ib, nZ_ix, mt_s S.1, mt_s S'.1, mt_s S.2.1, mt_s S'.2.1]
  simp only [gd_p hi]
  by_cases z : gI c 41 s i = gI c 41 t i
  · rw [br_p z]
    by_cases w : gI c 42 s i = gI c 42 t i
    · rw [br_p w, if_pos ⟨z, w⟩]
    · rw [br_n w, if_neg fun y => w y.2]
  · rw [br_n z, if_neg fun y => z y.1]
theorem seating_t {c : Hp} {y t : Nat} (e : gI c 11 0 11 = nZ y) (hy : y ≤ 199) (ht : t < y) (er : gR c 52 0 t = some (t + 1)) : fX11_seatingOf (nZ t) c = some (some (t + 1), c) := by
  unfold fX11_seatingOf
  rw [e, of200]
  simp (disch := omega) only [lb_e, nZ_le, nZ_ib, nZ_ix]
  rw [br_n (by rw [nZ_neg (by omega)]; exact id), br_n (by omega), br_n (by omega), gd_p (by omega), er]
theorem seating_f {c : Hp} {y : Nat} {a : Int32} (e : gI c 11 0 11 = nZ y) (hy : y ≤ 199) (ha : ¬ (0 ≤ a.toInt ∧ a.toInt < y)) : fX11_seatingOf a c = some (none, c) := by
  unfold fX11_seatingOf
  rw [br_or, br_p]
  rw [e, i32_lt, i32_le, z0, nZ_t (by omega)]
  omega
theorem past12 {m : Hp} {y : Nat} (e : gI m 12 0 5 = nZ y) (hy : y ≤ 199) (a : Int32) : (fX12_isPast a m = 0) ↔ ¬ (0 ≤ a.toInt ∧ a.toInt < y) := by
  unfold fX12_isPast
  rw [in_0, to64, to64, e, pre_t (by omega), z0J]
  omega
theorem s_seat (a1 a2 a3 : Int32) (h : Hp) (P : RP h) (Y : Ry h) {B : Nat} {u : Nat → Nat} (hB : B ≤ 8) (hu : ∀ b, b < B → u b ≤ 32) (R : RHi (nH h) (yr h) B u h h) : Op [13000] (fX11_seat a1 a2 a3) (fX12_seat a1 a2 a3) h (fun _ => True) := by
  obtain ⟨y1, y2, y3⟩ := Y.e
  obtain ⟨r1, r2, r3, r4, r5⟩ := R
  have P0 := RP_sm (thrown_sm rfl h) P
  have p3 := P.2.2.1
  have y1' : gI (sI h 12 0 0 0) 12 0 5 = nZ (yr h) := y1
  refine Op_ro rfl ?_ trivial
  unfold fX12_seat
  simp (disch := decide) only [lb_e, house12 P0, past12 y1' y3, in_0, to64, z0J, n4J, gI_o, show nH (sI h 12 0 0 0) = nH h from rfl]
  by_cases q2 : 0 ≤ a2.toInt ∧ a2.toInt < yr h
  · obtain ⟨t, rfl, et, ht'⟩ := nZ_ex q2.1
    have ht : t < yr h := by omega
    have S := r2 (t + 1) (by omega)
    unfold fX11_seat
    rw [bd_s (seating_t y2 y3 ht (r3 t ht)), mt_s rfl]
    by_cases q12 : 0 ≤ a1.toInt ∧ a1.toInt < 12
    · obtain ⟨i, rfl, ei, hi'⟩ := nZ_ex q12.1
      have hi : i < 12 := by omega
      have ei1 : (200 : Int32) * nZ i + nZ t = nZ (200 * i + t) := by rw [nZ_x200, nZ_add]
      have hib : ib (nZ (200 * i + t)) 2400 := by rw [nZ_ib (by omega)]; omega
      have hib1 : ib (nZ i) 12 := by rw [nZ_ib (by omega)]; omega
      rw [ei1, bd_s (sit_t S hi)]
      simp only [gd_p hib, gd_p hib1, nZ_ix (by omega : 200 * i + t < 2147483648), nZ_ix (by omega : i < 2147483648), lb_e, mt_s S.1, mt_s S.2.1, mt_s S.2.2.1, mt_s S.2.2.2]
      by_cases q1 : 0 ≤ (nZ i).toInt ∧ (nZ i).toInt < nH h
      · rw [br_n (not_not_intro q1), br_n (not_not_intro q2)]
        rcases r4 t i ht hi with z | ⟨b, v, w, z1, z2, z3, z4, z5, z6, z7, z8, z9, z10, z11, z12⟩
        · refine ⟨-1, ?_, ?_⟩
          · rw [if_pos z.1, br_p rfl]
          · by_cases w : 0 ≤ a3.toInt ∧ a3.toInt ≤ 4
            · rw [br_n (not_not_intro w), br_p z.2]
            · rw [br_p w]
        · have hub := hu b z9
          have n1' : ¬ gI h 41 (t + 1) i = -1 := by rw [z1]; exact fun w => (nZ_m1 (by omega)).mp w
          have n2' : ¬ gI h 88 0 (200 * i + t) = -1 := by rw [z2]; exact fun w => (nZ_m1 (by omega)).mp w
          rw [if_neg n1', br_n (show ¬ (1 : Int32) = 0 by decide), br_n n2', z1, nZ_d32 (by omega), nZ_m32 (by omega), z2, z3, z4, z5, z6, z7, show (32 * b + v) / 32 = b by omega, show (32 * b + v) % 32 = v by omega]
          by_cases w0 : a3 = 0
          · exact ⟨nZ b, br_p w0, by rw [br_n (by rw [w0, z0]; omega), br_p w0]⟩
          · by_cases w1 : a3 = 1
            · exact ⟨nZ v, by rw [br_n w0, br_p w1], by rw [br_n (by rw [w1, o1]; omega), br_n w0, br_p w1]⟩
            · by_cases w2 : a3 = 2
              · exact ⟨nZ w, by rw [br_n w0, br_n w1, br_p w2], by rw [br_n (by rw [w2, n2]; omega), br_n w0, br_n w1, br_p w2]⟩
              · by_cases w3 : a3 = 3
                · refine ⟨if gI h 92 0 (200 * i + t) = 0 then 0 else 1, ?_, ?_⟩
                  · rw [br_n w0, br_n w1, br_n w2, br_p w3]
                    unfold br
                    split <;> rfl
                  · rw [br_n (by rw [w3, n3]; omega), br_n w0, br_n w1, br_n w2, br_p w3]
                    unfold br
                    split <;> rfl
                · by_cases w4 : a3 = 4
                  · exact ⟨gI h 91 0 (200 * i + t), by rw [br_n w0, br_n w1, br_n w2, br_n w3, br_p w4], by rw [br_n (by rw [w4, n4]; omega), br_n w0, br_n w1, br_n w2, br_n w3]⟩
                  · refine ⟨-1, by rw [br_n w0, br_n w1, br_n w2, br_n w3, br_n w4], ?_⟩
                    rw [br_p]
                    rw [i32_eq, z0] at w0
                    rw [i32_eq, o1] at w1
                    rw [i32_eq, n2] at w2
                    rw [i32_eq, n3] at w3
                    rw [i32_eq, n4] at w4
                    omega
      · have e88 := r5 t i hi (by omega) (Or.inr (by rw [nZ_t (by omega)] at q1; omega))
        refine ⟨-1, ?_, br_p q1⟩
        rcases r4 t i ht hi with z | ⟨b, v, w, z1, z2, z3, z4, z5, z6, z7, z8, z9, z10, z11, z12⟩
        · rw [if_pos z.1, br_p rfl]
        · rw [z2] at e88
          exact absurd e88 fun w => (nZ_m1 (by omega)).mp w
    · refine ⟨-1, ?_, ?_⟩
      · rw [bd_s (sit_o S q12)]
        rfl
      · rw [br_p (by omega)]
  · refine ⟨-1, ?_, ?_⟩
    · unfold fX11_seat
      rw [bd_s (seating_f y2 y3 q2), mt_n rfl]
    · rw [br_or, br_p (Or.inr q2)]
/-- who sat in both years on other runs -/
def mvB (m : Hp) (a b i : Nat) : Bool := decide (gI m 88 0 (200 * i + a) ≠ -1 ∧ gI m 88 0 (200 * i + b) ≠ -1 ∧ ¬ (gI m 88 0 (200 * i + a) = gI m 88 0 (200 * i + b) ∧ gI m 89 0 (200 * i + a) = gI m 89 0 (200 * i + b) ∧ gI m 90 0 (200 * i + a) = gI m 90 0 (200 * i + b)))
theorem sr_sit {B : Nat} {u : Nat → Nat} (hB : B ≤ 8) (hu : ∀ b, b < B → u b ≤ 32) {c m : Hp} {s y i : Nat} (h : sr B u c m s y i) : (gI c 41 s i = -1) ↔ (gI m 88 0 (200 * i + y) = -1) := by
  rcases h with z | ⟨b, v, w, z1, z2, z3, z4, z5, z6, z7, z8, z9, z10, z11, z12⟩
  · exact iff_of_true z.1 z.2
  · rw [z1, z2]
    have := hu b z9
    exact iff_of_false (fun w => (nZ_m1 (by omega)).mp w) (fun w => (nZ_m1 (by omega)).mp w)
theorem sr_same {B : Nat} {u : Nat → Nat} (hB : B ≤ 8) (hu : ∀ b, b < B → u b ≤ 32) {c m : Hp} {s y s' y' i : Nat} (h : sr B u c m s y i) (h' : sr B u c m s' y' i) (n : ¬ gI m 88 0 (200 * i + y) = -1) (n' : ¬ gI m 88 0 (200 * i + y') = -1) : (gI c 41 s i = gI c 41 s' i ∧ gI c 42 s i = gI c 42 s' i) ↔ (gI m 88 0 (200 * i + y) = gI m 88 0 (200 * i + y') ∧ gI m 89 0 (200 * i + y) = gI m 89 0 (200 * i + y') ∧ gI m 90 0 (200 * i + y) = gI m 90 0 (200 * i + y')) := by
  rcases h with z | ⟨b, v, w, z1, z2, z3, z4, z5, z6, z7, z8, z9, z10, z11, z12⟩
  · exact absurd z.2 n
  · rcases h' with x | ⟨b', v', w', x1, x2, x3, x4, x5, x6, x7, x8, x9, x10, x11, x12⟩
    · exact absurd x.2 n'
    · have := hu b z9
      have := hu b' x9
      rw [z1, z2, z3, z4, z5, x1, x2, x3, x4, x5]
      simp (disch := omega) only [nZ_eq]
      omega
theorem mv_L {B y : Nat} {u : Nat → Nat} (hB : B ≤ 8) (hu : ∀ b, b < B → u b ≤ 32) {h : Hp} (P : RP h) {a b : Nat} (ha : a < y) (hb : b < y) (R : RHi (nH h) y B u h h) : ∀ n j, j ≤ nH h → nH h - j < n → ∃ w, fX11_moved_L31 n (a + 1) (b + 1) (nZ (cnt (mvB h a b) j)) (nZ j) h = some ((nZ (cnt (mvB h a b) (nH h)), w), h) := by
  obtain ⟨p1, p2, p3, p4, p5, p6⟩ := id P
  obtain ⟨r1, r2, r3, r4, r5⟩ := R
  intro n
  induction n with
  | zero => intro j _ q; omega
  | succ n ih =>
    intro j hj hn
    rw [fX11_moved_L31, p2]
    simp (disch := omega) only [lb_e, nZ_le, nZ_suc]
    by_cases q : j = nH h
    · subst q
      rw [br_p (by omega)]
      exact ⟨_, rfl⟩
    · have nx := ih (j + 1) (by omega) (by omega)
      have sa := r4 a j ha (by omega)
      have sb := r4 b j hb (by omega)
      rw [br_n (by omega), bd_s (sit_t (r2 (a + 1) (by omega)) (by omega))]
      by_cases z1 : gI h 41 (a + 1) j = -1
      · rw [if_pos z1, br_p rfl]
        rw [cnt_f (by unfold mvB; rw [decide_eq_true_iff]; exact fun w => w.1 ((sr_sit hB hu sa).mp z1))] at nx
        exact nx
      · rw [if_neg z1, br_n (by decide), bd_s (sit_t (r2 (b + 1) (by omega)) (by omega))]
        by_cases z2 : gI h 41 (b + 1) j = -1
        · rw [if_pos z2, br_p rfl]
          rw [cnt_f (by unfold mvB; rw [decide_eq_true_iff]; exact fun w => w.2.1 ((sr_sit hB hu sb).mp z2))] at nx
          exact nx
        · have n1' : ¬ gI h 88 0 (200 * j + a) = -1 := fun w => z1 ((sr_sit hB hu sa).mpr w)
          have n2' : ¬ gI h 88 0 (200 * j + b) = -1 := fun w => z2 ((sr_sit hB hu sb).mpr w)
          have sm := sr_same hB hu sa sb n1' n2'
          rw [if_neg z2, br_n (by decide), bd_s (same_t (r2 (a + 1) (by omega)) (r2 (b + 1) (by omega)) (by omega))]
          by_cases z3 : gI h 41 (a + 1) j = gI h 41 (b + 1) j ∧ gI h 42 (a + 1) j = gI h 42 (b + 1) j
          · rw [if_pos z3, br_n (by decide)]
            rw [cnt_f (by unfold mvB; rw [decide_eq_true_iff]; exact fun w => w.2.2 (sm.mp z3))] at nx
            exact nx
          · rw [if_neg z3, br_p rfl]
            rw [cnt_t (by unfold mvB; rw [decide_eq_true_iff]; exact ⟨n1', n2', fun w => z3 (sm.mpr w)⟩)] at nx
            exact nx
theorem mv12_L {h : Hp} (P : RP h) {a b : Nat} (ha : a < 200) (hb : b < 200) : ∀ n j, j ≤ nH h → nH h - j < n → ∃ w, fX12_moved_L29 n (nZ a) (nZ b) (nZ (cnt (mvB h a b) j)) (nZ j) h = some ((nZ (cnt (mvB h a b) (nH h)), w), h) := by
  obtain ⟨p1, p2, p3, p4, p5, p6⟩ := id P
  intro n
  induction n with
  | zero => intro j _ q; omega
  | succ n ih =>
    intro j hj hn
    rw [fX12_moved_L29, p1]
    simp (disch := omega) only [lb_e, nZ_le, nZ_suc, nZ_p0, nZ_x200, nZ_add, nZ_ib, nZ_ix]
    by_cases q : j = nH h
    · subst q
      rw [br_p (by omega)]
      exact ⟨_, rfl⟩
    · have nx := ih (j + 1) (by omega) (by omega)
      rw [br_n (by omega)]
      simp only [gd_p (by omega : 200 * j + a < 2400), gd_p (by omega : 200 * j + b < 2400)]
      by_cases z1 : gI h 88 0 (200 * j + a) = -1
      · rw [br_p z1]
        rw [cnt_f (by unfold mvB; rw [decide_eq_true_iff]; exact fun w => w.1 z1)] at nx
        exact nx
      · rw [br_n z1]
        by_cases z2 : gI h 88 0 (200 * j + b) = -1
        · rw [br_p z2]
          rw [cnt_f (by unfold mvB; rw [decide_eq_true_iff]; exact fun w => w.2.1 z2)] at nx
          exact nx
        · rw [br_n z2]
          by_cases z3 : gI h 88 0 (200 * j + a) = gI h 88 0 (200 * j + b) ∧ gI h 89 0 (200 * j + a) = gI h 89 0 (200 * j + b) ∧ gI h 90 0 (200 * j + a) = gI h 90 0 (200 * j + b)
          · rw [br_p z3.1, br_p z3.2.1, br_p z3.2.2]
            rw [cnt_f (by unfold mvB; rw [decide_eq_true_iff]; exact fun w => w.2.2 z3)] at nx
            exact nx
          · rw [cnt_t (by unfold mvB; rw [decide_eq_true_iff]; exact ⟨z1, z2, z3⟩)] at nx
            by_cases w1 : gI h 88 0 (200 * j + a) = gI h 88 0 (200 * j + b)
            · rw [br_p w1]
              by_cases w2 : gI h 89 0 (200 * j + a) = gI h 89 0 (200 * j + b)
              · rw [br_p w2, br_n fun w3 => z3 ⟨w1, w2, w3⟩]
                exact nx
              · rw [br_n w2]
                exact nx
            · rw [br_n w1]
              exact nx
theorem s_moved (a1 a2 : Int32) (h : Hp) (P : RP h) (Y : Ry h) {B : Nat} {u : Nat → Nat} (hB : B ≤ 8) (hu : ∀ b, b < B → u b ≤ 32) (R : RHi (nH h) (yr h) B u h h) : Op [13000] (fX11_moved a1 a2) (fX12_moved a1 a2) h (fun _ => True) := by
  obtain ⟨y1, y2, y3⟩ := Y.e
  have P0 := RP_sm (thrown_sm rfl h) P
  have p3 := P.2.2.1
  have y1' : gI (sI h 12 0 0 0) 12 0 5 = nZ (yr h) := y1
  have r3 := R.2.2.1
  refine Op_ro rfl ?_ trivial
  unfold fX12_moved
  simp only [lb_e, past12 y1' y3]
  by_cases q1 : 0 ≤ a1.toInt ∧ a1.toInt < yr h
  · by_cases q2 : 0 ≤ a2.toInt ∧ a2.toInt < yr h
    · obtain ⟨a, rfl, ea, ha'⟩ := nZ_ex q1.1
      obtain ⟨b, rfl, eb, hb'⟩ := nZ_ex q2.1
      obtain ⟨w, e1⟩ := mv_L hB hu P (a := a) (b := b) (y := yr h) (by omega) (by omega) R FU 0 (by omega) (by show _ < 100000; omega)
      obtain ⟨w', e2⟩ := mv12_L P0 (a := a) (b := b) (by omega) (by omega) FU 0 (by omega) (by show nH h - 0 < 100000; omega)
      refine ⟨nZ (cnt (mvB h a b) (nH h)), ?_, ?_⟩
      · unfold fX11_moved
        rw [bd_s (seating_t y2 y3 (by omega) (r3 a (by omega))), bd_s (seating_t y2 y3 (by omega) (r3 b (by omega))), mt_s rfl, mt_s rfl, bd_s (show fX11_moved_L31 FU (a + 1) (b + 1) 0 0 h = _ from e1)]
        rfl
      · rw [br_n (not_not_intro q1), br_n (not_not_intro q2), bd_s (show fX12_moved_L29 FU (nZ a) (nZ b) 0 0 (sI h 12 0 0 0) = _ from e2)]
        rfl
    · refine ⟨-2, ?_, ?_⟩
      · obtain ⟨a, rfl, ea, ha'⟩ := nZ_ex q1.1
        unfold fX11_moved
        rw [bd_s (seating_t y2 y3 (by omega) (r3 a (by omega))), bd_s (seating_f y2 y3 q2), mt_s rfl, mt_n rfl]
      · rw [br_n (not_not_intro q1), br_p q2]
  · refine ⟨-2, ?_, ?_⟩
    · unfold fX11_moved
      rw [bd_s (seating_f y2 y3 q1)]
      by_cases q2 : 0 ≤ a2.toInt ∧ a2.toInt < yr h
      · obtain ⟨b, rfl, eb, hb'⟩ := nZ_ex q2.1
        rw [bd_s (seating_t y2 y3 (by omega) (r3 b (by omega))), mt_n rfl]
      · rw [bd_s (seating_f y2 y3 q2), mt_n rfl]
    · rw [br_p q1]
