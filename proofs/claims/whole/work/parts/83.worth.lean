/-! ===== level 2: units and runs; what is heard, on both sides; what a run is worth ===== -/
def nB (h : Hp) : Nat := ix (gI h 1 0 7)
def un (h : Hp) (b : Nat) : Nat := ix (gI h 28 0 b)
theorem Rc.cm {h : Hp} (R : Rc h) (C : Cc h) : Cm h := by
  obtain ⟨r0, r1, r2, r3, r4, r5, r6, r7, r8, r9, r10, r11⟩ := R
  unfold Cm
  simp only [r0, r1, r2, r3, r4, r5, r6, r7, r8, r9, r10, r11]
  exact C
theorem RC.v {h : Hp} (R : RC h) : gI h 1 0 7 = nZ (nB h) ∧ gI h 12 0 7 = nZ (nB h) ∧ nB h ≤ 8 ∧ ∀ b, b < nB h → gI h 28 0 b = nZ (un h b) ∧ gI h 63 0 b = nZ (un h b) ∧ 4 ≤ un h b ∧ un h b ≤ 32 := by
  obtain ⟨R1, C, K⟩ := R
  have C5 := C.2.2.2.2.1
  have e : gI h 1 0 7 = nZ (nB h) := nZ_of C5.1
  have e2 : ((nB h : Nat) : Int) = (gI h 1 0 7).toInt := by unfold nB ix; omega
  refine ⟨e, by rw [R1.2.2.2.2.1]; exact e, by omega, fun b hb => ?_⟩
  have C7 := C.2.2.2.2.2.2 b (by omega)
  have e3 : gI h 28 0 b = nZ (un h b) := nZ_of (by omega)
  refine ⟨e3, by rw [R1.2.2.2.2.2.2.2.2.2.2.1]; exact e3, ?_, ?_⟩
  · unfold un ix; omega
  · unfold un ix; omega
theorem heb_eq {h : Hp} (R : RC h) {b u : Nat} (hb : b < nB h) (hu : u < un h b) : fX12_hearing (nZ b) (nZ u) h = some (gI h 30 0 (32 * b + u), h) ∧ fX12_inWay (nZ b) (nZ u) h = some (gI h 31 0 (32 * b + u), h) := by
  obtain ⟨v1, v2, v3, v4⟩ := R.v
  obtain ⟨w1, w2, w3, w4⟩ := v4 b hb
  obtain ⟨R1, C, K⟩ := R
  have Cm' := R1.cm C
  have tb : (nZ b).toInt = (b : Int) := nZ_t (by omega)
  have tu : (nZ u).toInt = (u : Int) := nZ_t (by omega)
  have xb : ix (nZ b) = b := nZ_ix (by omega)
  have q1 : 0 ≤ (nZ b).toInt ∧ (nZ b).toInt < (gI h 12 0 7).toInt := by rw [v2, tb, nZ_t (by omega)]; omega
  have q2 : 0 ≤ (nZ u).toInt ∧ (nZ u).toInt < (gI h 63 0 (ix (nZ b))).toInt := by rw [xb, w2, tu, nZ_t (by omega)]; omega
  have k := K b u (by rw [v1, nZ_t (by omega)]; omega) (by rw [w1, nZ_t (by omega)]; omega)
  obtain ⟨r0, r1, r2, r3, r4, r5, r6, r7, r8, r9, r10, r11⟩ := R1
  have ei : iwb h (nZ b) (nZ u) = iw1 h b (Int32.ofNat u) := by
    unfold iwb iw1
    have : F12 h = F1 h := by
      funext x y p
      unfold F12 F1
      rw [r0, r1, r5, r6, r7]
    rw [this, xb, r8, r9, r3]
    rfl
  have eh : heb h (nZ b) (nZ u) = he1 h b (Int32.ofNat u) := by
    unfold heb he1
    rw [ei, xb, r8, r9, r11, r0, r1, r2]
    rfl
  refine ⟨?_, ?_⟩
  · rw [hear12 Cm' q1 q2, eh, ← k.2]
  · rw [inWay12_t Cm' q1 q2, ei, ← k.1]
def se (h : Hp) (s : Nat) : Int32 := if gI h 31 0 s = 0 then 1 else 0
def wA (h : Hp) (s : Nat) : Nat → Int32
  | 0 => 0
  | n + 1 => wA h s n + (gI h 30 0 (s + n) + se h (s + n))
def wM (h : Hp) (s : Nat) : Nat → Int32
  | 0 => 0
  | n + 1 => mxI (wM h s n) (gI h 30 0 (s + n))
/-- what n spots from s on are worth -/
def wS (h : Hp) (s n : Nat) (d : Int32) : Int32 := wA h s n + d * wM h s n
theorem wS_sm {h h' : Hp} (e : Sm [30, 31] h h') (s n : Nat) (d : Int32) : wS h' s n d = wS h s n d := by
  have a : ∀ m, wA h' s m = wA h s m := fun m => by
    induction m with
    | zero => rfl
    | succ m ih =>
      rw [wA, wA, ih]
      unfold se
      simp (disch := decide) only [e.A]
  have b : ∀ m, wM h' s m = wM h s m := fun m => by
    induction m with
    | zero => rfl
    | succ m ih =>
      rw [wM, wM, ih]
      simp (disch := decide) only [e.A]
  unfold wS
  rw [a, b]
theorem wo_L {s w : Nat} (hs : s + w ≤ 256) (a3 : Int32) (h : Hp) : ∀ n j, j ≤ w → w - j < n → fX1_worthOf_L31 n (nZ s) (nZ w) a3 (wA h s j) (wM h s j) (nZ (s + j)) h = some ((wA h s w, wM h s w, nZ (s + w)), h) := by
  intro n
  induction n with
  | zero => intro j _ q; omega
  | succ n ih =>
    intro j hj hn
    rw [fX1_worthOf_L31]
    simp (disch := omega) only [nZ_suc, nZ_add, nZ_le, nZ_ix, nZ_ib, lb_e]
    by_cases q : j = w
    · subst q
      rw [br_p (by omega)]
    · rw [br_n (by omega), gd_p (by omega), gd_p (by omega)]
      have := ih (j + 1) (by omega) (by omega)
      rw [wA, wM] at this
      unfold se at this
      by_cases z : gI h 31 0 (s + j) = 0
      · rw [if_pos z] at this
        rw [br_p z, gd_p (by omega)]
        exact this
      · rw [if_neg z] at this
        rw [br_n z, gd_p (by omega)]
        exact this
def isU (h : Hp) (a1 a2 : Int32) : Prop := 0 ≤ a1.toInt ∧ a1.toInt < (gI h 1 0 7).toInt ∧ 0 ≤ a2.toInt ∧ a2.toInt < (gI h 28 0 (ix a1)).toInt
def isRn (h : Hp) (a1 a2 a3 : Int32) : Prop := 0 ≤ a1.toInt ∧ a1.toInt < (gI h 1 0 7).toInt ∧ 0 ≤ a2.toInt ∧ 1 ≤ a3.toInt ∧ a2.toInt + a3.toInt ≤ (gI h 28 0 (ix a1)).toInt
theorem isU_ex {h : Hp} (R : RC h) {a1 a2 : Int32} (q : isU h a1 a2) : ∃ b u, a1 = nZ b ∧ a2 = nZ u ∧ b < nB h ∧ u < un h b := by
  obtain ⟨q1, q2, q3, q4⟩ := q
  obtain ⟨v1, v2, v3, v4⟩ := R.v
  obtain ⟨b, rfl, eb, hb⟩ := nZ_ex q1
  obtain ⟨u, rfl, eu, hu⟩ := nZ_ex q3
  rw [v1, nZ_t (by omega : nB h < 2147483648)] at q2
  have hb2 : b < nB h := by omega
  rw [nZ_ix hb, (v4 b hb2).1, nZ_t (by have := v4 b hb2; omega : un h b < 2147483648)] at q4
  exact ⟨b, u, rfl, rfl, hb2, by omega⟩
theorem isRn_ex {h : Hp} (R : RC h) {a1 a2 a3 : Int32} (q : isRn h a1 a2 a3) : ∃ b u w, a1 = nZ b ∧ a2 = nZ u ∧ a3 = nZ w ∧ b < nB h ∧ 1 ≤ w ∧ u + w ≤ un h b := by
  obtain ⟨q1, q2, q3, q4, q5⟩ := q
  obtain ⟨v1, v2, v3, v4⟩ := R.v
  obtain ⟨b, rfl, eb, hb⟩ := nZ_ex q1
  obtain ⟨u, rfl, eu, hu⟩ := nZ_ex q3
  obtain ⟨w, rfl, ew, hw⟩ := nZ_ex (by omega : 0 ≤ a3.toInt)
  rw [v1, nZ_t (by omega : nB h < 2147483648)] at q2
  have hb2 : b < nB h := by omega
  rw [nZ_ix hb, (v4 b hb2).1, nZ_t (by have := v4 b hb2; omega : un h b < 2147483648)] at q5
  exact ⟨b, u, w, rfl, rfl, rfl, hb2, by omega, by omega⟩
theorem isU_n {h : Hp} (R : RC h) {b u : Nat} (hb : b < nB h) (hu : u < un h b) : isU h (nZ b) (nZ u) := by
  obtain ⟨v1, v2, v3, v4⟩ := R.v
  obtain ⟨w1, w2, w3, w4⟩ := v4 b hb
  unfold isU
  rw [nZ_ix (by omega), w1, v1, nZ_t (by omega), nZ_t (by omega), nZ_t (by omega), nZ_t (by omega)]
  omega
theorem isRn_n {h : Hp} (R : RC h) {b u w : Nat} (hb : b < nB h) (h1 : 1 ≤ w) (hu : u + w ≤ un h b) : isRn h (nZ b) (nZ u) (nZ w) := by
  obtain ⟨v1, v2, v3, v4⟩ := R.v
  obtain ⟨w1, w2, w3, w4⟩ := v4 b hb
  unfold isRn
  rw [nZ_ix (by omega), w1, v1, nZ_t (by omega), nZ_t (by omega), nZ_t (by omega), nZ_t (by omega), nZ_t (by omega)]
  omega
theorem unit1_t {h : Hp} (R : RC h) {a1 a2 : Int32} (q : isU h a1 a2) : fX1_hasUnit a1 a2 h = some (1, h) := by
  have C5 := R.2.1.2.2.2.2.1
  unfold isU at q
  unfold fX1_hasUnit br gd
  simp only [i32_lt, i32_le, z0]
  repeat' split
  all_goals first | rfl | (exfalso; omega)
theorem unit1_f {h : Hp} (R : RC h) {a1 a2 : Int32} (q : ¬ isU h a1 a2) : fX1_hasUnit a1 a2 h = some (0, h) := by
  have C5 := R.2.1.2.2.2.2.1
  unfold isU at q
  unfold fX1_hasUnit br gd
  simp only [i32_lt, i32_le, z0]
  repeat' split
  all_goals first | rfl | (exfalso; omega)
theorem unit12_t {h : Hp} (R : RC h) {a1 a2 : Int32} (q : isU h a1 a2) : fX12_isUnit a1 a2 h = some (1, h) := by
  obtain ⟨v1, v2, v3, v4⟩ := R.v
  obtain ⟨b, u, rfl, rfl, hb, hu⟩ := isU_ex R q
  obtain ⟨w1, w2, w3, w4⟩ := v4 b hb
  unfold fX12_isUnit fX12_isBench
  simp (disch := omega) only [in_0, to64, z0J, v2, nZ_ix, w2, nZ_pre, nZ_t, nZ_ib]
  rw [br_n (by omega), gd_p (by omega), br_n (by omega)]
theorem unit12_f {h : Hp} (R : RC h) {a1 a2 : Int32} (q : ¬ isU h a1 a2) : fX12_isUnit a1 a2 h = some (0, h) := by
  obtain ⟨v1, v2, v3, v4⟩ := R.v
  have t7 : (nZ (nB h) - 1).toInt = (nB h : Int) - 1 := by rw [sub32 (by rw [nZ_t (by omega), o1]; omega) (by rw [nZ_t (by omega), o1]; omega), nZ_t (by omega), o1]
  unfold fX12_isUnit fX12_isBench
  simp only [in_0, to64, z0J, v2, t7]
  by_cases q1 : 0 ≤ a1.toInt ∧ a1.toInt ≤ (nB h : Int) - 1
  · obtain ⟨b, rfl, eb, hb⟩ := nZ_ex q1.1
    obtain ⟨w1, w2, w3, w4⟩ := v4 b (by omega)
    simp (disch := omega) only [nZ_ix, w2, nZ_pre, nZ_t, nZ_ib]
    rw [br_n (by omega), gd_p (by omega), br_p]
    intro z
    refine q ?_
    unfold isU
    rw [nZ_ix hb, w1, v1, nZ_t hb, nZ_t (by omega), nZ_t (by omega)]
    omega
  · rw [br_p q1]
theorem run1_t {h : Hp} (R : RC h) {a1 a2 a3 : Int32} (q : isRn h a1 a2 a3) : fX1_hasRun a1 a2 a3 h = some (1, h) := by
  obtain ⟨v1, v2, v3, v4⟩ := R.v
  obtain ⟨b, u, w, rfl, rfl, rfl, hb, hw, hu⟩ := isRn_ex R q
  obtain ⟨w1, w2, w3, w4⟩ := v4 b hb
  unfold fX1_hasRun
  rw [bd_s (unit1_t R (isU_n R hb (by omega)))]
  simp (disch := omega) only [nZ_ix, w1, nZ_sub, nZ_lt1, nZ_ib, nZ_lt]
  rw [br_n (by decide), br_n (by omega), gd_p (by omega), br_n (by omega)]
theorem run1_f {h : Hp} (R : RC h) {a1 a2 a3 : Int32} (q : ¬ isRn h a1 a2 a3) : fX1_hasRun a1 a2 a3 h = some (0, h) := by
  obtain ⟨v1, v2, v3, v4⟩ := R.v
  unfold fX1_hasRun
  by_cases q1 : isU h a1 a2
  · rw [bd_s (unit1_t R q1), br_n (by decide)]
    obtain ⟨b, u, rfl, rfl, hb, hu⟩ := isU_ex R q1
    obtain ⟨w1, w2, w3, w4⟩ := v4 b hb
    by_cases q2 : a3 < 1
    · rw [br_p q2]
    · have q3 : 1 ≤ a3.toInt := by rw [i32_lt, o1] at q2; omega
      obtain ⟨w, rfl, ew, hw⟩ := nZ_ex (by omega : 0 ≤ a3.toInt)
      rw [br_n q2]
      simp (disch := omega) only [nZ_ix, w1, nZ_sub, nZ_ib, nZ_lt]
      rw [gd_p (by omega), br_p]
      by_cases z : u + w ≤ un h b
      · exact absurd (isRn_n R hb (by omega) z) q
      · omega
  · rw [bd_s (unit1_f R q1), br_p rfl]
theorem run12_t {h : Hp} (R : RC h) {a1 a2 a3 : Int32} (q : isRn h a1 a2 a3) : fX12_isRun a1 a2 a3 h = some (1, h) := by
  obtain ⟨v1, v2, v3, v4⟩ := R.v
  obtain ⟨b, u, w, rfl, rfl, rfl, hb, hw, hu⟩ := isRn_ex R q
  obtain ⟨w1, w2, w3, w4⟩ := v4 b hb
  have ea : ((nZ u).toInt64 + (nZ w).toInt64).toInt = (u : Int) + w := by rw [add64 (by rw [to64, to64, nZ_t (by omega), nZ_t (by omega)]; omega) (by rw [to64, to64, nZ_t (by omega), nZ_t (by omega)]; omega), to64, to64, nZ_t (by omega), nZ_t (by omega)]
  unfold fX12_isRun fX12_isBench
  simp (disch := omega) only [in_0, z0J, v2, nZ_ix, w2, i64_lt, ea, to64, nZ_pre, nZ_t, nZ_ib, nZ_neg, nZ_lt1]
  rw [br_n (by omega), br_n id, br_n (by omega), gd_p (by omega), br_n (by omega)]
theorem run12_f {h : Hp} (R : RC h) {a1 a2 a3 : Int32} (q : ¬ isRn h a1 a2 a3) : fX12_isRun a1 a2 a3 h = some (0, h) := by
  obtain ⟨v1, v2, v3, v4⟩ := R.v
  have t7 : (nZ (nB h) - 1).toInt = (nB h : Int) - 1 := by rw [sub32 (by rw [nZ_t (by omega), o1]; omega) (by rw [nZ_t (by omega), o1]; omega), nZ_t (by omega), o1]
  have b2 := i32_b a2
  have b3 := i32_b a3
  have ea : (a2.toInt64 + a3.toInt64).toInt = a2.toInt + a3.toInt := by rw [add64 (by rw [to64, to64]; omega) (by rw [to64, to64]; omega), to64, to64]
  unfold fX12_isRun fX12_isBench
  simp only [in_0, to64, z0J, v2, t7, i64_lt, ea, i32_lt, z0, o1]
  by_cases q1 : 0 ≤ a1.toInt ∧ a1.toInt ≤ (nB h : Int) - 1
  · obtain ⟨b, rfl, eb, hb⟩ := nZ_ex q1.1
    obtain ⟨w1, w2, w3, w4⟩ := v4 b (by omega)
    simp (disch := omega) only [w2, nZ_t, nZ_ix, nZ_ib]
    rw [br_n (by omega)]
    unfold isRn at q
    rw [nZ_ix hb, w1, v1, nZ_t hb, nZ_t (by omega), nZ_t (by omega)] at q
    unfold br gd
    repeat' split
    all_goals first | rfl | (exfalso; omega)
  · rw [br_p q1]
theorem worth1 {h : Hp} (R : RC h) {b u w : Nat} (hb : b < nB h) (h1 : 1 ≤ w) (hu : u + w ≤ un h b) (d : Int32) : fX1_worthOf (nZ (32 * b + u)) (nZ w) d h = some (wS h (32 * b + u) w d, h) := by
  obtain ⟨v1, v2, v3, v4⟩ := R.v
  obtain ⟨w1, w2, w3, w4⟩ := v4 b hb
  have ed : (32 * b + u) / 32 = b := by omega
  have em : (32 * b + u) % 32 = u := by omega
  unfold fX1_worthOf
  have hdiv : nZ (32 * b + u) / 32 = nZ b := by rw [nZ_d32 (by omega), ed]
  have hmod : nZ (32 * b + u) - nZ (32 * b + u) / 32 * 32 = nZ u := by
    have := mod32 (32 * b + u) (by omega)
    rw [em, ed] at this
    rw [hdiv]
    exact this
  rw [br_n (by rw [nZ_neg (by omega)]; exact id), hmod, hdiv, bd_s (run1_t R (isRn_n R hb h1 hu)), br_n (by decide)]
  have : fX1_worthOf_L31 FU (nZ (32 * b + u)) (nZ w) d 0 0 (nZ (32 * b + u)) h = _ := wo_L (s := 32 * b + u) (w := w) (by omega) d h FU 0 (by omega) (by show _ < 100000; omega)
  rw [bd_s this]
  rfl
/-- the model's tables hold what is heard and seen -/
def LT (h : Hp) : Prop := ∀ b u : Nat, b < nB h → u < un h b → gI h 93 0 (32 * b + u) = gI h 30 0 (32 * b + u) ∧ gI h 94 0 (32 * b + u) = se h (32 * b + u)
theorem wo_M {h : Hp} (R : RC h) (T : LT h) {b u w : Nat} (hb : b < nB h) (hu : u + w ≤ un h b) (d : Int32) : ∀ n j, j ≤ w → w - j < n → fX12_worthOf_L9 n (nZ b) (nZ u) (nZ w) d (wA h (32 * b + u) j) (wM h (32 * b + u) j) (nZ (u + j)) h = some ((wA h (32 * b + u) w, wM h (32 * b + u) w, nZ (u + w)), h) := by
  obtain ⟨v1, v2, v3, v4⟩ := R.v
  obtain ⟨w1, w2, w3, w4⟩ := v4 b hb
  intro n
  induction n with
  | zero => intro j _ q; omega
  | succ n ih =>
    intro j hj hn
    rw [fX12_worthOf_L9]
    simp (disch := omega) only [nZ_suc, nZ_x32, nZ_add, nZ_le, nZ_ix, nZ_ib, lb_e]
    by_cases q : j = w
    · subst q
      rw [br_p (by omega)]
    · have t := T b (u + j) hb (by omega)
      rw [br_n (by omega), gd_p (by omega), gd_p (by omega), t.1, t.2]
      have := ih (j + 1) (by omega) (by omega)
      rw [wA, wM] at this
      rw [show 32 * b + u + j = 32 * b + (u + j) by omega] at this
      unfold se at this ⊢
      by_cases z : gI h 31 0 (32 * b + (u + j)) = 0
      · rw [if_pos z] at this
        rw [if_pos z, br_n (by decide)]
        exact this
      · rw [if_neg z] at this
        rw [if_neg z, br_p rfl]
        exact this
theorem worth12 {h : Hp} (R : RC h) (T : LT h) {b u w : Nat} (hb : b < nB h) (hu : u + w ≤ un h b) (d : Int32) : fX12_worthOf (nZ b) (nZ u) (nZ w) d h = some (wS h (32 * b + u) w d, h) := by
  obtain ⟨v1, v2, v3, v4⟩ := R.v
  obtain ⟨w1, w2, w3, w4⟩ := v4 b hb
  unfold fX12_worthOf
  have : fX12_worthOf_L9 FU (nZ b) (nZ u) (nZ w) d 0 0 (nZ u) h = _ := wo_M R T hb hu d FU 0 (by omega) (by show _ < 100000; omega)
  rw [bd_s this]
  rfl
