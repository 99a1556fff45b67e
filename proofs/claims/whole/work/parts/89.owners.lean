/-! ===== level 2: whose a unit is ===== -/
def toY (m : Hp) (r k : Nat) : Int32 := if gI m 79 0 r = -1 ∨ (k : Int) < (gI m 79 0 r).toInt then gI m 78 0 r else gI m 77 0 r
def act (m : Hp) (r y k : Nat) : Bool := decide ((gI m 80 0 r).toInt ≤ k ∧ (gI m 76 0 r).toInt ≤ y ∧ (y : Int) ≤ (toY m r k).toInt)
def hol (m : Hp) (r y : Nat) : Int32 := if gI m 70 0 r = 1 then gI m 69 0 (200 * ix (gI m 71 0 r) + y) else gI m 71 0 r
def wh (m : Hp) (r y k : Nat) : Int32 := if act m r y k = true then hol m r y else -1
def onU (m : Hp) (r b u : Nat) : Bool := decide (gI m 72 0 r = nZ b ∧ (gI m 73 0 r).toInt ≤ u ∧ (u : Int) < (gI m 73 0 r).toInt + (gI m 74 0 r).toInt)
def btr (m : Hp) (r q : Nat) : Bool := decide ((gI m 70 0 r ≠ gI m 70 0 q ∧ gI m 70 0 r < gI m 70 0 q) ∨ (gI m 70 0 r = gI m 70 0 q ∧ gI m 75 0 r < gI m 75 0 q))
/-- the best of the first n, by P and bt -/
def bR (P : Nat → Bool) (bt : Nat → Nat → Bool) : Nat → Option Nat
  | 0 => none
  | n + 1 => match bR P bt n with
    | none => if P n = true then some n else none
    | some q => if P n = true ∧ bt n q = true then some n else some q
def enc (o : Option Nat) : Int32 := match o with
  | none => m1
  | some r => nZ r
theorem bR_P {P : Nat → Bool} {bt : Nat → Nat → Bool} : ∀ {n r : Nat}, bR P bt n = some r → P r = true ∧ r < n := by
  intro n
  induction n with
  | zero => intro r h; cases h
  | succ n ih =>
    intro r h
    rw [bR] at h
    cases e : bR P bt n with
    | none =>
      rw [e] at h
      by_cases z : P n = true
      · simp only [z, if_true] at h
        cases h
        exact ⟨z, by omega⟩
      · simp only [z] at h
        cases h
    | some q =>
      rw [e] at h
      by_cases z : P n = true ∧ bt n q = true
      · simp only [z, and_self, if_true] at h
        cases h
        exact ⟨z.1, by omega⟩
      · simp only [if_neg z] at h
        cases h
        have := ih e
        exact ⟨this.1, by omega⟩
theorem bR_ext {P P' : Nat → Bool} {bt : Nat → Nat → Bool} : ∀ {n : Nat}, (∀ r, r < n → P r = P' r) → bR P bt n = bR P' bt n := by
  intro n
  induction n with
  | zero => intro _; rfl
  | succ n ih =>
    intro h
    rw [bR, bR, ih fun r hr => h r (by omega), h n (by omega)]
theorem bR_n {P : Nat → Bool} {bt : Nat → Nat → Bool} {n : Nat} (e : P n = false) : bR P bt (n + 1) = bR P bt n := by
  rw [bR]
  cases bR P bt n with
  | none => simp [e]
  | some q => simp [e]
theorem bR_f {P : Nat → Bool} {bt : Nat → Nat → Bool} {n : Nat} (e : P n = true) (h : bR P bt n = none) : bR P bt (n + 1) = some n := by
  rw [bR, h]
  simp [e]
theorem bR_b {P : Nat → Bool} {bt : Nat → Nat → Bool} {n q : Nat} (e : P n = true) (h : bR P bt n = some q) : bR P bt (n + 1) = if bt n q = true then some n else some q := by
  rw [bR, h]
  simp [e]
theorem whose_t {H : Nat} {yy : Int} {B : Nat} {u : Nat → Nat} {c m : Hp} (T : RR H yy B u c m) {r y k : Nat} (hr : r < nR m) (hy : y ≤ 199) (hk : k ≤ 199) : fX12_whose (nZ r) (nZ y) (nZ k) m = some (wh m r y k, m) := by
  obtain ⟨r1, r2, r3, r4, r5⟩ := T
  obtain ⟨b1, b2, b3, b4, b5, b6, b7, b8, b9, b10, b11, b12, b13, b14, b15, b16, b17, b18, b19, b20⟩ := r5 r hr
  have hib : ib (nZ r) 100 := by rw [nZ_ib (by omega)]; omega
  unfold fX12_whose
  simp only [lb_e, gd_p hib, nZ_ix (by omega : r < 2147483648), in_0, to64]
  have fin : ∀ x : Int32, x = toY m r k → (br (nZ k < gI m 80 0 r) (some ((-1 : Int32), m)) (br (¬ ((gI m 76 0 r).toInt ≤ (nZ y).toInt ∧ (nZ y).toInt ≤ x.toInt)) (some (-1, m)) (br (gI m 70 0 r = 1) (gd (ib ((200 : Int32) * gI m 71 0 r + nZ y) 1600) (some (gI m 69 0 (ix ((200 : Int32) * gI m 71 0 r + nZ y)), m))) (some (gI m 71 0 r, m))))) = some (wh m r y k, m) := by
    intro x hx
    subst hx
    simp only [i32_lt, nZ_t (by omega : k < 2147483648), nZ_t (by omega : y < 2147483648)]
    unfold wh
    by_cases q : act m r y k = true
    · rw [if_pos q]
      have q' := of_decide_eq_true q
      rw [br_n (by omega), br_n (by omega)]
      unfold hol
      by_cases z : gI m 70 0 r = 1
      · obtain ⟨p, e, e2, e3⟩ := nZ_ex (b17 z).1
        have := (b17 z).2
        rw [if_pos z, br_p z]
        rw [e] at this ⊢
        rw [nZ_t e3] at this
        simp (disch := omega) only [nZ_x200, nZ_add, nZ_ib, nZ_ix]
        rw [gd_p (by omega)]
      · rw [if_neg z, br_n z]
    · rw [if_neg q]
      have q' : ¬ ((gI m 80 0 r).toInt ≤ k ∧ (gI m 76 0 r).toInt ≤ y ∧ (y : Int) ≤ (toY m r k).toInt) := fun z => q (decide_eq_true z)
      rw [br_or, br_p (by omega)]
  by_cases z : gI m 79 0 r = -1
  · rw [br_p z]
    exact fin _ (by unfold toY; rw [if_pos (Or.inl z)])
  · rw [br_n z]
    by_cases z2 : nZ k < gI m 79 0 r
    · rw [br_p z2]
      rw [i32_lt, nZ_t (by omega)] at z2
      exact fin _ (by unfold toY; rw [if_pos (Or.inr z2)])
    · rw [br_n z2]
      rw [i32_lt, nZ_t (by omega)] at z2
      exact fin _ (by unfold toY; rw [if_neg (by rintro (w | w); exact z w; exact z2 w)])
theorem n200 : (200 : Int32).toInt = 200 := by decide
theorem isFor5 {H : Nat} {yy : Int} {B : Nat} {u : Nat → Nat} {c m : Hp} (T : RR H yy B u c m) {r y k : Nat} (hr : r < nR m) (hy : y ≤ 199) (hk : k ≤ 199) : (fX5_isFor r (nZ y) (nZ k) c = 0) ↔ act m r y k = false := by
  obtain ⟨r1, r2, r3, r4, r5⟩ := T
  obtain ⟨b1, b2, b3, b4, b5, b6, b7, b8, b9, b10, b11, b12, b13, b14, b15, b16, b17, b18, b19, b20⟩ := r5 r hr
  have fin : ∀ x : Int32, x = toY m r k → ((br (nZ k < gI c 5 r 8) (0 : Int32) (br (nZ y < gI c 5 r 6) 0 (br (x < nZ y) 0 1)) = 0) ↔ act m r y k = false) := by
    intro x hx
    rw [br_or, br_or, br01, hx, b10, b8, i32_lt, i32_lt, i32_lt, nZ_t (by omega : k < 2147483648), nZ_t (by omega : y < 2147483648)]
    unfold act
    rw [decide_eq_false_iff_not]
    omega
  unfold fX5_isFor
  rw [lb_e]
  rcases b14 with z | z
  · rw [z.1, br_p (by rw [i32_lt, n200, nZ_t (by omega)]; omega)]
    exact fin _ (by unfold toY; rw [if_pos (Or.inl z.2.1)]; exact b13)
  · rw [z.1]
    by_cases z2 : nZ k < gI m 79 0 r
    · rw [br_p z2]
      rw [i32_lt, nZ_t (by omega)] at z2
      exact fin _ (by unfold toY; rw [if_pos (Or.inr z2)]; exact b13)
    · rw [br_n z2]
      rw [i32_lt, nZ_t (by omega)] at z2
      exact fin _ (by unfold toY; rw [if_neg (by rintro (w | w); exact z.2.1 w; exact z2 w)]; exact b9)
theorem holder_t {H : Nat} {yy : Int} {B : Nat} {u : Nat → Nat} {c m : Hp} (T : RR H yy B u c m) (L : RPl H c m) {r y : Nat} (hr : r < nR m) (hy : y ≤ 199) : fX3_holderOf (nZ r) (nZ y) c = some (hol m r y, c) := by
  have T' := T
  obtain ⟨r1, r2, r3, r4, r5⟩ := T'
  obtain ⟨b1, b2, b3, b4, b5, b6, b7, b8, b9, b10, b11, b12, b13, b14, b15, b16, b17, b18, b19, b20⟩ := r5 r hr
  unfold fX3_holderOf
  rw [bd_s (find3_t T hr), mt_s rfl, b2, b3]
  unfold hol
  by_cases z : gI m 70 0 r = 1
  · obtain ⟨p, e, e2, e3⟩ := nZ_ex (b17 z).1
    have := (b17 z).2
    rw [if_pos z, br_p z]
    rw [e] at this ⊢
    rw [nZ_t e3] at this
    rw [bd_s (plotOwner_t (by omega) hy), nZ_ix e3, (L (200 * p + y) (by omega)).1]
  · rw [if_neg z, br_n z]
theorem holder_n {H : Nat} {yy : Int} {B : Nat} {u : Nat → Nat} {c m : Hp} (T : RR H yy B u c m) (a : Int32) : fX3_holderOf m1 a c = some (-1, c) := by
  unfold fX3_holderOf
  rw [bd_s (find3_f T (by rw [m1_t]; omega)), mt_n rfl]
theorem hol_b {H : Nat} {yy : Int} {B : Nat} {u : Nat → Nat} {c m : Hp} (T : RR H yy B u c m) (L : RPl H c m) {r y : Nat} (hr : r < nR m) (hy : y ≤ 199) (hn : hol m r y ≠ -1) : 0 ≤ (hol m r y).toInt ∧ (hol m r y).toInt < H := by
  obtain ⟨r1, r2, r3, r4, r5⟩ := T
  obtain ⟨b1, b2, b3, b4, b5, b6, b7, b8, b9, b10, b11, b12, b13, b14, b15, b16, b17, b18, b19, b20⟩ := r5 r hr
  unfold hol at hn ⊢
  by_cases z : gI m 70 0 r = 1
  · obtain ⟨p, e, e2, e3⟩ := nZ_ex (b17 z).1
    have := (b17 z).2
    rw [if_pos z, e, nZ_ix e3] at hn ⊢
    rw [e, nZ_t e3] at this
    have l := L (200 * p + y) (by omega)
    rw [ne_eq, i32_eq, n1] at hn
    omega
  · rw [if_neg z]
    exact b18 z
theorem on5 {H : Nat} {yy : Int} {B : Nat} {u : Nat → Nat} {c m : Hp} (T : RR H yy B u c m) (hB : B ≤ 8) (hu : ∀ b, b < B → u b ≤ 32) {r b v : Nat} (hr : r < nR m) (hb : b < 8) (hv : v < 32) : (fX5_isOn r (nZ b) (nZ v) c = 0) ↔ onU m r b v = false := by
  obtain ⟨r1, r2, r3, r4, r5⟩ := T
  obtain ⟨b1, b2, b3, b4, b5, b6, b7, b8, b9, b10, b11, b12, b13, b14, b15, b16, b17, b18, ⟨b', f', n', e1, e2, e3, e4, e5, e6⟩, b20⟩ := r5 r hr
  have := hu b' e4
  unfold fX5_isOn onU
  rw [b4, b5, b6, e1, e2, e3, decide_eq_false_iff_not]
  simp (disch := omega) only [nZ_add, nZ_lt, nZ_le, nZ_eq, nZ_t]
  by_cases z : b' = b
  · rw [br_p z, br_or, br01]
    omega
  · rw [br_n z]
    exact iff_of_true rfl fun w => z w.1
theorem on12 {H : Nat} {yy : Int} {B : Nat} {u : Nat → Nat} {c m : Hp} (T : RR H yy B u c m) (hB : B ≤ 8) (hu : ∀ b, b < B → u b ≤ 32) {r b v : Nat} (hr : r < nR m) (hb : b < 8) (hv : v < 32) : fX12_isFor (nZ r) (nZ b) (nZ v) m = some (if onU m r b v = true then 1 else 0, m) := by
  obtain ⟨r1, r2, r3, r4, r5⟩ := T
  obtain ⟨b1, b2, b3, b4, b5, b6, b7, b8, b9, b10, b11, b12, b13, b14, b15, b16, b17, b18, ⟨b', f', n', e1, e2, e3, e4, e5, e6⟩, b20⟩ := r5 r hr
  have := hu b' e4
  have hib : ib (nZ r) 100 := by rw [nZ_ib (by omega)]; omega
  unfold fX12_isFor onU
  simp only [gd_p hib, nZ_ix (by omega : r < 2147483648), in_0, to64, e1, e2, e3, decide_eq_true_iff]
  simp (disch := omega) only [nZ_add, nZ_pre, nZ_eq, nZ_t]
  by_cases z : b' = b
  · rw [br_p z]
    unfold br
    repeat' split
    all_goals first | rfl | (exfalso; omega)
  · rw [br_n z, if_neg fun w => z w.1]
theorem better5 {H : Nat} {yy : Int} {B : Nat} {u : Nat → Nat} {c m : Hp} (T : RR H yy B u c m) {r q : Nat} (hr : r < nR m) (hq : q < nR m) : fX5_isBetterThan r q c = (if btr m r q = true then 1 else 0) := by
  obtain ⟨r1, r2, r3, r4, r5⟩ := T
  obtain ⟨-, b2, -, -, -, -, b7, -⟩ := r5 r hr
  obtain ⟨-, d2, -, -, -, -, d7, -⟩ := r5 q hq
  unfold fX5_isBetterThan btr
  rw [b2, d2, b7, d7]
  simp only [decide_eq_true_iff, ne_eq, i32_eq, i32_le, i32_lt]
  unfold br
  repeat' split
  all_goals first | rfl | (exfalso; omega)
theorem better12 {m : Hp} {r q : Nat} (hr : r < nR m) (hq : q < r) (h3 : nR m ≤ 100) : fX12_isBetter (nZ r) (nZ q) m = some (if btr m r q = true then 1 else 0, m) := by
  have hib : ib (nZ r) 100 := by rw [nZ_ib (by omega)]; omega
  have hiq : ib (nZ q) 100 := by rw [nZ_ib (by omega)]; omega
  unfold fX12_isBetter btr
  simp only [gd_p hib, gd_p hiq, nZ_ix (by omega : r < 2147483648), nZ_ix (by omega : q < 2147483648), decide_eq_true_iff, ne_eq, i32_eq, i32_le, i32_lt, nZ_t (by omega : r < 2147483648), nZ_t (by omega : q < 2147483648)]
  unfold br
  repeat' split
  all_goals first | rfl | (exfalso; omega)
/-- the rights that count for a unit in a year by what is known, and that A lets through -/
def PR (m : Hp) (b v y k : Nat) (A : Nat → Bool) (r : Nat) : Bool := onU m r b v && act m r y k && !decide (hol m r y = -1) && A r
theorem PR_0 {m : Hp} {b v y k : Nat} {A : Nat → Bool} {r : Nat} (h : onU m r b v = false ∨ act m r y k = false ∨ hol m r y = -1 ∨ A r = false) : PR m b v y k A r = false := by
  unfold PR
  rcases h with h | h | h | h <;> simp [h]
theorem PR_1 {m : Hp} {b v y k : Nat} {A : Nat → Bool} {r : Nat} (h1 : onU m r b v = true) (h2 : act m r y k = true) (h3 : hol m r y ≠ -1) (h4 : A r = true) : PR m b v y k A r = true := by
  unfold PR
  simp [h1, h2, h3, h4]
theorem bfor_L {H : Nat} {yy : Int} {B : Nat} {u : Nat → Nat} {c m : Hp} (T : RR H yy B u c m) (L : RPl H c m) (hB : B ≤ 8) (hu : ∀ b, b < B → u b ≤ 32) {b v y k : Nat} (hb : b < 8) (hv : v < 32) (hy : y ≤ 199) (hk : k ≤ 199) (a5 : Int32) (A : Nat → Bool) (hA : ∀ r, r < nR m → hol m r y ≠ -1 → ((((a5 >>> (hol m r y &&& 31)) &&& 1) = 0) ↔ A r = false)) : ∀ n j, j ≤ nR m → nR m - j < n → ∃ w, fX3_bestFor_L6 n (nZ b) (nZ v) (nZ y) (nZ k) a5 (enc (bR (PR m b v y k A) (btr m) j)) (nZ j) c = some ((enc (bR (PR m b v y k A) (btr m) (nR m)), w), c) := by
  have T' := T
  obtain ⟨r1, r2, r3, r4, r5⟩ := T'
  intro n
  induction n with
  | zero => intro j _ q; omega
  | succ n ih =>
    intro j hj hn
    rw [fX3_bestFor_L6, r2]
    simp (disch := omega) only [lb_e, nZ_le, nZ_suc, nZ_ib, nZ_ix]
    by_cases q : j = nR m
    · subst q
      rw [br_p (by omega)]
      exact ⟨_, rfl⟩
    · have hj' : j < nR m := by omega
      rw [br_n (by omega), bd_s (find3_t T hj'), mt_s rfl]
      have skip : PR m b v y k A j = false → ∃ w, fX3_bestFor_L6 n (nZ b) (nZ v) (nZ y) (nZ k) a5 (enc (bR (PR m b v y k A) (btr m) j)) (nZ (j + 1)) c = some ((enc (bR (PR m b v y k A) (btr m) (nR m)), w), c) := fun e => by
        have := ih (j + 1) (by omega) (by omega)
        rw [bR_n e] at this
        exact this
      by_cases q1 : onU m j b v = false
      · rw [br_p ((on5 T hB hu hj' hb hv).mpr q1)]
        exact skip (PR_0 (Or.inl q1))
      · rw [br_n (fun z => q1 ((on5 T hB hu hj' hb hv).mp z))]
        by_cases q2 : act m j y k = false
        · rw [br_p ((isFor5 T hj' hy hk).mpr q2)]
          exact skip (PR_0 (Or.inr (Or.inl q2)))
        · rw [br_n (fun z => q2 ((isFor5 T hj' hy hk).mp z)), bd_s (holder_t T L hj' hy)]
          by_cases q3 : hol m j y = -1
          · rw [br_p q3]
            exact skip (PR_0 (Or.inr (Or.inr (Or.inl q3))))
          · rw [br_n q3]
            by_cases q4 : A j = false
            · rw [br_p ((hA j hj' q3).mpr q4)]
              exact skip (PR_0 (Or.inr (Or.inr (Or.inr q4))))
            · rw [br_n (fun z => q4 ((hA j hj' q3).mp z))]
              have eP : PR m b v y k A j = true := PR_1 (by simpa using q1) (by simpa using q2) q3 (by simpa using q4)
              have nxt := ih (j + 1) (by omega) (by omega)
              cases e : bR (PR m b v y k A) (btr m) j with
              | none =>
                rw [bR_f eP e] at nxt
                rw [bd_s (show fX3_find (enc none) c = some (none, c) from find3_f T (by rw [show enc none = m1 from rfl, m1_t]; omega)), mt_n rfl]
                exact nxt
              | some q =>
                have hq := (bR_P e).2
                rw [bR_b eP e] at nxt
                rw [bd_s (show fX3_find (enc (some q)) c = some (some q, c) from find3_t T (by omega)), mt_s rfl, better5 T hj' (by omega)]
                by_cases z : btr m j q = true
                · rw [if_pos z] at nxt ⊢
                  rw [br_n (by decide)]
                  exact nxt
                · rw [if_neg z] at nxt ⊢
                  rw [br_p rfl]
                  exact nxt
theorem bfor_t {H : Nat} {yy : Int} {B : Nat} {u : Nat → Nat} {c m : Hp} (T : RR H yy B u c m) (L : RPl H c m) (hB : B ≤ 8) (hu : ∀ b, b < B → u b ≤ 32) {b v y k : Nat} (hb : b < 8) (hv : v < 32) (hy : y ≤ 199) (hk : k ≤ 199) (a5 : Int32) (A : Nat → Bool) (hA : ∀ r, r < nR m → hol m r y ≠ -1 → ((((a5 >>> (hol m r y &&& 31)) &&& 1) = 0) ↔ A r = false)) : fX3_bestFor (nZ b) (nZ v) (nZ y) (nZ k) a5 c = some (enc (bR (PR m b v y k A) (btr m) (nR m)), c) := by
  have r3 := T.2.2.1
  obtain ⟨w, e⟩ := bfor_L T L hB hu hb hv hy hk a5 A hA FU 0 (by omega) (by show _ < 100000; omega)
  unfold fX3_bestFor
  rw [bd_s (show fX3_bestFor_L6 FU (nZ b) (nZ v) (nZ y) (nZ k) a5 (-1) 0 c = _ from e)]
  rfl
theorem brig_L {H : Nat} {yy : Int} {B : Nat} {u : Nat → Nat} {c m : Hp} (T : RR H yy B u c m) (hB : B ≤ 8) (hu : ∀ b, b < B → u b ≤ 32) {b v y k : Nat} (hb : b < 8) (hv : v < 32) (hy : y ≤ 199) (hk : k ≤ 199) (a5 a6 : Int32) (A : Nat → Bool) (hA : ∀ r, r < nR m → hol m r y ≠ -1 → ((a5 = -1 ∨ hol m r y = a5 ∨ hol m r y = a6) ↔ A r = true)) : ∀ n j, j ≤ nR m → nR m - j < n → ∃ w, fX12_bestRight_L6 n (nZ b) (nZ v) (nZ y) (nZ k) a5 a6 (enc (bR (PR m b v y k A) (btr m) j)) (nZ j) m = some ((enc (bR (PR m b v y k A) (btr m) (nR m)), w), m) := by
  have T' := T
  obtain ⟨r1, r2, r3, r4, r5⟩ := T'
  intro n
  induction n with
  | zero => intro j _ q; omega
  | succ n ih =>
    intro j hj hn
    rw [fX12_bestRight_L6, r1]
    simp (disch := omega) only [lb_e, nZ_le, nZ_suc]
    by_cases q : j = nR m
    · subst q
      rw [br_p (by omega)]
      exact ⟨_, rfl⟩
    · have hj' : j < nR m := by omega
      rw [br_n (by omega), bd_s (on12 T hB hu hj' hb hv)]
      have skip : PR m b v y k A j = false → ∃ w, fX12_bestRight_L6 n (nZ b) (nZ v) (nZ y) (nZ k) a5 a6 (enc (bR (PR m b v y k A) (btr m) j)) (nZ (j + 1)) m = some ((enc (bR (PR m b v y k A) (btr m) (nR m)), w), m) := fun e => by
        have := ih (j + 1) (by omega) (by omega)
        rw [bR_n e] at this
        exact this
      by_cases q1 : onU m j b v = true
      · rw [if_pos q1, br_n (by decide), bd_s (whose_t T hj' hy hk)]
        unfold wh
        by_cases q2 : act m j y k = true
        · rw [if_pos q2]
          by_cases q3 : hol m j y = -1
          · rw [br_p q3]
            exact skip (PR_0 (Or.inr (Or.inr (Or.inl q3))))
          · rw [br_n q3]
            by_cases q4 : A j = true
            · have eP : PR m b v y k A j = true := PR_1 q1 q2 q3 q4
              have nxt := ih (j + 1) (by omega) (by omega)
              have fin : ∃ w, br (enc (bR (PR m b v y k A) (btr m) j) = -1) (fX12_bestRight_L6 n (nZ b) (nZ v) (nZ y) (nZ k) a5 a6 (nZ j) (nZ (j + 1)) m) (bd (fX12_isBetter (nZ j) (enc (bR (PR m b v y k A) (btr m) j)) m) (fun r9 h10 => br (r9 = 0) (fX12_bestRight_L6 n (nZ b) (nZ v) (nZ y) (nZ k) a5 a6 (enc (bR (PR m b v y k A) (btr m) j)) (nZ (j + 1)) h10) (fX12_bestRight_L6 n (nZ b) (nZ v) (nZ y) (nZ k) a5 a6 (nZ j) (nZ (j + 1)) h10))) = some ((enc (bR (PR m b v y k A) (btr m) (nR m)), w), m) := by
                cases e : bR (PR m b v y k A) (btr m) j with
                | none =>
                  rw [bR_f eP e] at nxt
                  rw [br_p (show enc none = -1 from rfl)]
                  exact nxt
                | some q =>
                  have hq := (bR_P e).2
                  rw [bR_b eP e] at nxt
                  show ∃ w, br (nZ q = m1) _ _ = _
                  rw [br_n (fun z => (nZ_m1 (by omega)).mp z)]
                  simp only [enc]
                  rw [bd_s (better12 hj' hq r3)]
                  by_cases z : btr m j q = true
                  · rw [if_pos z] at nxt ⊢
                    rw [br_n (by decide)]
                    exact nxt
                  · rw [if_neg z] at nxt ⊢
                    rw [br_p rfl]
                    exact nxt
              have := (hA j hj' q3).mpr q4
              by_cases z1 : a5 = -1
              · rw [br_p z1]
                exact fin
              · rw [br_n z1]
                by_cases z2 : hol m j y = a5
                · rw [br_p z2]
                  exact fin
                · rw [br_n z2]
                  by_cases z3 : hol m j y = a6
                  · rw [br_p z3]
                    exact fin
                  · rcases this with w | w | w
                    · exact absurd w z1
                    · exact absurd w z2
                    · exact absurd w z3
            · have nA := fun z => q4 ((hA j hj' q3).mp z)
              rw [br_n (fun z => nA (Or.inl z)), br_n (fun z => nA (Or.inr (Or.inl z))), br_n (fun z => nA (Or.inr (Or.inr z)))]
              exact skip (PR_0 (Or.inr (Or.inr (Or.inr (by simpa using q4)))))
        · rw [if_neg q2, br_p rfl]
          exact skip (PR_0 (Or.inr (Or.inl (by simpa using q2))))
      · rw [if_neg q1, br_p rfl]
        exact skip (PR_0 (Or.inl (by simpa using q1)))
theorem brig_t {H : Nat} {yy : Int} {B : Nat} {u : Nat → Nat} {c m : Hp} (T : RR H yy B u c m) (hB : B ≤ 8) (hu : ∀ b, b < B → u b ≤ 32) {b v y k : Nat} (hb : b < 8) (hv : v < 32) (hy : y ≤ 199) (hk : k ≤ 199) (a5 a6 : Int32) (A : Nat → Bool) (hA : ∀ r, r < nR m → hol m r y ≠ -1 → ((a5 = -1 ∨ hol m r y = a5 ∨ hol m r y = a6) ↔ A r = true)) : fX12_bestRight (nZ b) (nZ v) (nZ y) (nZ k) a5 a6 m = some (enc (bR (PR m b v y k A) (btr m) (nR m)), m) := by
  have r3 := T.2.2.1
  obtain ⟨w, e⟩ := brig_L T hB hu hb hv hy hk a5 a6 A hA FU 0 (by omega) (by show _ < 100000; omega)
  unfold fX12_bestRight
  rw [bd_s (show fX12_bestRight_L6 FU (nZ b) (nZ v) (nZ y) (nZ k) a5 a6 (-1) 0 m = _ from e)]
  rfl
/-- whose the unit is -/
def owS (m : Hp) (b v y k : Nat) : Int32 := match bR (PR m b v y k fun _ => true) (btr m) (nR m) with
  | none => -1
  | some r => hol m r y
theorem owner_t {H : Nat} {yy : Int} {B : Nat} {u : Nat → Nat} {c m : Hp} (T : RR H yy B u c m) (hB : B ≤ 8) (hu : ∀ b, b < B → u b ≤ 32) {b v y k : Nat} (hb : b < 8) (hv : v < 32) (hy : y ≤ 199) (hk : k ≤ 199) : fX12_ownerOf (nZ b) (nZ v) (nZ y) (nZ k) m = some (owS m b v y k, m) := by
  unfold fX12_ownerOf owS
  rw [bd_s (brig_t T hB hu hb hv hy hk (-1) (-1) (fun _ => true) fun r _ _ => iff_of_true (Or.inl rfl) rfl)]
  cases e : bR (PR m b v y k fun _ => true) (btr m) (nR m) with
  | none => rfl
  | some r =>
    obtain ⟨e1, e2⟩ := bR_P e
    have r3 := T.2.2.1
    show br (nZ r = m1) _ _ = _
    rw [br_n (fun z => (nZ_m1 (by omega)).mp z)]
    show bd (fX12_whose (nZ r) _ _ m) _ = _
    rw [bd_s (whose_t T e2 hy hk)]
    unfold wh
    unfold PR at e1
    simp only [Bool.and_eq_true] at e1
    rw [if_pos e1.1.1.2]
