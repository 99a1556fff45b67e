/-! ===== level 2: rows: row, tear, write, paste ===== -/
def Rr (h : Hp) : Prop := (∀ p, p < 4 → (gI h 39 0 p = -1 ∧ gI h 54 0 p = -1) ∨ (gI h 39 0 p = gI h 55 0 p ∧ gI h 40 0 p = gI h 54 0 p ∧ 0 ≤ (gI h 39 0 p).toInt ∧ (gI h 39 0 p).toInt ≤ 60 ∧ 0 ≤ (gI h 54 0 p).toInt)) ∧ ∀ j, j < 240 → gJ h 38 0 j = gJ h 56 0 j
def w_rows (k i : Nat) : Bool := k == 38 || k == 39 || k == 40 || k == 54 || k == 55 || k == 56 || k == 57 || (k == 12 && i == 0)
theorem n1 : (-1 : Int32).toInt = -1 := by decide
theorem z0 : (0 : Int32).toInt = 0 := by decide
theorem n3 : (3 : Int32).toInt = 3 := by decide
theorem n4 : (4 : Int32).toInt = 4 := by decide
theorem n60 : (60 : Int32).toInt = 60 := by decide
theorem o1 : (1 : Int32).toInt = 1 := by decide
theorem z0J : (0 : Int64).toInt = 0 := by decide
theorem n3J : (3 : Int64).toInt = 3 := by decide
theorem place7 (a : Int32) (h : Hp) : (fX7_isPlace a h = 0) ↔ ¬ (0 ≤ a.toInt ∧ a.toInt ≤ 3) := by
  unfold fX7_isPlace br
  by_cases q1 : a < 0
  · rw [if_pos q1]
    have := i32_lt.mp q1
    rw [z0] at this
    exact iff_of_true rfl fun z => by omega
  · rw [if_neg q1]
    have h1 : ¬ a.toInt < 0 := fun z => q1 (i32_lt.mpr (by rw [z0]; exact z))
    by_cases q2 : 4 ≤ a
    · rw [if_pos q2]
      have := i32_le.mp q2
      rw [n4] at this
      exact iff_of_true rfl fun z => by omega
    · rw [if_neg q2]
      have h2 : ¬ 4 ≤ a.toInt := fun z => q2 (i32_le.mpr (by rw [n4]; exact z))
      exact iff_of_false (by decide) fun z => z ⟨by omega, by omega⟩
theorem place12 (a : Int32) (h : Hp) : (fX12_isPlace a h = 0) ↔ ¬ (0 ≤ a.toInt ∧ a.toInt ≤ 3) := by
  unfold fX12_isPlace
  rw [in_0, to64, z0J, n3J]
theorem ib4 {a : Int32} (q : 0 ≤ a.toInt ∧ a.toInt ≤ 3) : ib a 4 := ⟨q.1, by have := q.2; show a.toInt < ((4 : Nat) : Int); omega⟩
theorem ix4 {a : Int32} (q : 0 ≤ a.toInt ∧ a.toInt ≤ 3) : ix a < 4 := by unfold ix; omega
theorem at60 {a b : Int32} (ha : 0 ≤ a.toInt ∧ a.toInt ≤ 3) (hb : 0 ≤ b.toInt ∧ b.toInt ≤ 60) : (((60 : Int32) * a) + b).toInt = 60 * a.toInt + b.toInt ∧ (a * 60 + b).toInt = 60 * a.toInt + b.toInt := by
  have e1 : ((60 : Int32) * a).toInt = 60 * a.toInt := by rw [mul32 (by rw [n60]; omega) (by rw [n60]; omega), n60]
  have e2 : (a * (60 : Int32)).toInt = 60 * a.toInt := by rw [mul32 (by rw [n60]; omega) (by rw [n60]; omega), n60]; omega
  exact ⟨by rw [add32 (by rw [e1]; omega) (by rw [e1]; omega), e1], by rw [add32 (by rw [e2]; omega) (by rw [e2]; omega), e2]⟩
theorem filled7 {a : Int32} (q : 0 ≤ a.toInt ∧ a.toInt ≤ 3) (h : Hp) : fX7_isFilled a h = some (if gI h 39 0 (ix a) = -1 then 0 else 1, h) := by
  unfold fX7_isFilled
  rw [gd_p (ib4 q)]
  unfold br
  by_cases z : gI h 39 0 (ix a) = -1
  · rw [if_pos z, if_pos z]
  · rw [if_neg z, if_neg z]
/-- what the two sides say of a place: filled or not -/
theorem Rr.cs {h : Hp} (R : Rr h) {a : Int32} (q : 0 ≤ a.toInt ∧ a.toInt ≤ 3) : (gI h 39 0 (ix a) = -1 ∧ ¬ 0 ≤ gI h 54 0 (ix a)) ∨ (¬ gI h 39 0 (ix a) = -1 ∧ 0 ≤ gI h 54 0 (ix a) ∧ gI h 39 0 (ix a) = gI h 55 0 (ix a) ∧ gI h 40 0 (ix a) = gI h 54 0 (ix a) ∧ 0 ≤ (gI h 39 0 (ix a)).toInt ∧ (gI h 39 0 (ix a)).toInt ≤ 60) := by
  rcases R.1 (ix a) (ix4 q) with ⟨r1, r2⟩ | ⟨r1, r2, r3, r4, r5⟩
  · exact Or.inl ⟨r1, fun z => by rw [r2] at z; have := i32_le.mp z; rw [z0, n1] at this; omega⟩
  · refine Or.inr ⟨fun z => ?_, i32_le.mpr (by rw [z0]; exact r5), r1, r2, r3, r4⟩
    rw [z, n1] at r3
    omega
theorem Rr.thrown {h : Hp} (R : Rr h) (v : Int32) : Rr (sI h 12 0 0 v) := by
  unfold Rr at R ⊢
  simpa [gI_sI, gJ_sI] using R
theorem p7t {a : Int32} (q : 0 ≤ a.toInt ∧ a.toInt ≤ 3) (h : Hp) : (fX7_isPlace a h = 0) = False := eq_false fun z => (place7 a h).mp z q
theorem p7f {a : Int32} (q : ¬ (0 ≤ a.toInt ∧ a.toInt ≤ 3)) (h : Hp) : (fX7_isPlace a h = 0) = True := eq_true ((place7 a h).mpr q)
theorem p12t {a : Int32} (q : 0 ≤ a.toInt ∧ a.toInt ≤ 3) (h : Hp) : (fX12_isPlace a h = 0) = False := eq_false fun z => (place12 a h).mp z q
theorem p12f {a : Int32} (q : ¬ (0 ≤ a.toInt ∧ a.toInt ≤ 3)) (h : Hp) : (fX12_isPlace a h = 0) = True := eq_true ((place12 a h).mpr q)
theorem wt {a lo hi : Int32} (q : lo.toInt ≤ a.toInt ∧ a.toInt ≤ hi.toInt) (h : Hp) : (fX11_isWithin a lo hi h = 0) = False := eq_false fun z => (isWithin_0 a lo hi h).mp z q
theorem wf {a lo hi : Int32} (q : ¬ (lo.toInt ≤ a.toInt ∧ a.toInt ≤ hi.toInt)) (h : Hp) : (fX11_isWithin a lo hi h = 0) = True := eq_true ((isWithin_0 a lo hi h).mpr q)
theorem it {a lo hi : Int64} (q : lo.toInt ≤ a.toInt ∧ a.toInt ≤ hi.toInt) (h : Hp) : (fX12_in a lo hi h = 0) = False := eq_false fun z => (in_0 a lo hi h).mp z q
theorem if' {a lo hi : Int64} (q : ¬ (lo.toInt ≤ a.toInt ∧ a.toInt ≤ hi.toInt)) (h : Hp) : (fX12_in a lo hi h = 0) = True := eq_true ((in_0 a lo hi h).mpr q)
/-- both sides refuse: only the reference's own mark is written -/
theorem refuse {P : Hp → Prop} {w : Nat → Nat → Bool} {f g : Hp → Option (Int32 × Hp)} {r : Int32} {h : Hp} (hw : w 12 0 = true) (e1 : f h = some (r, h)) (e2 : g h = some (r, sI h 12 0 0 0)) (hP : P (sI h 12 0 0 0)) : ∃ (r : Int32) (h2 h3 : Hp), f h = some (r, h2) ∧ g h2 = some (r, h3) ∧ Eqx w h h2 ∧ Eqx w h h3 ∧ P h3 := ⟨r, h, _, e1, e2, Eqx.rf _ _, Eqx_I _ _ _ _ _ hw, hP⟩
theorem s_tear (a1 : Int32) (h : Hp) (R : Rr h) : ∃ (r : Int32) (h2 h3 : Hp), fX11_tear a1 h = some (r, h2) ∧ fX12_tear a1 h2 = some (r, h3) ∧ Eqx w_rows h h2 ∧ Eqx w_rows h h3 ∧ Rr h3 := by
  by_cases q : 0 ≤ a1.toInt ∧ a1.toInt ≤ 3
  · rcases R.cs q with ⟨r1, r2⟩ | ⟨r1, r2, r3⟩
    · refine refuse (f := fX11_tear a1) (g := fX12_tear a1) (r := 0) (by decide) ?_ ?_ (R.thrown 0)
      · unfold fX11_tear
        simp only [br, p7t q, if_false]
        rw [bd_s (filled7 q h), if_pos r1]
        rfl
      · unfold fX12_tear
        simp only [br, lb_e, p12t q, if_false, gd_p (ib4 q)]
        rw [if_neg (by simpa [gI_sI] using r2)]
    · refine ⟨1, sI h 39 0 (ix a1) (-1), sI (sI (sI h 39 0 (ix a1) (-1)) 12 0 0 0) 54 0 (ix a1) (-1), ?_, ?_, Eqx_I _ _ _ _ _ (by simp [w_rows]), ?_, ?_⟩
      · unfold fX11_tear fX7_clear
        simp only [br, lb_e, p7t q, if_false, gd_p (ib4 q)]
        rw [bd_s (filled7 q h), if_neg r1]
        rfl
      · unfold fX12_tear
        simp only [br, lb_e, p12t q, if_false, gd_p (ib4 q)]
        rw [if_pos (by simpa [gI_sI] using r2)]
      · exact ((Eqx_I _ _ _ _ _ (by simp [w_rows])).tr (Eqx_I _ _ _ _ _ (by simp [w_rows]))).tr (Eqx_I _ _ _ _ _ (by simp [w_rows]))
      · refine ⟨fun p hp => ?_, fun j hj => R.2 j hj⟩
        by_cases e : p = ix a1
        · subst e
          exact Or.inl ⟨by simp [gI_sI], by simp [gI_sI]⟩
        · have := R.1 p hp
          simpa [gI_sI, e] using this
  · refine refuse (f := fX11_tear a1) (g := fX12_tear a1) (r := 0) (by decide) ?_ ?_ (R.thrown 0)
    · unfold fX11_tear
      simp only [br, p7f q, if_true]
    · unfold fX12_tear
      simp only [br, lb_e, p12f q, if_true]
theorem row_L (a1 : Int32) (ha : 0 ≤ a1.toInt ∧ a1.toInt ≤ 3) : ∀ (n : Nat) (i : Int32) (h : Hp), 0 ≤ i.toInt → i.toInt ≤ 60 → (60 - i.toInt).toNat < n → ∃ v, fX12_row_L57 n a1 i h = some (v, flJ h 56 0 (60 * ix a1 + ix i) (60 * ix a1 + 60) 0) := by
  intro n
  induction n with
  | zero => intro i h _ _ q; omega
  | succ n ih =>
    intro i h q1 q2 q3
    rw [fX12_row_L57]
    by_cases q : 60 ≤ i
    · have := i32_le.mp q
      rw [n60] at this
      rw [br_p q, flJ_z _ _ _ _ _ _ (by unfold ix; omega)]
      exact ⟨_, rfl⟩
    · have hlt : i.toInt < 60 := Int.not_le.mp fun z => q (i32_le.mpr (by rw [n60]; exact z))
      have e1 := (at60 ha ⟨q1, q2⟩).1
      rw [br_n q, gd_p ⟨by rw [e1]; omega, by rw [e1]; show _ < ((240 : Nat) : Int); omega⟩, lb_e, lb_e]
      have e2 : (i + 1).toInt = i.toInt + 1 := i32_succ hlt (by decide)
      obtain ⟨v, hv⟩ := ih (i + 1) (sJ h 56 0 (ix ((60 : Int32) * a1 + i)) 0) (by omega) (by omega) (by omega)
      refine ⟨v, hv.trans ?_⟩
      have e3 : ix ((60 : Int32) * a1 + i) = 60 * ix a1 + ix i := by unfold ix; omega
      have e4 : 60 * ix a1 + ix (i + 1) = 60 * ix a1 + ix i + 1 := by unfold ix; omega
      rw [e3, e4, flJ_s _ _ _ _ _ _ (by unfold ix; omega)]
theorem s_row (a1 a2 a3 : Int32) (h : Hp) (R : Rr h) : ∃ (r : Int32) (h2 h3 : Hp), fX11_row a1 a2 a3 h = some (r, h2) ∧ fX12_row a1 a2 a3 h2 = some (r, h3) ∧ Eqx w_rows h h2 ∧ Eqx w_rows h h3 ∧ Rr h3 := by
  by_cases q : 0 ≤ a1.toInt ∧ a1.toInt ≤ 3
  · by_cases q2 : 0 ≤ a2.toInt ∧ a2.toInt ≤ 3
    · have w1 := fun h => wt (a := a2) (lo := 0) (hi := 3) (by rw [z0, n3]; exact q2) h
      have w2 := fun h => it (a := a2.toInt64) (lo := 0) (hi := 3) (by rw [z0J, n3J, to64]; exact q2) h
      by_cases q3 : a3 ≤ 60
      · by_cases q4 : 0 ≤ a3
        · have h3 := i32_le.mp q3
          have h4 := i32_le.mp q4
          rw [n60] at h3
          rw [z0] at h4
          have e0 : (a1 * 60).toInt = 60 * a1.toInt := by rw [mul32 (by rw [n60]; omega) (by rw [n60]; omega), n60]; omega
          have e1 : (a1 * 60 + 60).toInt = 60 * a1.toInt + 60 := by rw [add32 (by rw [e0, n60]; omega) (by rw [e0, n60]; omega), e0, n60]
          have hlay : fX7_lay a1 a2 a3 h = some ((), sI (sI (flJ h 38 0 (60 * ix a1) (60 * ix a1 + 60) 0) 39 0 (ix a1) a3) 40 0 (ix a1) a2) := by
            unfold fX7_lay
            rw [lb_e, gd_p ⟨by rw [e0]; omega, by rw [e0, e1]; omega, by rw [e1]; omega⟩, lb_e, gd_p (ib4 q), lb_e, gd_p (ib4 q), lb_e]
            rw [show ix (a1 * 60) = 60 * ix a1 by unfold ix; omega, show ix (a1 * 60 + 60) = 60 * ix a1 + 60 by unfold ix; omega]
          obtain ⟨v, hv⟩ := row_L a1 q FU 0 (sI (sI (sI (sI (sI (flJ h 38 0 (60 * ix a1) (60 * ix a1 + 60) 0) 39 0 (ix a1) a3) 40 0 (ix a1) a2) 12 0 0 0) 54 0 (ix a1) a2) 55 0 (ix a1) a3) (by rw [z0]; omega) (by rw [z0]; omega) (by rw [z0]; decide)
          refine ⟨0, sI (sI (flJ h 38 0 (60 * ix a1) (60 * ix a1 + 60) 0) 39 0 (ix a1) a3) 40 0 (ix a1) a2, flJ (sI (sI (sI (sI (sI (flJ h 38 0 (60 * ix a1) (60 * ix a1 + 60) 0) 39 0 (ix a1) a3) 40 0 (ix a1) a2) 12 0 0 0) 54 0 (ix a1) a2) 55 0 (ix a1) a3) 56 0 (60 * ix a1 + ix 0) (60 * ix a1 + 60) 0, ?_, ?_, ?_, ?_, ?_⟩
          · unfold fX11_row
            simp only [br, p7t q, w1, if_false, q3, q4, if_true]
            rw [bd_s hlay]
          · unfold fX12_row
            simp only [br, lb_e, p12t q, w2, if_false, q3, q4, if_true, gd_p (ib4 q)]
            rw [bd_s hv]
          · exact ((Eqx_flJ _ _ _ _ _ _ (fun i => by simp [w_rows])).tr (Eqx_I _ _ _ _ _ (by simp [w_rows]))).tr (Eqx_I _ _ _ _ _ (by simp [w_rows]))
          · exact ((((((Eqx_flJ _ _ _ _ _ _ (fun i => by simp [w_rows])).tr (Eqx_I _ _ _ _ _ (by simp [w_rows]))).tr (Eqx_I _ _ _ _ _ (by simp [w_rows]))).tr (Eqx_I _ _ _ _ _ (by simp [w_rows]))).tr (Eqx_I _ _ _ _ _ (by simp [w_rows]))).tr (Eqx_I _ _ _ _ _ (by simp [w_rows]))).tr (Eqx_flJ _ _ _ _ _ _ (fun i => by simp [w_rows]))
          · refine ⟨fun p hp => ?_, fun j hj => ?_⟩
            · by_cases e : p = ix a1
              · subst e
                refine Or.inr ⟨?_, ?_, ?_, ?_, ?_⟩ <;> simp [gI_sI, gI_flJ] <;> omega
              · have := R.1 p hp
                simpa [gI_sI, gI_flJ, e] using this
            · have := R.2 j hj
              simp only [gJ_flJ, gJ_sI]
              simp only [show ix 0 = 0 from rfl, Nat.add_zero]
              by_cases e : 60 * ix a1 ≤ j ∧ j < 60 * ix a1 + 60
              · simp [e]
              · simp [e, this]
        · refine refuse (f := fX11_row a1 a2 a3) (g := fX12_row a1 a2 a3) (r := -3) (by decide) ?_ ?_ (R.thrown 0)
          · unfold fX11_row
            simp only [br, p7t q, w1, if_false, q3, q4, if_true]
          · unfold fX12_row
            simp only [br, lb_e, p12t q, w2, if_false, q3, q4, if_true]
      · refine refuse (f := fX11_row a1 a2 a3) (g := fX12_row a1 a2 a3) (r := -2) (by decide) ?_ ?_ (R.thrown 0)
        · unfold fX11_row
          simp only [br, p7t q, w1, if_false, q3]
        · unfold fX12_row
          simp only [br, lb_e, p12t q, w2, if_false, q3]
    · have w1 := fun h => wf (a := a2) (lo := 0) (hi := 3) (by rw [z0, n3]; exact q2) h
      have w2 := fun h => if' (a := a2.toInt64) (lo := 0) (hi := 3) (by rw [z0J, n3J, to64]; exact q2) h
      refine refuse (f := fX11_row a1 a2 a3) (g := fX12_row a1 a2 a3) (r := -2) (by decide) ?_ ?_ (R.thrown 0)
      · unfold fX11_row
        simp only [br, p7t q, w1, if_false, if_true]
      · unfold fX12_row
        simp only [br, lb_e, p12t q, w2, if_false, if_true]
  · refine refuse (f := fX11_row a1 a2 a3) (g := fX12_row a1 a2 a3) (r := -2) (by decide) ?_ ?_ (R.thrown 0)
    · unfold fX11_row
      simp only [br, p7f q, if_true]
    · unfold fX12_row
      simp only [br, lb_e, p12f q, if_true]
