/-! ===== level 2: ends, rightOf, plots, sell, plotOf ===== -/
theorem find3_t {H : Nat} {y : Int} {B : Nat} {u : Nat → Nat} {c m : Hp} (R : RR H y B u c m) {r : Nat} (hr : r < nR m) : fX3_find (nZ r) c = some (some r, c) := by
  obtain ⟨r1, r2, r3, r4, r5⟩ := R
  unfold fX3_find
  rw [r2, br_n (by rw [nZ_neg (by omega)]; exact id), br_n (by rw [nZ_le (by omega) (by omega)]; omega), gd_p (by rw [nZ_ib (by omega)]; omega), lb_e, nZ_ix (by omega), (r5 r hr).1]
theorem find3_f {H : Nat} {y : Int} {B : Nat} {u : Nat → Nat} {c m : Hp} (R : RR H y B u c m) {a : Int32} (q : ¬ (0 ≤ a.toInt ∧ a.toInt < nR m)) : fX3_find a c = some (none, c) := by
  obtain ⟨r1, r2, r3, r4, r5⟩ := R
  unfold fX3_find
  rw [br_or, r2, br_p]
  rw [i32_lt, i32_le, z0, nZ_t (by omega)]
  omega
theorem right12_in {m : Hp} (r1 : gI m 12 0 9 = nZ (nR m)) (r3 : nR m ≤ 100) (a : Int32) (h' : Hp) : (fX12_in a.toInt64 0 (((gI m 12 0 9) - 1).toInt64) h' = 0) ↔ ¬ (0 ≤ a.toInt ∧ a.toInt < nR m) := by
  rw [in_0, to64, to64, r1, pre_t (by omega), z0J]
  omega
theorem rg_ex {m : Hp} {a : Int32} (q : 0 ≤ a.toInt ∧ a.toInt < nR m) : ∃ i, a = nZ i ∧ i < nR m := by
  obtain ⟨i, rfl, ei, hi⟩ := nZ_ex q.1
  exact ⟨i, rfl, by omega⟩
theorem t32_64 (x : Int32) : x.toInt64.toInt32 = x := Int32.toInt32_toInt64 x
theorem s_rightOf (a1 a2 : Int32) (h : Hp) {H : Nat} {y : Int} {B : Nat} {u : Nat → Nat} (T : RR H y B u h h) : Op [13000] (fX11_rightOf a1 a2) (fX12_rightOf a1 a2) h (fun _ => True) := by
  obtain ⟨r1, r2, r3, r4, r5⟩ := id T
  have r1' : gI (sI h 12 0 0 0) 12 0 9 = nZ (nR (sI h 12 0 0 0)) := r1
  have r3' : nR (sI h 12 0 0 0) ≤ 100 := r3
  have e' : nR (sI h 12 0 0 0) = nR h := rfl
  refine Op_ro rfl ?_ trivial
  unfold fX11_rightOf fX12_rightOf
  simp only [lb_e, right12_in r1' r3', e']
  by_cases q : 0 ≤ a1.toInt ∧ a1.toInt < nR h
  · obtain ⟨i, rfl, hi⟩ := rg_ex q
    obtain ⟨b1, b2, b3, b4, b5, b6, b7, b8, b9, b10, b11, b12, b13, b14, b15, b16, -⟩ := r5 i hi
    have hib : ib (nZ i) 100 := by rw [nZ_ib (by omega)]; omega
    refine ⟨fX5_detail i a2 h, ?_, ?_⟩
    · rw [bd_s (find3_t T hi), mt_s rfl]
    · rw [br_n (not_not_intro q)]
      simp only [gd_p hib, nZ_ix (by omega : i < 2147483648)]
      simp (disch := decide) only [gI_o, gJ_sI]
      rw [← b2, ← b3, ← b4, ← b5, ← b6, ← b7, ← b9, ← b10, ← b11, ← b12, t32_64]
      unfold fX5_detail br
      repeat' split
      all_goals rfl
  · refine ⟨-2, ?_, ?_⟩
    · rw [bd_s (find3_f T q), mt_n rfl]
    · rw [br_p q]
def w_ends : List Nat := [13000, 6007, 6011, 6012, 77, 79]
/-- a right is ended on both sides -/
theorem RR_end {H : Nat} {y : Nat} {B : Nat} {u : Nat → Nat} {c c' m m' : Hp} (T : RR H y B u c m) {i : Nat} (hi : i < nR m) (hy : y ≤ 199) (hu : (y : Int) ≤ (gI m 77 0 i).toInt) (ec : c' = sI (sI c 5 i 7 (nZ y - 1)) 5 i 12 (nZ y)) (em : m' = sI (sI m 77 0 i (nZ y - 1)) 79 0 i (nZ y)) : RR H y B u c' m' ∧ nR m' = nR m := by
  obtain ⟨r1, r2, r3, r4, r5⟩ := T
  have fm : Fr [77, 79] m m' := by rw [em]; exact (Fr_I _ _ _ _ _ rfl).tr (Fr_I _ _ _ _ _ rfl)
  have fc : Fr [6007, 6012] c c' := by rw [ec]; exact (Fr_I _ _ _ _ _ rfl).tr (Fr_I _ _ _ _ _ rfl)
  have eR : nR m' = nR m := by unfold nR; rw [fm.I 12 0 9 rfl]
  refine ⟨⟨by rw [fm.I 12 0 9 rfl, eR]; exact r1, by rw [fc.I 3 0 1 rfl, eR]; exact r2, by omega, by rw [fc.N 5 rfl, eR]; exact r4, fun r hr => ?_⟩, eR⟩
  rw [eR] at hr
  have R := r5 r hr
  have g77 : gI m' 77 0 r = if r = i then nZ y - 1 else gI m 77 0 r := by rw [em]; simp (disch := decide) only [gI_o, gI_a]
  have g79 : gI m' 79 0 r = if r = i then nZ y else gI m 79 0 r := by rw [em]; simp (disch := decide) only [gI_o, gI_a]
  unfold R1 at R ⊢
  rw [g77, g79]
  simp (disch := decide) only [fm.A, fm.AJ, fc.AR]
  by_cases z : r = i
  · subst z
    rw [if_pos rfl, if_pos rfl]
    have c7 : gI c' 5 r 7 = nZ y - 1 := by rw [ec]; simp (disch := decide) only [gI_p, gI_q]
    have c12 : gI c' 5 r 12 = nZ y := by rw [ec, gI_q]
    rw [c7, c12]
    simp (disch := decide) only [fc.I]
    obtain ⟨b1, b2, b3, b4, b5, b6, b7, b8, b9, b10, b11, b12, b13, b14, b15⟩ := R
    refine ⟨b1, b2, b3, b4, b5, b6, b7, b8, trivial, b10, b11, b12, b13, Or.inr ⟨trivial, fun z => (nZ_m1 (by omega : y < 2147483648)).mp z, ?_⟩, b15⟩
    rw [pre_t (by omega)]
    omega
  · rw [if_neg z, if_neg z]
    have c7 : gI c' 5 r 7 = gI c 5 r 7 := by rw [ec, gI_r z, gI_r z]
    have c12 : gI c' 5 r 12 = gI c 5 r 12 := by rw [ec, gI_r z, gI_r z]
    rw [c7, c12]
    simp (disch := decide) only [fc.I]
    exact R
theorem stops_t {m : Hp} {i y : Nat} (hi : i < 100) (e : gI m 12 0 5 = nZ y) : fX12_stops (nZ i) m = some ((), sI (sI m 77 0 i (nZ y - 1)) 79 0 i (nZ y)) := by
  unfold fX12_stops
  have hib : ib (nZ i) 100 := by rw [nZ_ib (by omega)]; omega
  simp only [lb_e, gd_p hib, nZ_ix (by omega : i < 2147483648)]
  rw [gI_o (by decide), e]
theorem s_ends (a1 : Int32) (h : Hp) (Y : Ry h) {H B : Nat} {u : Nat → Nat} (T : RR H (yr h) B u h h) : Op w_ends (fX11_ends a1) (fX12_ends a1) h (fun h3 => RR H (yr h) B u h3 h3 ∧ nR h3 = nR h) := by
  obtain ⟨r1, r2, r3, r4, r5⟩ := id T
  obtain ⟨y1, y2, y3⟩ := Y.e
  have T0 : RR H (yr h) B u (sI h 12 0 0 0) (sI h 12 0 0 0) := RR_m (thrown_sm rfl h) (RR_c (thrown_sm rfl h) T)
  by_cases q : 0 ≤ a1.toInt ∧ a1.toInt < nR h
  · obtain ⟨i, rfl, hi⟩ := rg_ex q
    obtain ⟨b1, b2, b3, b4, b5, b6, b7, b8, b9, b10, b11, b12, b13, b14, b15, b16, -⟩ := r5 i hi
    have hib : ib (nZ i) 100 := by rw [nZ_ib (by omega)]; omega
    by_cases q2 : (yr h : Int) ≤ (gI h 77 0 i).toInt
    · obtain ⟨c', ec⟩ : ∃ z, z = sI (sI h 5 i 7 (nZ (yr h) - 1)) 5 i 12 (nZ (yr h)) := ⟨_, rfl⟩
      have fc : Fr [6007, 6012] h c' := by rw [ec]; exact (Fr_I _ _ _ _ _ rfl).tr (Fr_I _ _ _ _ _ rfl)
      have fm : Fr [13000] c' (sI c' 12 0 0 0) := Fr_I _ _ _ _ _ rfl
      obtain ⟨m', em⟩ : ∃ z, z = sI (sI (sI c' 12 0 0 0) 77 0 i (nZ (yr h) - 1)) 79 0 i (nZ (yr h)) := ⟨_, rfl⟩
      have fm' : Fr [77, 79] (sI c' 12 0 0 0) m' := by rw [em]; exact (Fr_I _ _ _ _ _ rfl).tr (Fr_I _ _ _ _ _ rfl)
      have Tm : RR H (yr h) B u h (sI c' 12 0 0 0) := RR_m (fm.sm rfl) (RR_m (fc.sm rfl) T)
      have eR : nR (sI c' 12 0 0 0) = nR h := by rw [nR_sm (fm.sm rfl), nR_sm (fc.sm rfl)]
      have g77 : gI (sI c' 12 0 0 0) 77 0 i = gI h 77 0 i := by rw [fm.A 77 0 i rfl, fc.A 77 0 i rfl]
      have y5 : gI (sI c' 12 0 0 0) 12 0 5 = nZ (yr h) := by rw [gI_p (by decide), fc.I 12 0 5 rfl]; exact y1
      obtain ⟨K, eK⟩ := RR_end Tm (by rw [eR]; exact hi) y3 (by rw [g77]; exact q2) ec em
      refine ⟨1, c', m', ?_, ?_, fc.wk rfl, ((fc.wk rfl).tr (fm.wk rfl)).tr (fm'.wk rfl), RR_c (fm'.sm rfl) (RR_c (fm.sm rfl) K), by rw [eK, eR]⟩
      · unfold fX11_ends fX5_endAhead
        rw [bd_s (find3_t T hi), mt_s rfl, y2, b9, br_p (by rw [i32_le, nZ_t (by omega)]; exact q2)]
        simp only [lb_e]
        rw [← ec]
        rfl
      · unfold fX12_ends
        have e1 := right12_in (m := sI c' 12 0 0 0) (by rw [gI_p (by decide), fc.I 12 0 9 rfl, eR]; exact r1) (by omega) (nZ i) (sI c' 12 0 0 0)
        rw [eR] at e1
        simp only [lb_e, e1]
        rw [br_n (not_not_intro q), gd_p hib, nZ_ix (by omega), g77, y5, br_p (by rw [i32_le, nZ_t (by omega)]; exact q2), bd_s (stops_t (by omega) y5), ← em]
    · refine Op_no rfl (r := 0) ?_ ?_ ⟨T0, rfl⟩
      · unfold fX11_ends
        rw [bd_s (find3_t T hi), mt_s rfl, y2, b9, br_n (by rw [i32_le, nZ_t (by omega)]; exact q2)]
      · unfold fX12_ends
        have e1 := right12_in (m := sI h 12 0 0 0) r1 r3 (nZ i) (sI h 12 0 0 0)
        rw [show nR (sI h 12 0 0 0) = nR h from rfl] at e1
        simp only [lb_e, e1]
        rw [br_n (not_not_intro q), gd_p hib, nZ_ix (by omega), gI_p (by decide), y1, gI_o (by decide), br_n (by rw [i32_le, nZ_t (by omega)]; exact q2)]
  · refine Op_no rfl (r := 0) ?_ ?_ ⟨T0, rfl⟩
    · unfold fX11_ends
      rw [bd_s (find3_f T q), mt_n rfl]
    · unfold fX12_ends
      have e1 := right12_in (m := sI h 12 0 0 0) r1 r3 a1 (sI h 12 0 0 0)
      rw [show nR (sI h 12 0 0 0) = nR h from rfl] at e1
      simp only [lb_e, e1]
      rw [br_p q]
/-- plots -/
def RPl (H : Nat) (c m : Hp) : Prop := ∀ i, i < 1600 → gI c 33 0 i = gI m 69 0 i ∧ -1 ≤ (gI m 69 0 i).toInt ∧ (gI m 69 0 i).toInt < H
theorem nZ_x200 (a : Nat) : (200 : Int32) * nZ a = nZ (200 * a) := nZ_mul 200 a
theorem nZ_200x (a : Nat) : nZ a * 200 = nZ (200 * a) := by rw [Nat.mul_comm]; exact nZ_mul a 200
theorem plotOwner_t {p y : Nat} {c : Hp} (hp : p < 8) (hy : y ≤ 199) : fX3_plotOwner (nZ p) (nZ y) c = some (gI c 33 0 (200 * p + y), c) := by
  unfold fX3_plotOwner
  simp (disch := omega) only [plot3, year11, nZ_t, nZ_200x, nZ_add, nZ_ib, nZ_ix]
  rw [br_n (by omega), br_n (by omega), gd_p (by omega)]
theorem givePlot_t {p y : Nat} {c : Hp} {w : Int32} (hp : p < 8) (hy : y ≤ 199) : fX3_givePlot (nZ p) w (nZ y) c = some ((), flI c 33 0 (200 * p + y) (200 * p + 200) w) := by
  unfold fX3_givePlot
  have e : nZ (200 * p) + 199 + 1 = nZ (200 * p + 200) := by
    show nZ (200 * p) + nZ 199 + nZ 1 = _
    rw [nZ_add, nZ_add]
  simp (disch := omega) only [lb_e, plot3, year11, nZ_200x, e, nZ_t, nZ_add, nZ_ix]
  rw [br_n (by omega), br_n (by omega), gd_p (by omega)]
theorem owns_L {p : Nat} {w : Int32} (hp : p < 8) : ∀ (n j : Nat) (m : Hp), j ≤ 200 → 200 - j < n → Wp (fX12_owns_L5 n (nZ p) w (nZ j) m) (fun _ m' => Fr [69] m m' ∧ ∀ i, gI m' 69 0 i = if 200 * p + j ≤ i ∧ i < 200 * p + 200 then w else gI m 69 0 i) := by
  intro n
  induction n with
  | zero => intro j m _ q; omega
  | succ n ih =>
    intro j m hj hn
    rw [fX12_owns_L5]
    simp (disch := omega) only [lb_e, nZ_x200, nZ_suc, nZ_add, nZ_ib, nZ_ix]
    have e : ((200 : Int32) ≤ nZ j) ↔ 200 ≤ j := nZ_le (a := 200) (by decide) (by omega)
    by_cases q : j = 200
    · rw [br_p (e.mpr (by omega)), wp_some]
      refine ⟨Fr.rf _ _, fun i => ?_⟩
      rw [if_neg (by omega)]
    · rw [br_n (fun z => by have := e.mp z; omega), gd_p (by omega)]
      refine wp_mono (ih (j + 1) _ (by omega) (by omega)) fun _ m' k => ⟨(Fr_I _ _ _ _ _ rfl).tr k.1, fun i => ?_⟩
      rw [k.2 i, gI_a]
      by_cases z : i = 200 * p + j
      · rw [if_neg (by omega), if_pos z, if_pos (by omega)]
      · by_cases z2 : 200 * p + (j + 1) ≤ i ∧ i < 200 * p + 200
        · rw [if_pos z2, if_pos (by omega)]
        · rw [if_neg z2, if_neg z, if_neg (by omega)]
theorem owns_t {p y : Nat} {w : Int32} {m : Hp} (hp : p < 8) (hy : y ≤ 199) (e : gI m 12 0 5 = nZ y) : Wp (fX12_owns (nZ p) w m) (fun _ m' => Fr [69] m m' ∧ ∀ i, gI m' 69 0 i = if 200 * p + y ≤ i ∧ i < 200 * p + 200 then w else gI m 69 0 i) := by
  unfold fX12_owns
  rw [lb_e, e]
  exact wp_call (owns_L hp FU y m (by omega) (by show _ < 100000; omega)) fun _ m' k => wp_some.mpr k
theorem RPl_give {H : Nat} {c m m' : Hp} {p y : Nat} {w : Int32} (L : RPl H c m) (hp : p < 8) (hy : y ≤ 199) (hw : -1 ≤ w.toInt ∧ w.toInt < H) (k : ∀ i, gI m' 69 0 i = if 200 * p + y ≤ i ∧ i < 200 * p + 200 then w else gI m 69 0 i) : RPl H (flI c 33 0 (200 * p + y) (200 * p + 200) w) m' := by
  intro i hi
  rw [k i, gI_flI]
  by_cases z : 200 * p + y ≤ i ∧ i < 200 * p + 200
  · rw [if_pos ⟨rfl, rfl, z⟩, if_pos z]
    exact ⟨rfl, hw⟩
  · rw [if_neg fun w => z w.2.2, if_neg z]
    exact L i hi
def Rs (h : Hp) : Prop := gI h 3 0 2 = gI h 12 0 11 ∧ 0 ≤ (gI h 12 0 11).toInt ∧ (gI h 12 0 11).toInt ≤ 100
def w_sell : List Nat := [13000, 33, 69, 4002, 13011]
theorem RPl_sm {H : Nat} {c c' m m' : Hp} (e1 : Sm [33] c c') (e2 : Sm [69] m m') (L : RPl H c m) : RPl H c' m' := by
  unfold RPl at L ⊢
  simp (disch := decide) only [e1.A, e2.A]
  exact L
theorem s_plotOf (a1 a2 : Int32) (h : Hp) {H : Nat} (L : RPl H h h) : Op [13000] (fX11_plotOf a1 a2) (fX12_plotOf a1 a2) h (fun _ => True) := by
  refine Op_ro rfl ?_ trivial
  unfold fX11_plotOf fX12_plotOf
  simp only [lb_e, plot3, year11, in_0, to64, z0J, n7J, n199J]
  by_cases q : (0 ≤ a1.toInt ∧ a1.toInt ≤ 7) ∧ (0 ≤ a2.toInt ∧ a2.toInt ≤ 199)
  · obtain ⟨p, rfl, ep, hp⟩ := nZ_ex q.1.1
    obtain ⟨y, rfl, ey, hy⟩ := nZ_ex q.2.1
    refine ⟨gI h 33 0 (200 * p + y), ?_, ?_⟩
    · rw [br_n (by omega), br_n (by omega), bd_s (plotOwner_t (by omega) (by omega))]
    · simp (disch := omega) only [nZ_x200, nZ_add, nZ_ib, nZ_ix]
      rw [br_n (by omega), br_n (by omega), gd_p (by omega), gI_o (by decide), (L (200 * p + y) (by omega)).1]
  · refine ⟨-2, ?_, ?_⟩
    · rw [br_or, br_p (by omega)]
    · rw [br_or, br_p (by omega)]
theorem s_sell (a1 a2 : Int32) (h : Hp) (P : RP h) (Y : Ry h) (L : RPl (nH h) h h) (S : Rs h) : Op w_sell (fX11_sell a1 a2) (fX12_sell a1 a2) h (fun h3 => RPl (nH h) h3 h3 ∧ Rs h3) := by
  obtain ⟨y1, y2, y3⟩ := Y.e
  have P0 := RP_sm (thrown_sm rfl h) P
  have L0 : RPl (nH h) (sI h 12 0 0 0) (sI h 12 0 0 0) := RPl_sm (thrown_sm rfl h) (thrown_sm rfl h) L
  have S0 : Rs (sI h 12 0 0 0) := S
  by_cases q : 0 ≤ a1.toInt ∧ a1.toInt ≤ 7
  · obtain ⟨p, rfl, ep, hp⟩ := nZ_ex q.1
    have hp8 : p < 8 := by omega
    by_cases q2 : a2 = -1 ∨ isT h a2
    · have hw : -1 ≤ a2.toInt ∧ a2.toInt < nH h := by
        rcases q2 with z | z
        · rw [z, n1]; omega
        · have := z.1; omega
      by_cases q3 : (gI h 12 0 11).toInt < 100
      · obtain ⟨c', ec⟩ : ∃ z, z = sI (flI h 33 0 (200 * p + yr h) (200 * p + 200) a2) 3 0 2 (gI h 12 0 11 + 1) := ⟨_, rfl⟩
        have fc : Fr [33, 4002] h c' := by rw [ec]; exact (Fr_flI _ _ _ _ _ _ (by decide) rfl).tr (Fr_I _ _ _ _ _ rfl)
        have fm : Fr [13000] c' (sI c' 12 0 0 0) := Fr_I _ _ _ _ _ rfl
        have e5 : gI (sI c' 12 0 0 0) 12 0 5 = nZ (yr h) := by rw [gI_p (by decide), fc.I 12 0 5 rfl]; exact y1
        obtain ⟨v0, m', em, km, k⟩ : ∃ r m', fX12_owns (nZ p) a2 (sI c' 12 0 0 0) = some (r, m') ∧ _ ∧ _ := owns_t (w := a2) hp8 y3 e5
        obtain ⟨m2, em2⟩ : ∃ z, z = sI m' 12 0 11 (gI h 12 0 11 + 1) := ⟨_, rfl⟩
        have fm2 : Fr [13011] m' m2 := by rw [em2]; exact Fr_I _ _ _ _ _ rfl
        have g11 : gI m' 12 0 11 = gI h 12 0 11 := by rw [km.I 12 0 11 rfl, gI_p (by decide), fc.I 12 0 11 rfl]
        refine ⟨gI h 33 0 (200 * p + yr h), c', m2, ?_, ?_, fc.wk rfl, ((fc.wk rfl).tr (fm.wk rfl)).tr ((km.wk rfl).tr (fm2.wk rfl)), ?_, ?_⟩
        · unfold fX11_sell
          rw [br_n (by rw [plot3]; omega), lb_e]
          have fin : ∀ b : Prop, [Decidable b] → (br b (br ((gI h 3 0 2) < 100) (bd (fX3_plotOwner (nZ p) (gI h 11 0 11) h) (fun r3 h4 => bd (fX3_givePlot (nZ p) a2 (gI h4 11 0 11) h4) (fun r5 h6 => lb (sI h6 3 0 2 ((gI h6 3 0 2) + 1)) (fun h7 => some (r3, h7))))) (some ((-3), h))) (br ((gI h 3 0 2) < 100) (bd (fX3_plotOwner (nZ p) (gI h 11 0 11) h) (fun r3 h4 => bd (fX3_givePlot (nZ p) a2 (gI h4 11 0 11) h4) (fun r5 h6 => lb (sI h6 3 0 2 ((gI h6 3 0 2) + 1)) (fun h7 => some (r3, h7))))) (some ((-3), h)))) = some (gI h 33 0 (200 * p + yr h), c') := by
            intro b _
            have : (br ((gI h 3 0 2) < 100) (bd (fX3_plotOwner (nZ p) (gI h 11 0 11) h) (fun r3 h4 => bd (fX3_givePlot (nZ p) a2 (gI h4 11 0 11) h4) (fun r5 h6 => lb (sI h6 3 0 2 ((gI h6 3 0 2) + 1)) (fun h7 => some (r3, h7))))) (some ((-3 : Int32), h))) = some (gI h 33 0 (200 * p + yr h), c') := by
              rw [y2, S.1, br_p (by rw [i32_lt, n100]; exact q3), bd_s (plotOwner_t hp8 y3), y2, bd_s (givePlot_t hp8 y3), lb_e, gI_flI, if_neg (fun z => absurd z.1 (by decide)), S.1, ← ec]
            rw [this]
            unfold br
            split <;> rfl
          rcases q2 with z | z
          · have := fin True
            rw [br_p trivial] at this
            rw [br_p z]
            exact this
          · rw [bd_s (stay_t P z)]
            exact fin _
        · unfold fX12_sell
          simp only [lb_e, in_0, to64, z0J, n7J]
          rw [br_n (not_not_intro q)]
          have fin : (br ((gI (sI c' 12 0 0 0) 12 0 11) = 100) (some ((-3 : Int32), sI c' 12 0 0 0)) (gd (ib (((200 : Int32) * nZ p) + (gI (sI c' 12 0 0 0) 12 0 5)) 1600) (bd (fX12_owns (nZ p) a2 (sI c' 12 0 0 0)) (fun r6 h7 => some (gI (sI c' 12 0 0 0) 69 0 (ix (((200 : Int32) * nZ p) + (gI (sI c' 12 0 0 0) 12 0 5))), sI h7 12 0 11 ((gI h7 12 0 11) + 1)))))) = some (gI h 33 0 (200 * p + yr h), m2) := by
            rw [e5, gI_p (by decide), fc.I 12 0 11 rfl, br_n (fun z => by rw [z, n100] at q3; omega)]
            simp (disch := omega) only [nZ_x200, nZ_add, nZ_ib, nZ_ix]
            rw [gd_p (by omega), bd_s em, g11, ← em2, gI_o (by decide), fc.A 69 0 _ rfl, (L (200 * p + yr h) (by omega)).1]
          rcases q2 with z | z
          · rw [br_p z]
            exact fin
          · have Pc := RP_sm (fm.sm rfl) (RP_sm (fc.sm rfl) P)
            have zc : isT (sI c' 12 0 0 0) a2 := by
              unfold isT nH
              rw [gI_p (by decide), fc.I 12 0 8 rfl, gI_o (by decide), fc.A 68 0 _ rfl]
              exact z
            rw [br_n (fun w => by have := z.1; rw [w, n1] at this; omega), bd_s (there_t Pc zc), br_n (by decide)]
            exact fin
        · refine RPl_sm (c := flI h 33 0 (200 * p + yr h) (200 * p + 200) a2) (m := m') ?_ (fm2.sm rfl) (RPl_give (m := sI c' 12 0 0 0) (RPl_sm (Fr.sm (Fr.rf [] _) rfl) ((fc.wk (W' := [33, 4002, 13000]) rfl).tr (fm.wk rfl) |>.sm rfl) L) hp8 y3 hw k)
          have g : Fr [13000, 13011, 69, 4002] (flI h 33 0 (200 * p + yr h) (200 * p + 200) a2) m2 := by
            have : Fr [13000, 13011, 69, 4002] (flI h 33 0 (200 * p + yr h) (200 * p + 200) a2) c' := by rw [ec]; exact Fr_I _ _ _ _ _ rfl
            exact (this.tr (fm.wk rfl)).tr ((km.wk rfl).tr (fm2.wk rfl))
          exact g.sm rfl
        · unfold Rs
          have e1 : gI m2 12 0 11 = gI h 12 0 11 + 1 := by rw [em2, gI_q]
          have e2 : gI m2 3 0 2 = gI h 12 0 11 + 1 := by rw [fm2.I 3 0 2 rfl, km.I 3 0 2 rfl, fm.I 3 0 2 rfl, ec, gI_q]
          rw [e1, e2, i32_succ q3 (by omega)]
          have := S.2
          exact ⟨rfl, by omega, by omega⟩
      · have e100 : gI h 12 0 11 = 100 := by
          rw [i32_eq, n100]
          have := S.2
          omega
        refine Op_no rfl (r := -3) ?_ ?_ ⟨L0, S0⟩
        · unfold fX11_sell
          rw [br_n (by rw [plot3]; omega), lb_e]
          rcases q2 with z | z
          · rw [br_p z]
            show br _ _ _ = _
            rw [S.1, e100]
            rfl
          · rw [br_n (fun w => by have := z.1; rw [w, n1] at this; omega), bd_s (stay_t P z), br_n (by decide)]
            show br _ _ _ = _
            rw [S.1, e100]
            rfl
        · unfold fX12_sell
          simp only [lb_e, in_0, to64, z0J, n7J]
          rw [br_n (not_not_intro q)]
          rcases q2 with z | z
          · rw [br_p z, gI_p (by decide), br_p e100]
          · have zc : isT (sI h 12 0 0 0) a2 := z
            rw [br_n (fun w => by have := z.1; rw [w, n1] at this; omega), bd_s (there_t P0 zc), br_n (by decide), gI_p (by decide), br_p e100]
    · have q2a : ¬ a2 = -1 := fun z => q2 (Or.inl z)
      have q2b : ¬ isT h a2 := fun z => q2 (Or.inr z)
      have q2c : ¬ isT (sI h 12 0 0 0) a2 := q2b
      refine Op_no rfl (r := -2) ?_ ?_ ⟨L0, S0⟩
      · unfold fX11_sell
        rw [br_n (by rw [plot3]; omega), lb_e, br_n q2a, bd_s (stay_f P q2b)]
        rfl
      · unfold fX12_sell
        simp only [lb_e, in_0, to64, z0J, n7J]
        rw [br_n (not_not_intro q), br_n q2a, bd_s (there_f P0 q2c)]
        rfl
  · refine Op_no rfl (r := -2) ?_ ?_ ⟨L0, S0⟩
    · unfold fX11_sell
      rw [br_p (by rw [plot3]; exact q)]
    · unfold fX12_sell
      simp only [lb_e, in_0, to64, z0J, n7J]
      rw [br_p q]
