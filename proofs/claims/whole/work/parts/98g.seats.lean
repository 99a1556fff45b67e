/-! ===== level 2: the whole parish is seated, on both sides ===== -/
theorem cnt_surj {p : Nat → Bool} : ∀ {n k : Nat}, k < cnt p n → ∃ j, j < n ∧ p j = true ∧ cnt p j = k := by
  intro n
  induction n with
  | zero => intro k h; rw [cnt] at h; omega
  | succ n ih =>
    intro k h
    by_cases z : p n = true
    · rw [cnt_t z] at h
      by_cases y : k = cnt p n
      · exact ⟨n, by omega, z, y.symm⟩
      · obtain ⟨j, h1, h2, h3⟩ := ih (k := k) (by omega)
        exact ⟨j, by omega, h2, h3⟩
    · rw [cnt_f z] at h
      obtain ⟨j, h1, h2, h3⟩ := ih h
      exact ⟨j, by omega, h2, h3⟩
theorem cnt_inj {p : Nat → Bool} {i j : Nat} (hi : p i = true) (hj : p j = true) (h : cnt p i = cnt p j) : i = j := by
  have a := cnt_t hi
  have b := cnt_t hj
  by_cases z : i < j
  · have := cnt_mono p (a := i + 1) (b := j) (by omega)
    omega
  · by_cases y : j < i
    · have := cnt_mono p (a := j + 1) (b := i) (by omega)
      omega
    · omega
def SeatRes (g c m : Hp) (st : Nat) : Prop := (∀ i, i < nH g → Sq g c m st i) ∧ (∀ i, nH g ≤ i → i < 12 → gI c 41 st i = -1) ∧ gI c 8 st 4 = nZ (cnt (fun i => !decide (gI m 99 0 i = -1)) (nH g))
def wSc : List Nat := [41, 42, 43, 44, 9004, 11005, 48, 49, 50, 51]
def wSm : List Nat := [93, 94, 99, 100, 101, 102, 103, 104, 105, 106, 107]
theorem seats_t {g c m : Hp} (R : RC g) (P : RP g) {ow : Nat → Int32} {low a1 : Int32} {st : Nat} (s1 : Sm fRC g c) (s2 : Sm fRP g c) (s3 : Sm fRC g m) (s4 : Sm fRP g m) (S : SeatOk c st) (hO : ∀ s, s < 256 → gI c 53 0 s = ow s) (hL : gI m 12 0 17 = low) (h6 : ∀ m', Fr [93, 94] m m' → Wp (fX12_seats_L6 FU a1 0 m') (fun _ m2 => Fr [105, 106] m' m2 ∧ ∀ s, s < 256 → gI m2 106 0 s = 0 ∧ gI m2 105 0 s = ow s)) : ∃ c' m', fX10_seatAll st low c = some ((), c') ∧ fX12_seats a1 m = some ((), m') ∧ SeatRes g c' m' st ∧ Fr wSc c c' ∧ Fr wSm m m' ∧ Oth st c c' := by
  obtain ⟨v1, v2, v3, v4⟩ := R.v
  have hH := P.2.2.1
  -- the class clears
  obtain ⟨c1, ec1⟩ : ∃ y, y = sI (sI (flI c 41 st 0 12 (-1)) 8 st 4 0) 10 0 5 0 := ⟨_, rfl⟩
  have fc1 : Fr [41, 9004, 11005] c c1 := by rw [ec1]; exact ((Fr_flI _ _ _ _ _ _ (by decide) rfl).tr (Fr_I _ _ _ _ _ rfl)).tr (Fr_I _ _ _ _ _ rfl)
  have e41 : ∀ n j, gI c1 41 n j = if n = st ∧ j < 12 then -1 else gI c 41 n j := fun n j => by
    rw [ec1, gI_o (by decide), gI_o (by decide), gI_flI]
    by_cases z : n = st ∧ j < 12
    · rw [if_pos ⟨rfl, z.1, by omega, z.2⟩, if_pos z]
    · rw [if_neg fun y => z ⟨y.2.1, y.2.2.2⟩, if_neg z]
  have eclear : fX8_clear st c = some ((), sI (flI c 41 st 0 12 (-1)) 8 st 4 0) := by
    unfold fX8_clear
    simp only [lb_e, mt_s S.1]
  have Ot1 : Oth st c c1 := fun n hn => ⟨fun j => by rw [e41, if_neg fun y => hn y.1], fun j => fc1.A 42 n j rfl, fun j => fc1.A 43 n j rfl, fun j => fc1.A 44 n j rfl, by rw [ec1, gI_o (by decide), gI_r hn]; rfl⟩
  -- the model listens and finds owners
  obtain ⟨u1, m1', em1, fm1, Rm1, Tm1⟩ := listens_t (RC_sm s3 R)
  obtain ⟨u2, m2, em2, fm2, K2⟩ := h6 m1' fm1
  have fm12 : Fr [93, 94, 105, 106] m m2 := (fm1.wk rfl).tr (fm2.wk rfl)
  have t1 : Sm fRC g c1 := s1.tr (fc1.sm rfl)
  have t2 : Sm fRP g c1 := s2.tr (fc1.sm rfl)
  have t3 : Sm fRC g m2 := s3.tr (fm12.sm rfl)
  have t4 : Sm fRP g m2 := s4.tr (fm12.sm rfl)
  have T2 : LT m2 := LT_sm (fm2.sm rfl) (fm2.sm rfl) Tm1
  have PE1 : PE c1 m2 := ⟨RP_sm t2 P, by rw [t4.I 12 0 8 (by decide), nH_sm t2]; exact P.1, fun i => by rw [t4.A 65 0 i (by decide), t2.A 65 0 i (by decide)], fun i => by rw [t4.A 68 0 i (by decide), t2.A 68 0 i (by decide)]⟩
  -- the order
  obtain ⟨n, o, w1, c2, w2, m3, e1, e2, hn, O3, S99, fc2, fm3⟩ := ord_L FU 0 0 (fun _ => 0) c1 m2 PE1 (by omega) (by omega) (by show _ < 100000; rw [nH_sm t2]; omega) ⟨fun k hk => by omega, fun k l hk => by omega⟩ (fun i hi => by omega)
  rw [nH_sm t2] at hn O3 S99
  have d1 : Sm fRC g c2 := t1.tr (fc2.sm rfl)
  have d2 : Sm fRP g c2 := t2.tr (fc2.sm rfl)
  have d3 : Sm fRC g m3 := t3.tr (fm3.sm rfl)
  have d4 : Sm fRP g m3 := t4.tr (fm3.sm rfl)
  have fc12 : Fr [41, 9004, 11005, 49] c c2 := (fc1.wk rfl).tr (fc2.wk rfl)
  have S2 : SeatOk c2 st := ⟨by rw [fc12.R 8 st 0 rfl]; exact S.1, by rw [fc12.R 8 st 1 rfl]; exact S.2.1, by rw [fc12.R 8 st 2 rfl]; exact S.2.2.1, by rw [fc12.R 8 st 3 rfl]; exact S.2.2.2⟩
  have B0 : Bo g c2 m3 ow st := ⟨d1, d2, d3, d4, LT_sm (fm3.sm rfl) (fm3.sm rfl) T2, S2, fun s hs => ⟨by rw [fc12.A 53 0 s rfl]; exact hO s hs, by rw [fm3.A 105 0 s rfl]; exact (K2 s hs).2⟩⟩
  have C0 : CiR g ow st n o c c2 m3 0 := by
    refine ⟨B0, O3, by rw [fc2.I 10 0 5 rfl, ec1, gI_q]; rfl, fun j hj => by omega, ⟨fun i hi _ => ⟨by rw [fc2.A 41 st i rfl, e41, if_pos ⟨rfl, hi⟩], fun h => S99 i h⟩, fun j hj => by omega⟩, fun s hs hq => absurd (by rw [fm3.A 106 0 s rfl]; exact (K2 s hs).1) hq, ?_, Oth_fr Ot1 (fc2.sm rfl)⟩
    rw [fc2.I 8 st 4 rfl, ec1, gI_o (by decide), gI_q, cnt_0 fun i hi => by rw [S99 i hi]; rfl]
    rfl
  -- by right
  obtain ⟨w3, c3, w4, m4, e3, e4, CR, fc3, fm4⟩ := rt_L R P low hn FU 0 c2 m3 (by omega) (by show _ < 100000; omega) C0
  obtain ⟨BR, OR, w5R, w50R, SQR, S6R, s4R, OtR⟩ := id CR
  obtain ⟨b1, b2, b3, b4, b5, b6, b7⟩ := id BR
  -- those who are left
  obtain ⟨w5, m5, e5, fm5, K5⟩ := rest_L P (ow := ow) (o := o) hn FU 0 m4 (by omega) (by show _ < 100000; omega) (fun j hj => ⟨(OR.1 j hj).2.1, (OR.1 j hj).2.2.1, by
    have := SQR.2 j hj
    by_cases z : nbB g ow o j = true
    · exact iff_of_true (this.1 z).2 z
    · obtain ⟨s, q1, q2, q3, q4, -⟩ := this.2 (by simpa using z)
      rw [q4]
      exact iff_of_false (fun y => (nZ_m1 (by omega)).mp y) z⟩) (fun j hj => by omega)
  obtain ⟨M, eM⟩ : ∃ M, M = cnt (nbB g ow o) n := ⟨_, rfl⟩
  have hM : M ≤ 12 := by have := cnt_le (nbB g ow o) n; omega
  rw [← eM] at e5 w5R
  -- the class opens what is nobody's
  obtain ⟨w6, c4, e6, fc4, K4⟩ := open_t (x := -1) (g := g) (ow := ow) (RC_sm b1 R) (nB_sm b1) (un_sm b1) (fun s hs => (b7 s hs).1)
  obtain ⟨w7, m6, e7, fm6, K6⟩ := z266_L hM FU 0 m5 (by omega) (by show _ < 100000; omega)
  have fcA : Fr [41, 42, 43, 44, 9004, 11005, 48, 49, 50] c c4 := ((fc12.wk rfl).tr (fc3.wk rfl)).tr (fc4.wk rfl)
  have fmA : Fr [93, 94, 99, 100, 101, 102, 103, 104, 105, 106, 107] m m6 := ((((fm12.wk rfl).tr (fm3.wk rfl)).tr (fm4.wk rfl)).tr (fm5.wk rfl)).tr (fm6.wk rfl)
  have fm56 : Fr [103, 107] m4 m6 := (fm5.wk rfl).tr (fm6.wk rfl)
  have pre11 : ∀ X : Option (Unit × Hp), (bd (fX10_seatAll_L94 FU st low (nZ M + (-1)) c4) (fun v26 h24 => bd (fX10_seatByRank st low h24) (fun r27 h28 => some ((), h28)))) = X → fX10_seatAll st low c = X := fun X hX => by
    unfold fX10_seatAll fX4_fillOrder
    rw [bd_s eclear, lb_e, ← ec1, bd_s (show fX4_fillOrder_L4 FU 0 0 c1 = _ from e1)]
    simp only [lb_e]
    rw [bd_s (show (some (nZ n, c2) : Option (Int32 × Hp)) = some (nZ n, c2) from rfl), bd_s (show fX10_seatAll_L25 FU st low (nZ n) 0 c2 = _ from e3), bd_s e6]
    rw [fc4.I 10 0 5 rfl, w5R, Int32.sub_eq_add_neg]
    exact hX
  have pre12 : ∀ X : Option (Unit × Hp), (bd (fX12_seats_L299 FU (nZ M) (nZ M + (-1)) m6) (fun v98 h96 => bd (fX12_seats_L467 FU (nZ M) 0 0 h96) (fun t123 h122 => some ((), h122)))) = X → fX12_seats a1 m = X := fun X hX => by
    unfold fX12_seats
    rw [bd_s em1, bd_s em2, bd_s (show fX12_seats_L91 FU 0 0 m2 = _ from e2)]
    simp only [lb_e]
    rw [bd_s (show fX12_seats_L190 FU (nZ n) 0 m3 = _ from e4), bd_s (show fX12_seats_L216 FU (nZ n) 0 0 m4 = _ from e5)]
    simp only [lb_e]
    rw [bd_s (show fX12_seats_L266 FU (nZ M) 0 m5 = _ from e7), Int32.sub_eq_add_neg]
    exact hX
  have res : ∀ i, i < nH g → Sq g c3 m4 st i := fun i hi => by
    by_cases z : ∃ j, j < n ∧ o j = i
    · obtain ⟨j, hj, ej⟩ := z
      subst ej
      have := SQR.2 j hj
      by_cases y : nbB g ow o j = true
      · exact Or.inl (this.1 y)
      · obtain ⟨s, q1, q2, q3, q4, q5, q6, q7, q8, q9, q10⟩ := this.2 (by simpa using y)
        exact Or.inr ⟨s / 32, s % 32, by rw [show 32 * (s / 32) + s % 32 = s by omega]; exact q3, q4, q5, q6, q7, by rw [q8, q9], Or.inr q9, q10.1, q10.2.1⟩
    · have := SQR.1 i (by omega) fun j hj ej => z ⟨j, hj, ej⟩
      exact Or.inl ⟨this.1, this.2 hi⟩
  have res2 : ∀ i, nH g ≤ i → i < 12 → gI c3 41 st i = -1 := fun i h1 h2 => (SQR.1 i h2 fun j hj ej => by have := (OR.1 j hj).2.2.1; omega).1
  by_cases hM0 : M = 0
  · have z1 : fX10_seatAll_L94 FU st low (nZ M + (-1)) c4 = some (nZ 0 + (-1), c4) := by
      rw [hM0, show FU = 99999 + 1 from rfl, fX10_seatAll_L94, br_p (by decide)]
    have z2 : fX10_seatByRank st low c4 = some ((), c4) := by
      unfold fX10_seatByRank
      rw [show FU = 99999 + 1 from rfl, fX10_seatByRank_L5, fc4.I 10 0 5 rfl, w5R, hM0, br_p (by decide)]
      rfl
    have z3 : fX12_seats_L299 FU (nZ M) (nZ M + (-1)) m6 = some (nZ 0 + (-1), m6) := by
      rw [hM0, show FU = 99999 + 1 from rfl, fX12_seats_L299, br_p (by decide)]
    have z4 : fX12_seats_L467 FU (nZ M) 0 0 m6 = some ((0, 0), m6) := by
      rw [hM0, show FU = 99999 + 1 from rfl, fX12_seats_L467, br_p (by decide)]
    refine ⟨c4, m6, pre11 _ (by rw [bd_s z1, bd_s z2]), pre12 _ (by rw [bd_s z3, bd_s z4]), ⟨fun i hi => ?_, fun i h1 h2 => ?_, ?_⟩, fcA.wk rfl, fmA.wk rfl, Oth_fr OtR (fc4.sm rfl)⟩
    · have := res i hi
      unfold Sq at this ⊢
      rw [fc4.A 41 st i rfl, fc4.A 42 st i rfl, fc4.A 43 st i rfl, fc4.A 44 st i rfl, fm56.A 99 0 i rfl, fm56.A 100 0 i rfl, fm56.A 101 0 i rfl, fm56.A 104 0 i rfl]
      exact this
    · rw [fc4.A 41 st i rfl]
      exact res2 i h1 h2
    · rw [fc4.I 8 st 4 rfl, s4R]
      exact congrArg nZ (cnt_ext fun i hi => by rw [fm56.A 99 0 i rfl])
  · -- the waiters
    have n0 : 0 < n := by
      have := cnt_le (nbB g ow o) n
      omega
    obtain ⟨wt, hwt⟩ : ∃ wt : Nat → Nat, ∀ k, (k < M → ∃ j, j < n ∧ nbB g ow o j = true ∧ cnt (nbB g ow o) j = k ∧ wt k = o j) ∧ wt k < nH g := by
      refine ⟨fun k => @dite _ (∃ j, j < n ∧ nbB g ow o j = true ∧ cnt (nbB g ow o) j = k) (Classical.propDecidable _) (fun h => o (Classical.choose h)) (fun _ => o 0), fun k => ?_⟩
      by_cases z : ∃ j, j < n ∧ nbB g ow o j = true ∧ cnt (nbB g ow o) j = k
      · have hc := Classical.choose_spec z
        simp only [dif_pos z]
        exact ⟨fun _ => ⟨Classical.choose z, hc.1, hc.2.1, hc.2.2, rfl⟩, (OR.1 _ hc.1).2.2.1⟩
      · simp only [dif_neg z]
        refine ⟨fun hk => absurd (cnt_surj (by rw [← eM]; exact hk)) z, (OR.1 0 n0).2.2.1⟩
    have hw : ∀ k, wt k < nH g := fun k => (hwt k).2
    have hinj : ∀ k l, k < M → l < M → wt k = wt l → k = l := fun k l hk hl e => by
      obtain ⟨j, j1, j2, j3, j4⟩ := (hwt k).1 hk
      obtain ⟨i, i1, i2, i3, i4⟩ := (hwt l).1 hl
      rw [j4, i4] at e
      have := OR.2 j i j1 i1 e
      rw [← j3, ← i3, this]
    have W50 : ∀ k, k < M → gI c4 50 0 k = nZ (wt k) := fun k hk => by
      obtain ⟨j, j1, j2, j3, j4⟩ := (hwt k).1 hk
      rw [fc4.A 50 0 k rfl, j4, ← j3]
      exact w50R j j1 j2
    have W103 : ∀ k, k < M → gI m6 103 0 k = nZ (wt k) := fun k hk => by
      obtain ⟨j, j1, j2, j3, j4⟩ := (hwt k).1 hk
      rw [fm6.A 103 0 k rfl, j4, ← j3]
      exact K5 j j1 j2
    have f4s1 : Sm fRC g c4 := b1.tr (fc4.sm rfl)
    have f4s2 : Sm fRP g c4 := b2.tr (fc4.sm rfl)
    obtain ⟨x1, c5, g1, fc5, K7⟩ := fa_L R P (ow := ow) (low := low) (st := st) hw hM FU M c4 f4s1 f4s2 K4 W50 (by rw [fc4.I 10 0 5 rfl]; exact w5R) (fun k' h1 h2 => by omega) (fun h => by omega) (Nat.le_refl _) (by show _ < 100000; omega)
    have Mo6 : Mo g ow low wt M m6 := ⟨b3.tr (fm56.sm rfl), b4.tr (fm56.sm rfl), LT_sm (fm56.sm rfl) (fm56.sm rfl) b5, by rw [fmA.I 12 0 17 rfl]; exact hL, fun t ht => by rw [fm56.A 105 0 t rfl]; exact (b7 t ht).2, W103⟩
    have S6' : ∀ t, t < 256 → ow t = -1 → gI m6 106 0 t = 0 := fun t ht hq => Classical.byContradiction fun y => by
      rw [fm56.A 106 0 t rfl] at y
      obtain ⟨j, hj, ej⟩ := S6R t ht y
      rw [hq] at ej
      have := (OR.1 j hj).2.2.1
      exact (m1_nZ (by omega)).mp ej
    obtain ⟨x2, m7, g2, fm7, K8⟩ := r299_L R P (ow := ow) (low := low) hw hM FU M m6 Mo6 S6' (fun k' h1 h2 s hs => by
      have : k' = M := by omega
      rw [this, K6, if_pos (by omega)]
      unfold DD
      rw [Dv_M]
      decide) (Nat.le_refl _) (by show _ < 100000; omega)
    have fm57 : Fr [103, 107] m4 m7 := fm56.tr (fm7.wk rfl)
    have CK : CiK g ow low st M wt c c5 m7 0 0 := by
      refine ⟨Bo_fr BR ((fc4.wk (W' := [48, 51]) rfl).tr (fc5.wk rfl)) fm57 rfl rfl rfl rfl rfl rfl, Mo_fr Mo6 fm7, fun k hk => by rw [fc5.A 50 0 k rfl]; exact W50 k hk, by rw [fc5.I 10 0 5 rfl, fc4.I 10 0 5 rfl]; exact w5R, fun s hs => Rch_e (fc5.A 48 0 s rfl) (K4 s hs), fun k' h1 h2 => ?_, K8, fun i hi => ?_, fun i h1 h2 => ?_, fun k' h1 h2 => ?_, fun t h1 h2 h3 => by rw [fm7.A 106 0 t rfl]; exact S6' t h2 h3, ?_, Oth_fr (Oth_fr OtR (fc4.sm rfl)) (fc5.sm rfl)⟩
      · by_cases z : k' = M
        · rw [z]
          exact (K7 0 h2).2
        · exact (K7 k' (by omega)).1
      · have := res i hi
        unfold Sq at this ⊢
        rw [fc5.A 41 st i rfl, fc5.A 42 st i rfl, fc5.A 43 st i rfl, fc5.A 44 st i rfl, fc4.A 41 st i rfl, fc4.A 42 st i rfl, fc4.A 43 st i rfl, fc4.A 44 st i rfl, fm57.A 99 0 i rfl, fm57.A 100 0 i rfl, fm57.A 101 0 i rfl, fm57.A 104 0 i rfl]
        exact this
      · rw [fc5.A 41 st i rfl, fc4.A 41 st i rfl]
        exact res2 i h1 h2
      · obtain ⟨j, j1, j2, j3, j4⟩ := (hwt k').1 h2
        rw [fc5.A 41 st _ rfl, fc4.A 41 st _ rfl, fm57.A 99 0 _ rfl, j4]
        exact (SQR.2 j j1).1 j2
      · rw [fc5.I 8 st 4 rfl, fc4.I 8 st 4 rfl, s4R]
        exact congrArg nZ (cnt_ext fun i hi => by rw [fm57.A 99 0 i rfl])
    obtain ⟨x3, c6, x4, m8, a', g3, g4, CK', fc6, fm8⟩ := rk_L R P hw hinj hM FU 0 0 c5 m7 (by omega) (by show _ < 100000; omega) (by omega) CK
    obtain ⟨-, -, -, -, -, -, -, SQ, S12, -, -, s4', Ot'⟩ := CK'
    refine ⟨c6, m8, pre11 _ ?_, pre12 _ ?_, ⟨SQ, S12, s4'⟩, ((fcA.wk rfl).tr (fc5.wk rfl)).tr (fc6.wk rfl), ((fmA.wk rfl).tr (fm7.wk rfl)).tr (fm8.wk rfl), Ot'⟩
    · rw [bd_s g1]
      unfold fX10_seatByRank
      rw [bd_s (show fX10_seatByRank_L5 FU st low 0 0 c5 = _ from g3)]
      rfl
    · rw [bd_s g2, bd_s (show fX12_seats_L467 FU (nZ M) 0 0 m7 = _ from g4)]
