/-! ===== level 2: gone ===== -/
theorem Fr.sy {W : List Nat} {a b : Hp} (p : Fr W a b) : Fr W b a := ⟨fun k n i z => ⟨(p.1 k n i z).1.symm, (p.1 k n i z).2.1.symm, (p.1 k n i z).2.2.symm⟩, fun k z => (p.2.1 k z).symm, fun z => ⟨(p.2.2 z).1.symm, (p.2.2 z).2.symm⟩⟩
theorem cnt_mono (p : Nat → Bool) {a b : Nat} (h : a ≤ b) : cnt p a ≤ cnt p b := by
  induction b with
  | zero =>
    have : a = 0 := by omega
    rw [this]
    exact Nat.le_refl _
  | succ b ih =>
    by_cases z : a = b + 1
    · rw [z]
      exact Nat.le_refl _
    · have := ih (by omega)
      rw [cnt]
      omega
/-- still held by household i -/
abbrev heldP (m : Hp) (i y r : Nat) : Prop := gI m 70 0 r ≠ 1 ∧ gI m 71 0 r = nZ i ∧ (y : Int) ≤ (gI m 77 0 r).toInt
def passB (m : Hp) (i y : Nat) (a2 : Int32) (r : Nat) : Bool := decide (heldP m i y r ∧ gI m 81 0 r ≠ 0 ∧ a2 ≠ -1)
theorem still_t {H : Nat} {yy : Int} {B : Nat} {u : Nat → Nat} {c m : Hp} (T : RR H yy B u c m) {r i y : Nat} (hr : r < nR m) (hy : y ≤ 199) : fX5_isStillHeldBy r (nZ i) (nZ y) c = (if heldP m i y r then 1 else 0) := by
  have T' := T
  obtain ⟨r1, r2, r3, r4, r5⟩ := T'
  obtain ⟨b1, b2, b3, b4, b5, b6, b7, b8, b9, -⟩ := r5 r hr
  unfold fX5_isStillHeldBy heldP
  rw [b2, b3, b9]
  by_cases z1 : gI m 70 0 r = 1
  · rw [br_p z1, if_neg fun w => w.1 z1]
  · rw [br_n z1]
    by_cases z2 : gI m 71 0 r = nZ i
    · rw [br_p z2]
      by_cases z3 : gI m 77 0 r < nZ y
      · rw [br_p z3]
        rw [i32_lt, nZ_t (by omega)] at z3
        rw [if_neg (by omega)]
      · rw [br_n z3]
        rw [i32_lt, nZ_t (by omega)] at z3
        rw [if_pos ⟨z1, z2, by omega⟩]
    · rw [br_n z2, if_neg fun w => z2 w.2.1]
theorem mx_max {a b : Int32} {y : Nat} (hy : y ≤ 199) (h : b = a ∨ (a.toInt ≤ b.toInt ∧ b.toInt ≤ y)) : mxI a (nZ y) = mxI b (nZ y) ∧ (mxI a (nZ y) = a ∨ (a.toInt ≤ (mxI a (nZ y)).toInt ∧ (mxI a (nZ y)).toInt ≤ y)) := by
  have t := nZ_t (by omega : y < 2147483648)
  refine ⟨?_, ?_⟩
  · rcases h with rfl | h
    · rfl
    · unfold mxI
      by_cases z1 : a < nZ y
      · rw [if_pos z1]
        by_cases z2 : b < nZ y
        · rw [if_pos z2]
        · rw [if_neg z2]
          rw [i32_lt, t] at z2
          rw [i32_eq, t]
          omega
      · rw [if_neg z1]
        rw [i32_lt, t] at z1
        by_cases z2 : b < nZ y
        · rw [i32_lt, t] at z2
          omega
        · rw [if_neg z2]
          rw [i32_lt, t] at z2
          rw [i32_eq]
          omega
  · unfold mxI
    by_cases z1 : a < nZ y
    · rw [if_pos z1]
      rw [i32_lt, t] at z1
      rw [t]
      exact Or.inr ⟨by omega, by omega⟩
    · rw [if_neg z1]
      exact Or.inl rfl
def wGC : List Nat := [505, 999, 32, 4001, 6000, 6001, 6002, 6003, 6004, 6005, 6006, 6007, 6008, 6009, 6010, 6011, 6012]
theorem gone_L {H B : Nat} {u : Nat → Nat} {i y had : Nat} {a2 a4 : Int32} {I : Nat → Bool} (hy : y ≤ 199) (hi : i < 12) (hcap : had + cnt I had ≤ 100) (ha : a2 = -1 ∨ (0 ≤ a2.toInt ∧ a2.toInt < H)) : ∀ (n j : Nat) (c m : Hp), j ≤ had → had - j < n → RR H y B u c m → nR m = had + cnt I j → gI m 12 0 5 = nZ y → (∀ r, j ≤ r → r < had → passB m i y a2 r = I r) → ∃ v c' v' m', fX3_passRights_L9 n (nZ i) a2 (nZ y) (nZ had) (nZ j) c = some (v, c') ∧ fX12_gone_L136 n (nZ i) a2 (nZ had) a4 (nZ j) m = some (v', m') ∧ RR H y B u c' m' ∧ Fr wGC c c' ∧ Fr wNM m m' ∧ nR m' = had + cnt I had ∧ gC c' + cnt I j = gC c + cnt I had ∧ gS c' + 13 * cnt I j = gS c + 13 * cnt I had := by
  intro n
  induction n with
  | zero => intro j c m _ q; omega
  | succ n ih =>
    intro j c m hj hn T eN ey hI
    have T' := T
    obtain ⟨r1, r2, r3, r4, r5⟩ := T'
    rw [fX3_passRights_L9, fX12_gone_L136]
    simp (disch := omega) only [lb_e, nZ_le, nZ_suc, nZ_ib, nZ_ix]
    by_cases q : j = had
    · subst q
      rw [br_p (by omega), br_p (by omega)]
      exact ⟨_, _, _, _, rfl, rfl, T, Fr.rf _ _, Fr.rf _ _, eN, rfl, rfl⟩
    · have hmon := cnt_mono I (a := j + 1) (b := had) (by omega)
      have hj' : j < nR m := by omega
      have R := r5 j hj'
      obtain ⟨b1, b2, b3, b4, b5, b6, b7, b8, b9, b10, b11, b12, b13, b14, b15, b16, b17, b18, b19, b20⟩ := R
      rw [br_n (by omega), br_n (by omega), bd_s (find3_t T hj'), mt_s rfl, still_t T hj' hy, gd_p (by omega)]
      have hIj := hI j (Nat.le_refl _) (by omega)
      by_cases hh : heldP m i y j
      · rw [if_pos hh, br_n (by decide), br_n hh.1, gd_p (by omega), br_p hh.2.1, gd_p (by omega), ey, br_p (by rw [i32_le, nZ_t (by omega)]; exact hh.2.2), gd_p (by omega)]
        obtain ⟨c1, ec1⟩ : ∃ z, z = sI (sI c 5 j 7 (nZ y - 1)) 5 j 12 (nZ y) := ⟨_, rfl⟩
        have fc1 : Fr [6007, 6012] c c1 := by rw [ec1]; exact (Fr_I _ _ _ _ _ rfl).tr (Fr_I _ _ _ _ _ rfl)
        have eE : fX5_endAhead j (nZ y) c = some ((), c1) := by
          unfold fX5_endAhead
          simp only [lb_e, ← ec1]
        obtain ⟨m1', em1⟩ : ∃ z, z = sI (sI m 77 0 j (nZ y - 1)) 79 0 j (nZ y) := ⟨_, rfl⟩
        have fm1 : Fr [77, 79] m m1' := by rw [em1]; exact (Fr_I _ _ _ _ _ rfl).tr (Fr_I _ _ _ _ _ rfl)
        obtain ⟨T1, eN1⟩ := RR_end T hj' hy hh.2.2 ec1 em1
        have pE : ∀ r, j + 1 ≤ r → r < had → passB m1' i y a2 r = I r := fun r h1 h2 => by
          rw [← hI r (by omega) h2]
          unfold passB heldP
          rw [fm1.A 70 0 r rfl, fm1.A 71 0 r rfl, fm1.A 81 0 r rfl, em1, gI_o (by decide), gI_a, if_neg (by omega)]
        rw [bd_s eE, fc1.I 5 j 9 rfl, b11]
        have stp : fX12_stops (nZ j) m = some ((), m1') := by
          rw [em1]
          exact stops_t (by omega) ey
        have goOn : I j = false → ∃ v c' v' m', fX3_passRights_L9 n (nZ i) a2 (nZ y) (nZ had) (nZ (j + 1)) c1 = some (v, c') ∧ (bd (fX12_stops (nZ j) m) fun r31 h32 => fX12_gone_L136 n (nZ i) a2 (nZ had) a4 (nZ (j + 1)) h32) = some (v', m') ∧ RR H y B u c' m' ∧ Fr wGC c c' ∧ Fr wNM m m' ∧ nR m' = had + cnt I had ∧ gC c' + cnt I j = gC c + cnt I had ∧ gS c' + 13 * cnt I j = gS c + 13 * cnt I had := by
          intro hf
          have ec := cnt_f (p := I) (n := j) (by rw [hf]; decide)
          obtain ⟨v, c', v', m', e1, e2, e3, e4, e5, e6, e7, e8⟩ := ih (j + 1) c1 m1' (by omega) (by omega) T1 (by rw [eN1, eN, ec]) (by rw [fm1.I 12 0 5 rfl]; exact ey) pE
          rw [ec, (fc1.2.2 rfl).1] at e7
          rw [ec, (fc1.2.2 rfl).2] at e8
          refine ⟨v, c', v', m', e1, ?_, e3, (fc1.wk rfl).tr e4, (fm1.wk rfl).tr e5, e6, e7, e8⟩
          rw [bd_s stp]
          exact e2
        by_cases z1 : gI m 81 0 j = 0
        · rw [br_p z1, br_p z1]
          refine goOn ?_
          rw [← hIj]
          unfold passB
          rw [decide_eq_false_iff_not]
          exact fun w => w.2.1 z1
        · rw [br_n z1, br_n z1]
          by_cases z2 : a2 = -1
          · rw [br_p z2, br_p z2]
            refine goOn ?_
            rw [← hIj]
            unfold passB
            rw [decide_eq_false_iff_not]
            exact fun w => w.2.2 z2
          · rw [br_n z2, br_n z2]
            have hIt : I j = true := by
              rw [← hIj]
              unfold passB
              rw [decide_eq_true_iff]
              exact ⟨hh, z1, z2⟩
            have ec := cnt_t hIt
            have hN : nR m < 100 := by omega
            simp only [gd_p (by omega : j < 100)]
            obtain ⟨ma, ema, M⟩ := adds_t (m := m) hN r1 (gI m 70 0 j) a2 (gI m 72 0 j) (gI m 73 0 j) (gI m 74 0 j) (gI m 75 0 j) (mxI (gI m 76 0 j) (nZ y)) (gI m 77 0 j) 1 (gJ m 82 0 j) (Or.inr rfl)
            rw [bd_s ema]
            obtain ⟨mb, emb⟩ : ∃ z, z = sI (sI ma 77 0 j (nZ y - 1)) 79 0 j (nZ y) := ⟨_, rfl⟩
            have fmb : Fr [77, 79] ma mb := by rw [emb]; exact (Fr_I _ _ _ _ _ rfl).tr (Fr_I _ _ _ _ _ rfl)
            have stp2 : fX12_stops (nZ j) ma = some ((), mb) := by
              rw [emb]
              exact stops_t (by omega) (by rw [M.1.I 12 0 5 rfl]; exact ey)
            rw [bd_s stp2]
            obtain ⟨m0, m9, m70, m71, m72, m73, m74, m75, m76, m77, m78, m79, m80, m81, m82⟩ := M
            have nj : ¬ j = nR m := by omega
            have M1 : NewM (nR m1') m1' mb (gI m 70 0 j) a2 (gI m 72 0 j) (gI m 73 0 j) (gI m 74 0 j) (gI m 75 0 j) (mxI (gI m 76 0 j) (nZ y)) (gI m 77 0 j) (nZ y) 1 (gJ m 82 0 j) := by
              rw [eN1]
              refine ⟨((fm1.sy.wk rfl).tr m0).tr (fmb.wk rfl), by rw [fmb.I 12 0 9 rfl]; exact m9, ?_, ?_, ?_, ?_, ?_, ?_, ?_, ?_, ?_, ?_, ?_, ?_, ?_⟩
              · intro r; rw [fmb.A 70 0 r rfl, m70, fm1.A 70 0 r rfl]
              · intro r; rw [fmb.A 71 0 r rfl, m71, fm1.A 71 0 r rfl]
              · intro r; rw [fmb.A 72 0 r rfl, m72, fm1.A 72 0 r rfl]
              · intro r; rw [fmb.A 73 0 r rfl, m73, fm1.A 73 0 r rfl]
              · intro r; rw [fmb.A 74 0 r rfl, m74, fm1.A 74 0 r rfl]
              · intro r; rw [fmb.A 75 0 r rfl, m75, fm1.A 75 0 r rfl]
              · intro r; rw [fmb.A 76 0 r rfl, m76, fm1.A 76 0 r rfl]
              · intro r
                rw [emb, gI_o (by decide), gI_a, m77, em1, gI_o (by decide), gI_a]
                by_cases w : r = j
                · rw [if_pos w, if_neg (by omega), if_pos w]
                · rw [if_neg w, if_neg w]
              · intro r; rw [fmb.A 78 0 r rfl, m78, fm1.A 78 0 r rfl]
              · intro r
                rw [emb, gI_a, gI_o (by decide), m79, em1, gI_a, gI_o (by decide)]
                by_cases w : r = j
                · rw [if_pos w, if_neg (by omega), if_pos w]
                · rw [if_neg w, if_neg w]
              · intro r; rw [fmb.A 80 0 r rfl, m80, fm1.A 80 0 r rfl, ey]
              · intro r; rw [fmb.A 81 0 r rfl, m81, fm1.A 81 0 r rfl]
              · intro r; rw [fmb.AJ 82 0 r rfl, m82, fm1.AJ 82 0 r rfl]
            have mm := mx_max hy b20
            obtain ⟨c2, ec2⟩ : ∃ z, z = sI (sR (sI (sI (sI (sI (sI (sI (sI (sI (sI (sI (sI (sI (sI (nw c1 5 13) 5 (nR m) 12 200) 5 (nR m) 0 (gI m 70 0 j)) 5 (nR m) 1 a2) 5 (nR m) 2 (gI m 72 0 j)) 5 (nR m) 3 (gI m 73 0 j)) 5 (nR m) 4 (gI m 74 0 j)) 5 (nR m) 5 (gI m 75 0 j)) 5 (nR m) 6 (mxI (gI m 76 0 j) (nZ y))) 5 (nR m) 7 (gI m 77 0 j)) 5 (nR m) 11 (gI m 77 0 j)) 5 (nR m) 8 (nZ y)) 5 (nR m) 9 1) 5 (nR m) 10 (gI c 5 j 10)) 32 0 (nR m) (some (nR m))) 3 0 1 (nZ (nR m + 1)) := ⟨_, rfl⟩
            have e31' : gI c1 3 0 1 = nZ (nR m) := by rw [fc1.I 3 0 1 rfl]; exact r2
            have e5N : gN c1 5 = nR m := by rw [fc1.N 5 rfl]; exact r4
            have C := newC_t hN e31' e5N _ _ _ _ _ _ _ _ _ _ _ ec2
            rw [← eN1] at C
            have hN1 : nR m1' < 100 := by omega
            obtain ⟨K, eK⟩ := RR_new T1 hN1 C M1 b12 b15 (Or.inr rfl) (fun w => absurd w hh.1) (fun _ => by rcases ha with w | w; exact absurd w z2; exact w) b19 (by rw [← mm.1]; exact mm.2)
            have eIn : fX3_inherited j a2 (gI c 5 j 7) (nZ y) c1 = some (nR m, sI (sI (sI (sI (sI (sI (sI (sI (sI (sI (sI (sI (sI (nw c1 5 13) 5 (nR m) 12 200) 5 (nR m) 0 (gI m 70 0 j)) 5 (nR m) 1 a2) 5 (nR m) 2 (gI m 72 0 j)) 5 (nR m) 3 (gI m 73 0 j)) 5 (nR m) 4 (gI m 74 0 j)) 5 (nR m) 5 (gI m 75 0 j)) 5 (nR m) 6 (mxI (gI m 76 0 j) (nZ y))) 5 (nR m) 7 (gI m 77 0 j)) 5 (nR m) 11 (gI m 77 0 j)) 5 (nR m) 8 (nZ y)) 5 (nR m) 9 1) 5 (nR m) 10 (gI c 5 j 10)) := by
              unfold fX3_inherited fX5_init fX5_setYears
              have rd : ∀ k, gI (nw c1 5 13) 5 j k = gI c1 5 j k := fun k => by rw [gI_nw, if_neg fun w => nj (by rw [e5N] at w; exact w.2)]
              simp only [lb_e, bd_s rfl, e5N, gI_r nj, rd]
              rw [fc1.I 5 j 0 rfl, fc1.I 5 j 2 rfl, fc1.I 5 j 3 rfl, fc1.I 5 j 4 rfl, fc1.I 5 j 5 rfl, fc1.I 5 j 10 rfl, b2, b4, b5, b6, b7, b9, mm.1]
            rw [bd_s eIn, bd_s (enter_t hN (by simp (disch := decide) only [gI_o]; rw [gI_nwo (by decide)]; exact e31')), ← ec2]
            have Cf : Fr wNC c1 c2 := C.1
            have Mf : Fr wNM m1' mb := M1.1
            obtain ⟨v, c', v', m', e1, e2, e3, e4, e5, e6, e7, e8⟩ := ih (j + 1) c2 mb (by omega) (by omega) K (by rw [eK, eN1, eN, ec]; omega) (by rw [Mf.I 12 0 5 rfl, fm1.I 12 0 5 rfl]; exact ey) (fun r h1 h2 => by
              rw [← pE r h1 h2]
              obtain ⟨-, -, n70, n71, n72, n73, n74, n75, n76, n77, n78, n79, n80, n81, n82⟩ := M1
              unfold passB heldP
              rw [n70, n71, n77, n81, if_neg (by omega), if_neg (by omega), if_neg (by omega), if_neg (by omega)])
            have g1 := C.2.2.2.2.2.2.1
            have g2 := C.2.2.2.2.2.2.2
            rw [(fc1.2.2 rfl).1] at g1
            rw [(fc1.2.2 rfl).2] at g2
            rw [ec] at e7 e8
            exact ⟨v, c', v', m', e1, e2, e3, ((fc1.wk rfl).tr (Cf.wk rfl)).tr e4, ((fm1.wk rfl).tr Mf).tr e5, e6, by omega, by omega⟩
      · have hf : I j = false := by
          rw [← hIj]
          unfold passB
          rw [decide_eq_false_iff_not]
          exact fun w => hh w.1
        have ec := cnt_f (p := I) (n := j) (by rw [hf]; decide)
        have nx := ih (j + 1) c m (by omega) (by omega) T (by rw [eN, ec]) ey (fun r h1 h2 => hI r (by omega) h2)
        rw [ec] at nx
        rw [if_neg hh, br_p rfl]
        simp only [gd_p (by omega : j < 100)]
        by_cases z1 : gI m 70 0 j = 1
        · rw [br_p z1]
          exact nx
        · rw [br_n z1]
          by_cases z2 : gI m 71 0 j = nZ i
          · rw [br_p z2, ey, br_n (by rw [i32_le, nZ_t (by omega)]; exact fun w => hh ⟨z1, z2, w⟩)]
            exact nx
          · rw [br_n z2]
            exact nx
theorem herit_L {H : Nat} {yy : Int} {B : Nat} {u : Nat → Nat} {c m : Hp} (T : RR H yy B u c m) {i y : Nat} {a2 : Int32} (hy : y ≤ 199) (h2 : a2 ≠ -1) : ∀ n j, j ≤ nR m → nR m - j < n → ∃ w, fX3_heritableOf_L5 n (nZ i) (nZ y) (nZ (cnt (passB m i y a2) j)) (nZ j) c = some ((nZ (cnt (passB m i y a2) (nR m)), w), c) := by
  have T' := T
  obtain ⟨r1, r2, r3, r4, r5⟩ := T'
  intro n
  induction n with
  | zero => intro j _ q; omega
  | succ n ih =>
    intro j hj hn
    rw [fX3_heritableOf_L5, r2]
    simp (disch := omega) only [lb_e, nZ_le, nZ_suc, nZ_ib, nZ_ix]
    by_cases q : j = nR m
    · subst q
      rw [br_p (by omega)]
      exact ⟨_, rfl⟩
    · have hj' : j < nR m := by omega
      have nx := ih (j + 1) (by omega) (by omega)
      obtain ⟨b1, b2, b3, b4, b5, b6, b7, b8, b9, b10, b11, -⟩ := r5 j hj'
      rw [br_n (by omega), bd_s (find3_t T hj'), mt_s rfl, still_t T hj' hy]
      by_cases hh : heldP m i y j
      · rw [if_pos hh, br_n (by decide), b11]
        by_cases z : gI m 81 0 j = 0
        · rw [br_p z]
          rw [cnt_f (by unfold passB; rw [decide_eq_true_iff]; exact fun w => w.2.1 z)] at nx
          exact nx
        · rw [br_n z]
          rw [cnt_t (by unfold passB; rw [decide_eq_true_iff]; exact ⟨hh, z, h2⟩)] at nx
          exact nx
      · rw [if_neg hh, br_p rfl]
        rw [cnt_f (by unfold passB; rw [decide_eq_true_iff]; exact fun w => hh w.1)] at nx
        exact nx
theorem g45_L {m : Hp} {i y : Nat} {a2 : Int32} (hy : y ≤ 199) (h3 : nR m ≤ 100) (ey : gI m 12 0 5 = nZ y) : ∀ n j, j ≤ nR m → nR m - j < n → ∃ w, fX12_gone_L45 n (nZ i) a2 (nZ (nR m)) (nZ (cnt (passB m i y a2) j)) (nZ j) m = some ((nZ (cnt (passB m i y a2) (nR m)), w), m) := by
  intro n
  induction n with
  | zero => intro j _ q; omega
  | succ n ih =>
    intro j hj hn
    rw [fX12_gone_L45, ey]
    simp (disch := omega) only [lb_e, nZ_le, nZ_suc, nZ_ib, nZ_ix, nZ_p0]
    by_cases q : j = nR m
    · subst q
      rw [br_p (by omega)]
      exact ⟨_, rfl⟩
    · have hj' : j < nR m := by omega
      have nx := ih (j + 1) (by omega) (by omega)
      rw [br_n (by omega)]
      simp only [gd_p (by omega : j < 100)]
      by_cases z1 : gI m 70 0 j = 1
      · rw [br_p z1]
        rw [cnt_f (by unfold passB; rw [decide_eq_true_iff]; exact fun w => w.1.1 z1)] at nx
        exact nx
      · rw [br_n z1]
        by_cases z2 : gI m 71 0 j = nZ i
        · rw [br_p z2]
          by_cases z3 : gI m 77 0 j < nZ y
          · rw [br_p z3]
            rw [i32_lt, nZ_t (by omega)] at z3
            rw [cnt_f (by unfold passB; rw [decide_eq_true_iff]; exact fun w => by have := w.1.2.2; omega)] at nx
            exact nx
          · rw [br_n z3]
            rw [i32_lt, nZ_t (by omega)] at z3
            by_cases z4 : gI m 81 0 j = 0
            · rw [br_p z4]
              rw [cnt_f (by unfold passB; rw [decide_eq_true_iff]; exact fun w => w.2.1 z4)] at nx
              exact nx
            · rw [br_n z4]
              by_cases z5 : a2 = -1
              · rw [br_p z5]
                rw [cnt_f (by unfold passB; rw [decide_eq_true_iff]; exact fun w => w.2.2 z5)] at nx
                exact nx
              · rw [br_n z5]
                rw [cnt_t (by unfold passB; rw [decide_eq_true_iff]; exact ⟨⟨z1, z2, by omega⟩, z4, z5⟩)] at nx
                exact nx
        · rw [br_n z2]
          rw [cnt_f (by unfold passB; rw [decide_eq_true_iff]; exact fun w => z2 w.1.2.1)] at nx
          exact nx
theorem le8 {j : Nat} (h : j < 2147483648) : ((8 : Int32) ≤ nZ j) ↔ 8 ≤ j := nZ_le (a := 8) (by decide) h
theorem plots_L {H i y : Nat} {a2 a4 : Int32} (hy : y ≤ 199) (ha : -1 ≤ a2.toInt ∧ a2.toInt < H) : ∀ (n j : Nat) (c m : Hp), j ≤ 8 → 8 - j < n → RPl H c m → gI m 12 0 5 = nZ y → ∃ v c' v' m', fX3_passPlots_L3 n (nZ i) a2 (nZ y) (nZ j) c = some (v, c') ∧ fX12_gone_L286 n (nZ i) a2 a4 (nZ j) m = some (v', m') ∧ RPl H c' m' ∧ Fr [33] c c' ∧ Fr [69] m m' := by
  intro n
  induction n with
  | zero => intro j c m _ q; omega
  | succ n ih =>
    intro j c m hj hn L ey
    rw [fX3_passPlots_L3, fX12_gone_L286, ey]
    simp (disch := omega) only [lb_e, le8, nZ_suc, nZ_x200, nZ_add, nZ_ib, nZ_ix]
    by_cases q : j = 8
    · subst q
      rw [br_p (by omega), br_p (by omega)]
      exact ⟨_, _, _, _, rfl, rfl, L, Fr.rf _ _, Fr.rf _ _⟩
    · rw [br_n (by omega), br_n (by omega), bd_s (plotOwner_t (by omega) hy), gd_p (by omega), (L (200 * j + y) (by omega)).1]
      by_cases z : gI m 69 0 (200 * j + y) = nZ i
      · rw [br_p z, br_p z, bd_s (givePlot_t (by omega) hy)]
        obtain ⟨v0, m2, em, fm, k⟩ := owns_t (w := a2) (p := j) (by omega) hy ey
        rw [bd_s em]
        obtain ⟨v, c', v', m', e1, e2, e3, e4, e5⟩ := ih (j + 1) _ m2 (by omega) (by omega) (RPl_give L (by omega) hy ha k) (by rw [fm.I 12 0 5 rfl]; exact ey)
        exact ⟨v, c', v', m', e1, e2, e3, (Fr_flI _ _ _ _ _ _ (by decide) rfl).tr e4, fm.tr e5⟩
      · rw [br_n z, br_n z]
        exact ih (j + 1) c m (by omega) (by omega) L ey
theorem drop_L {i l : Nat} (hi : i < 12) (hl : l ≤ 8) : ∀ (n j : Nat) (c : Hp), gI c 0 0 0 = nZ l → j ≤ l → l - j < n → Wp (fX0_dropOffersOf_L2 n (nZ i) (nZ j) c) (fun _ c' => Fr [17] c c' ∧ ∀ l' i', i' < 12 → gI c' 17 0 (12 * l' + i') = if i' = i ∧ j ≤ l' ∧ l' < l then 0 else gI c 17 0 (12 * l' + i')) := by
  intro n
  induction n with
  | zero => intro j c _ _ q; omega
  | succ n ih =>
    intro j c e hj hn
    rw [fX0_dropOffersOf_L2, e]
    simp (disch := omega) only [nZ_le, nZ_suc, lb_e]
    by_cases q : j = l
    · rw [br_p (by omega), wp_some]
      refine ⟨Fr.rf _ _, fun l' i' _ => ?_⟩
      rw [if_neg (by omega)]
    · rw [br_n (by omega)]
      unfold fX0_noteOffer
      simp (disch := omega) only [nZ_12x, nZ_add, nZ_ib, nZ_ix, lb_e]
      rw [gd_p (by omega), bd_s rfl]
      refine wp_mono (ih (j + 1) _ (by rw [gI_o (by decide)]; exact e) (by omega) (by omega)) fun _ c' k => ⟨(Fr_I _ _ _ _ _ rfl).tr k.1, fun l' i' hi' => ?_⟩
      rw [k.2 l' i' hi', gI_a]
      by_cases z : i' = i ∧ l' = j
      · rw [if_neg (by omega), if_pos (by omega), if_pos (by omega)]
      · by_cases z2 : i' = i ∧ j + 1 ≤ l' ∧ l' < l
        · rw [if_pos z2, if_pos (by omega)]
        · rw [if_neg z2, if_neg (by omega), if_neg (by omega)]
