/-! ===== level 2: write, paste ===== -/
theorem cut_eq (a : Int64) (w : Int32) (h h' : Hp) : fX7_cut a w h = fX12_cut w a h' := rfl
theorem n6 : (-6 : Int32) = -6 := rfl
theorem s_write (a1 a2 : Int32) (a3 : Int64) (h : Hp) (R : Rr h) : ∃ (r : Int32) (h2 h3 : Hp), fX11_write a1 a2 a3 h = some (r, h2) ∧ fX12_write a1 a2 a3 h2 = some (r, h3) ∧ Eqx w_rows h h2 ∧ Eqx w_rows h h3 ∧ Rr h3 := by
  by_cases q : 0 ≤ a1.toInt ∧ a1.toInt ≤ 3
  · rcases R.cs q with ⟨r1, r2⟩ | ⟨r1, r2, r3, r4, r5, r6⟩
    · refine refuse (f := fX11_write a1 a2 a3) (g := fX12_write a1 a2 a3) (r := -5) (by decide) ?_ ?_ (R.thrown 0)
      · unfold fX11_write
        simp only [br, p7t q, if_false]
        rw [bd_s (filled7 q h), if_pos r1]
        rfl
      · unfold fX12_write
        simp only [br, lb_e, p12t q, if_false, gd_p (ib4 q)]
        rw [if_neg (by simpa [gI_sI] using r2)]
    · have es : (gI h 55 0 (ix a1) - 1).toInt = (gI h 39 0 (ix a1)).toInt - 1 := by rw [← r3, sub32 (by rw [o1]; omega) (by rw [o1]; omega), o1]
      by_cases q2 : 0 ≤ a2.toInt ∧ a2.toInt < (gI h 39 0 (ix a1)).toInt
      · have e7 := at60 q ⟨q2.1, by omega⟩
        have g1 : ib (a1 * 60 + a2) 240 := ⟨by rw [e7.2]; omega, by rw [e7.2]; show _ < ((240 : Nat) : Int); omega⟩
        have g2 : ib ((60 : Int32) * a1 + a2) 240 := ⟨by rw [e7.1]; omega, by rw [e7.1]; show _ < ((240 : Nat) : Int); omega⟩
        have ei : ix ((60 : Int32) * a1 + a2) = ix (a1 * 60 + a2) := by unfold ix; rw [e7.1, e7.2]
        have hk : ix (a1 * 60 + a2) < 240 := by have := g1.2; have := g1.1; unfold ix; omega
        refine ⟨0, sJ h 38 0 (ix (a1 * 60 + a2)) (fX7_cut a3 (gI h 40 0 (ix a1)) h), sJ (sI (sJ h 38 0 (ix (a1 * 60 + a2)) (fX7_cut a3 (gI h 40 0 (ix a1)) h)) 12 0 0 0) 56 0 (ix (a1 * 60 + a2)) (fX7_cut a3 (gI h 40 0 (ix a1)) h), ?_, ?_, Eqx_J _ _ _ _ _ (by simp [w_rows]), ?_, ?_⟩
        · unfold fX11_write fX7_put
          simp only [br, lb_e, p7t q, if_false, gd_p (ib4 q), gd_p g1]
          rw [bd_s (filled7 q h), if_neg r1, if_neg (by decide), if_neg (fun z => by have := i32_lt.mp z; rw [z0] at this; omega), if_pos (i32_lt.mpr q2.2)]
          rfl
        · unfold fX12_write
          simp only [br, lb_e, p12t q, if_false, gd_p (ib4 q), gd_p g2, gI_sI, gI_sJ]
          simp only [show ¬ (54 = 12) from by decide, show ¬ (55 = 12) from by decide, false_and, if_false]
          rw [if_pos r2, if_neg (fun z => (in_0 _ _ _ _).mp z (by rw [to64, z0J, to64, es]; omega)), ei, ← r4]
          rfl
        · exact ((Eqx_J _ _ _ _ _ (by simp [w_rows])).tr (Eqx_I _ _ _ _ _ (by simp [w_rows]))).tr (Eqx_J _ _ _ _ _ (by simp [w_rows]))
        · refine ⟨fun p hp => ?_, fun j hj => ?_⟩
          · have := R.1 p hp
            simpa [gI_sI, gI_sJ] using this
          · have := R.2 j hj
            simp only [gJ_sJ, gJ_sI]
            by_cases e : j = ix (a1 * 60 + a2)
            · simp [e]
            · simp [e, this]
      · refine refuse (f := fX11_write a1 a2 a3) (g := fX12_write a1 a2 a3) (r := -6) (by decide) ?_ ?_ (R.thrown 0)
        · unfold fX11_write fX7_put
          simp only [br, lb_e, p7t q, if_false, gd_p (ib4 q)]
          rw [bd_s (filled7 q h), if_neg r1, if_neg (by decide)]
          by_cases q3 : a2 < 0
          · rw [if_pos q3]; rfl
          · rw [if_neg q3, if_neg]
            · rfl
            · intro z
              have z1 := i32_lt.mp z
              have z2 : ¬ a2.toInt < 0 := fun y => q3 (i32_lt.mpr (by rw [z0]; exact y))
              exact q2 ⟨by omega, z1⟩
        · unfold fX12_write
          simp only [br, lb_e, p12t q, if_false, gd_p (ib4 q), gI_sI]
          simp only [show ¬ (54 = 12) from by decide, show ¬ (55 = 12) from by decide, false_and, if_false]
          rw [if_pos r2, if_pos ((in_0 _ _ _ _).mpr (by rw [to64, z0J, to64, es]; omega))]
  · refine refuse (f := fX11_write a1 a2 a3) (g := fX12_write a1 a2 a3) (r := -2) (by decide) ?_ ?_ (R.thrown 0)
    · unfold fX11_write
      simp only [br, p7f q, if_true]
    · unfold fX12_write
      simp only [br, lb_e, p12f q, if_true]
/-- a stretch of longs is written -/
def stJ (h : Hp) (k n a e : Nat) (f : Nat → Int64) : Hp := (h.1, fun x y c => if x = k ∧ y = n ∧ a ≤ c ∧ c < e then f c else h.2.1 x y c, h.2.2)
theorem gJ_stJ (h : Hp) (k n x e : Nat) (f : Nat → Int64) (a b c : Nat) : gJ (stJ h k n x e f) a b c = if a = k ∧ b = n ∧ x ≤ c ∧ c < e then f c else gJ h a b c := rfl
theorem gI_stJ (h : Hp) (k n x e : Nat) (f : Nat → Int64) (a b c : Nat) : gI (stJ h k n x e f) a b c = gI h a b c := rfl
theorem Eqx_stJ {w : Nat → Nat → Bool} (h : Hp) (k n a e : Nat) (f : Nat → Int64) (hw : ∀ i, w k i = true) : Eqx w h (stJ h k n a e f) := ⟨fun _ _ _ _ => rfl, (fun x b c z => if_neg fun q => by rw [q.1, hw] at z; cases z), fun _ _ _ _ => rfl, fun _ => rfl, rfl, rfl⟩
theorem stJ_z (h : Hp) (k n a e : Nat) (f : Nat → Int64) (he : e ≤ a) : stJ h k n a e f = h := by
  unfold stJ
  refine Prod.ext rfl (Prod.ext ?_ rfl)
  funext x y c
  exact if_neg fun q => by omega
theorem stJ_s (h : Hp) (k n a e : Nat) (f g : Nat → Int64) (he : a < e) (hg : ∀ c, a < c → c < e → g c = f c) : stJ (sJ h k n a (f a)) k n (a + 1) e g = stJ h k n a e f := by
  unfold stJ sJ
  refine Prod.ext rfl (Prod.ext ?_ rfl)
  funext x y c
  dsimp only
  by_cases q1 : x = k ∧ y = n ∧ a + 1 ≤ c ∧ c < e
  · rw [if_pos q1, if_pos ⟨q1.1, q1.2.1, by omega, q1.2.2.2⟩, hg c (by omega) q1.2.2.2]
  · rw [if_neg q1]
    by_cases q2 : x = k ∧ y = n ∧ c = a
    · rw [if_pos q2, if_pos ⟨q2.1, q2.2.1, by omega, by omega⟩, q2.2.2]
    · rw [if_neg q2, if_neg]
      rintro ⟨r1, r2, r3, r4⟩
      by_cases q3 : c = a
      · exact q2 ⟨r1, r2, q3⟩
      · exact q1 ⟨r1, r2, by omega, r4⟩
theorem at3 {a b c : Int32} (ha : 0 ≤ a.toInt ∧ a.toInt ≤ 3) (hb : 0 ≤ b.toInt ∧ b.toInt ≤ 60) (hc : 0 ≤ c.toInt ∧ c.toInt ≤ 60) : ((((60 : Int32) * a) + b) + c).toInt = 60 * a.toInt + b.toInt + c.toInt := by
  have e := (at60 ha hb).1
  rw [add32 (by rw [e]; omega) (by rw [e]; omega), e]
theorem paste_L1 (a1 a2 a3 a4 a5 : Int32) (h1 : 0 ≤ a1.toInt ∧ a1.toInt ≤ 3) (h2 : 0 ≤ a2.toInt) (h5 : 0 ≤ a5.toInt) (h25 : a2.toInt + a5.toInt ≤ 60) : ∀ (n : Nat) (i : Int32) (h : Hp), 0 ≤ i.toInt → i.toInt ≤ a5.toInt → (a5.toInt - i.toInt).toNat < n → ∃ v, fX12_paste_L116 n a1 a2 a3 a4 a5 i h = some (v, stJ h 57 0 (ix i) (ix a5) (fun c => gJ h 56 0 (60 * ix a1 + ix a2 + c))) := by
  intro n
  induction n with
  | zero => intro i h _ _ q; omega
  | succ n ih =>
    intro i h q1 q2 q3
    rw [fX12_paste_L116]
    by_cases q : a5 ≤ i
    · have := i32_le.mp q
      rw [br_p q, stJ_z _ _ _ _ _ _ (by unfold ix; omega)]
      exact ⟨_, rfl⟩
    · have hlt : i.toInt < a5.toInt := Int.not_le.mp fun z => q (i32_le.mpr z)
      have e1 := at3 h1 (b := a2) (c := i) ⟨h2, by omega⟩ ⟨q1, by omega⟩
      rw [br_n q, gd_p ⟨by rw [e1]; omega, by rw [e1]; show _ < ((240 : Nat) : Int); omega⟩, gd_p ⟨q1, by show _ < ((60 : Nat) : Int); omega⟩, lb_e, lb_e]
      have e2 : (i + 1).toInt = i.toInt + 1 := i32_succ hlt (by have := (i32_b a5).2; omega)
      have e3 : ix ((60 : Int32) * a1 + a2 + i) = 60 * ix a1 + ix a2 + ix i := by unfold ix; omega
      obtain ⟨v, hv⟩ := ih (i + 1) (sJ h 57 0 (ix i) (gJ h 56 0 (ix ((60 : Int32) * a1 + a2 + i)))) (by omega) (by omega) (by omega)
      refine ⟨v, hv.trans ?_⟩
      have e4 : ix (i + 1) = ix i + 1 := by unfold ix; omega
      rw [e3, e4]
      rw [stJ_s h 57 0 (ix i) (ix a5) (fun c => gJ h 56 0 (60 * ix a1 + ix a2 + c)) _ (by unfold ix; omega) (fun c _ _ => by simp [gJ_sJ])]
theorem paste_L2 (a3 a4 a5 : Int32) (h1 : 0 ≤ a3.toInt ∧ a3.toInt ≤ 3) (h2 : 0 ≤ a4.toInt) (h5 : 0 ≤ a5.toInt) (h25 : a4.toInt + a5.toInt ≤ 60) : ∀ (n : Nat) (i : Int32) (h : Hp), 0 ≤ i.toInt → i.toInt ≤ a5.toInt → (a5.toInt - i.toInt).toNat < n → ∃ v, fX12_paste_L153 n a3 a4 a5 i h = some (v, stJ h 56 0 (60 * ix a3 + ix a4 + ix i) (60 * ix a3 + ix a4 + ix a5) (fun c => gJ h 57 0 (c - (60 * ix a3 + ix a4)))) := by
  intro n
  induction n with
  | zero => intro i h _ _ q; omega
  | succ n ih =>
    intro i h q1 q2 q3
    rw [fX12_paste_L153]
    by_cases q : a5 ≤ i
    · have := i32_le.mp q
      rw [br_p q, stJ_z _ _ _ _ _ _ (by unfold ix; omega)]
      exact ⟨_, rfl⟩
    · have hlt : i.toInt < a5.toInt := Int.not_le.mp fun z => q (i32_le.mpr z)
      have e1 := at3 h1 (b := a4) (c := i) ⟨h2, by omega⟩ ⟨q1, by omega⟩
      rw [br_n q, gd_p ⟨q1, by show _ < ((60 : Nat) : Int); omega⟩, gd_p ⟨by rw [e1]; omega, by rw [e1]; show _ < ((240 : Nat) : Int); omega⟩, lb_e, lb_e]
      have e2 : (i + 1).toInt = i.toInt + 1 := i32_succ hlt (by have := (i32_b a5).2; omega)
      have e3 : ix ((60 : Int32) * a3 + a4 + i) = 60 * ix a3 + ix a4 + ix i := by unfold ix; omega
      obtain ⟨v, hv⟩ := ih (i + 1) (sJ h 56 0 (ix ((60 : Int32) * a3 + a4 + i)) (gJ h 57 0 (ix i))) (by omega) (by omega) (by omega)
      refine ⟨v, hv.trans ?_⟩
      have e4 : 60 * ix a3 + ix a4 + ix (i + 1) = 60 * ix a3 + ix a4 + ix i + 1 := by unfold ix; omega
      rw [e3, e4]
      have e5 : gJ h 57 0 (ix i) = (fun c => gJ h 57 0 (c - (60 * ix a3 + ix a4))) (60 * ix a3 + ix a4 + ix i) := by show _ = gJ h 57 0 _; congr 1; omega
      rw [e5]
      rw [stJ_s h 56 0 (60 * ix a3 + ix a4 + ix i) (60 * ix a3 + ix a4 + ix a5) (fun c => gJ h 57 0 (c - (60 * ix a3 + ix a4))) _ (by unfold ix; omega) (fun c _ _ => by simp [gJ_sJ])]
theorem s_paste (a1 a2 a3 a4 a5 : Int32) (h : Hp) (R : Rr h) : ∃ (r : Int32) (h2 h3 : Hp), fX11_paste a1 a2 a3 a4 a5 h = some (r, h2) ∧ fX12_paste a1 a2 a3 a4 a5 h2 = some (r, h3) ∧ Eqx w_rows h h2 ∧ Eqx w_rows h h3 ∧ Rr h3 := by
  have ss : ∀ (k i : Nat), k = 54 ∨ k = 55 → gI (sI h 12 0 0 0) k 0 i = gI h k 0 i := fun k i hk => by
    rw [gI_sI, if_neg (by omega)]
  by_cases q : 0 ≤ a1.toInt ∧ a1.toInt ≤ 3
  case neg =>
    refine refuse (f := fX11_paste a1 a2 a3 a4 a5) (g := fX12_paste a1 a2 a3 a4 a5) (r := -2) (by decide) ?_ ?_ (R.thrown 0)
    · unfold fX11_paste
      simp only [br, p7f q, if_true]
    · unfold fX12_paste
      simp only [br, lb_e, p12f q, if_true]
  by_cases q3 : 0 ≤ a3.toInt ∧ a3.toInt ≤ 3
  case neg =>
    refine refuse (f := fX11_paste a1 a2 a3 a4 a5) (g := fX12_paste a1 a2 a3 a4 a5) (r := -2) (by decide) ?_ ?_ (R.thrown 0)
    · unfold fX11_paste
      simp only [br, p7t q, p7f q3, if_true, if_false]
    · unfold fX12_paste
      simp only [br, lb_e, p12t q, p12f q3, if_true, if_false]
  have ng : ∀ x : Int32, ¬ 0 ≤ x ↔ x < 0 := fun x => ⟨fun z => i32_lt.mpr (Int.not_le.mp fun y => z (i32_le.mpr y)), fun z y => by have a := i32_lt.mp z; have b := i32_le.mp y; omega⟩
  rcases R.cs q with ⟨r1, r2⟩ | ⟨r1, r2, r3, r4, r5, r6⟩
  · refine refuse (f := fX11_paste a1 a2 a3 a4 a5) (g := fX12_paste a1 a2 a3 a4 a5) (r := -5) (by decide) ?_ ?_ (R.thrown 0)
    · unfold fX11_paste
      simp only [br, p7t q, p7t q3, if_false]
      rw [bd_s (filled7 q h), if_pos r1]
      rfl
    · unfold fX12_paste
      simp only [br, lb_e, p12t q, p12t q3, if_false, gd_p (ib4 q), gd_p (ib4 q3)]
      rw [ss 54 _ (Or.inl rfl), if_pos ((ng _).mp r2)]
  rcases R.cs q3 with ⟨u1, u2⟩ | ⟨u1, u2, u3, u4, u5, u6⟩
  · refine refuse (f := fX11_paste a1 a2 a3 a4 a5) (g := fX12_paste a1 a2 a3 a4 a5) (r := -5) (by decide) ?_ ?_ (R.thrown 0)
    · unfold fX11_paste
      simp only [br, p7t q, p7t q3, if_false]
      rw [bd_s (filled7 q h), if_neg r1, if_neg (by decide), bd_s (filled7 q3 h), if_pos u1]
      rfl
    · unfold fX12_paste
      simp only [br, lb_e, p12t q, p12t q3, if_false, gd_p (ib4 q), gd_p (ib4 q3)]
      rw [ss 54 _ (Or.inl rfl), ss 54 _ (Or.inl rfl), if_neg (fun z => (ng _).mpr z r2), if_neg u2]
  have C : ∀ (r : Int32) (h2 : Hp), fX7_copy a1 a2 a3 a4 a5 h = some (r, h2) → fX11_paste a1 a2 a3 a4 a5 h = some (r, h2) := fun r h2 e => by
    unfold fX11_paste
    simp only [br, p7t q, p7t q3, if_false]
    rw [bd_s (filled7 q h), if_neg r1, if_neg (by decide), bd_s (filled7 q3 h), if_neg u1, if_neg (by decide), bd_s e]
  by_cases q4 : gI h 40 0 (ix a1) = gI h 40 0 (ix a3)
  case neg =>
    refine refuse (f := fX11_paste a1 a2 a3 a4 a5) (g := fX12_paste a1 a2 a3 a4 a5) (r := -7) (by decide) (C _ _ ?_) ?_ (R.thrown 0)
    · unfold fX7_copy
      simp only [br, gd_p (ib4 q), gd_p (ib4 q3), q4, if_false]
    · unfold fX12_paste
      simp only [br, lb_e, p12t q, p12t q3, if_false, gd_p (ib4 q), gd_p (ib4 q3)]
      rw [ss 54 _ (Or.inl rfl), ss 54 _ (Or.inl rfl), if_neg (fun z => (ng _).mpr z r2), if_pos u2, if_neg (by rw [← r4, ← u4]; exact q4)]
  have M : ∀ (k : Option (Int32 × Hp)) (f : Hp → Option (Int32 × Hp)), True := fun _ _ => trivial
  by_cases q5 : a2 < 0
  case pos =>
    refine refuse (f := fX11_paste a1 a2 a3 a4 a5) (g := fX12_paste a1 a2 a3 a4 a5) (r := -6) (by decide) (C _ _ ?_) ?_ (R.thrown 0)
    · unfold fX7_copy
      simp only [br, gd_p (ib4 q), gd_p (ib4 q3), q4, q5, if_true]
    · unfold fX12_paste
      simp only [br, lb_e, p12t q, p12t q3, if_false, gd_p (ib4 q), gd_p (ib4 q3)]
      rw [ss 54 _ (Or.inl rfl), ss 54 _ (Or.inl rfl), if_neg (fun z => (ng _).mpr z r2), if_pos u2, if_pos (by rw [← r4, ← u4]; exact q4), if_pos q5]
  by_cases q6 : a4 < 0
  case pos =>
    refine refuse (f := fX11_paste a1 a2 a3 a4 a5) (g := fX12_paste a1 a2 a3 a4 a5) (r := -6) (by decide) (C _ _ ?_) ?_ (R.thrown 0)
    · unfold fX7_copy
      simp only [br, gd_p (ib4 q), gd_p (ib4 q3), q4, q5, q6, if_true, if_false]
    · unfold fX12_paste
      simp only [br, lb_e, p12t q, p12t q3, if_false, gd_p (ib4 q), gd_p (ib4 q3)]
      rw [ss 54 _ (Or.inl rfl), ss 54 _ (Or.inl rfl), if_neg (fun z => (ng _).mpr z r2), if_pos u2, if_pos (by rw [← r4, ← u4]; exact q4), if_neg q5, if_pos q6]
  by_cases q7 : a5 < 0
  case pos =>
    refine refuse (f := fX11_paste a1 a2 a3 a4 a5) (g := fX12_paste a1 a2 a3 a4 a5) (r := -6) (by decide) (C _ _ ?_) ?_ (R.thrown 0)
    · unfold fX7_copy
      simp only [br, gd_p (ib4 q), gd_p (ib4 q3), q4, q5, q6, q7, if_true, if_false]
    · unfold fX12_paste
      simp only [br, lb_e, p12t q, p12t q3, if_false, gd_p (ib4 q), gd_p (ib4 q3)]
      rw [ss 54 _ (Or.inl rfl), ss 54 _ (Or.inl rfl), if_neg (fun z => (ng _).mpr z r2), if_pos u2, if_pos (by rw [← r4, ← u4]; exact q4), if_neg q5, if_neg q6, if_pos q7]
  have p2 : 0 ≤ a2.toInt := Int.not_lt.mp fun z => q5 (i32_lt.mpr (by rw [z0]; exact z))
  have p4 : 0 ≤ a4.toInt := Int.not_lt.mp fun z => q6 (i32_lt.mpr (by rw [z0]; exact z))
  have p5 : 0 ≤ a5.toInt := Int.not_lt.mp fun z => q7 (i32_lt.mpr (by rw [z0]; exact z))
  have b2 := (i32_b a2).2
  have b4 := (i32_b a4).2
  have b5 := (i32_b a5).2
  have d1 : (gI h 39 0 (ix a1) - a2).toInt = (gI h 39 0 (ix a1)).toInt - a2.toInt := sub32 (by omega) (by omega)
  have d3 : (gI h 39 0 (ix a3) - a4).toInt = (gI h 39 0 (ix a3)).toInt - a4.toInt := sub32 (by omega) (by omega)
  have s1 : (a2.toInt64 + a5.toInt64).toInt = a2.toInt + a5.toInt := by rw [add64 (by rw [to64, to64]; omega) (by rw [to64, to64]; omega), to64, to64]
  have s3 : (a4.toInt64 + a5.toInt64).toInt = a4.toInt + a5.toInt := by rw [add64 (by rw [to64, to64]; omega) (by rw [to64, to64]; omega), to64, to64]
  have t1 : ((gI h 55 0 (ix a1)).toInt64 < a2.toInt64 + a5.toInt64) ↔ (gI h 39 0 (ix a1) - a2 < a5) := by rw [i64_lt, i32_lt, to64, s1, d1, ← r3]; omega
  have t3 : (a4.toInt64 + a5.toInt64 ≤ (gI h 55 0 (ix a3)).toInt64) ↔ (a5 ≤ gI h 39 0 (ix a3) - a4) := by rw [i64_le, i32_le, to64, s3, d3, ← u3]; omega
  by_cases q8 : gI h 39 0 (ix a1) - a2 < a5
  case pos =>
    refine refuse (f := fX11_paste a1 a2 a3 a4 a5) (g := fX12_paste a1 a2 a3 a4 a5) (r := -6) (by decide) (C _ _ ?_) ?_ (R.thrown 0)
    · unfold fX7_copy
      simp only [br, gd_p (ib4 q), gd_p (ib4 q3), q4, q5, q6, q7, q8, if_true, if_false]
    · unfold fX12_paste
      simp only [br, lb_e, p12t q, p12t q3, if_false, gd_p (ib4 q), gd_p (ib4 q3)]
      rw [ss 54 _ (Or.inl rfl), ss 54 _ (Or.inl rfl), ss 55 _ (Or.inr rfl), if_neg (fun z => (ng _).mpr z r2), if_pos u2, if_pos (by rw [← r4, ← u4]; exact q4), if_neg q5, if_neg q6, if_neg q7, if_pos (t1.mpr q8)]
  by_cases q9 : a5 ≤ gI h 39 0 (ix a3) - a4
  case neg =>
    refine refuse (f := fX11_paste a1 a2 a3 a4 a5) (g := fX12_paste a1 a2 a3 a4 a5) (r := -6) (by decide) (C _ _ ?_) ?_ (R.thrown 0)
    · unfold fX7_copy
      simp only [br, gd_p (ib4 q), gd_p (ib4 q3), q4, q5, q6, q7, q8, q9, if_true, if_false]
    · unfold fX12_paste
      simp only [br, lb_e, p12t q, p12t q3, if_false, gd_p (ib4 q), gd_p (ib4 q3)]
      rw [ss 54 _ (Or.inl rfl), ss 54 _ (Or.inl rfl), ss 55 _ (Or.inr rfl), ss 55 _ (Or.inr rfl), if_neg (fun z => (ng _).mpr z r2), if_pos u2, if_pos (by rw [← r4, ← u4]; exact q4), if_neg q5, if_neg q6, if_neg q7, if_neg (fun z => q8 (t1.mp z)), if_neg (fun z => q9 (t3.mp z))]
  have l1 : a2.toInt + a5.toInt ≤ 60 := by have : ¬ (gI h 39 0 (ix a1) - a2).toInt < a5.toInt := fun z => q8 (i32_lt.mpr z); omega
  have l3 : a4.toInt + a5.toInt ≤ 60 := by have := i32_le.mp q9; omega
  have m1 := (at60 q ⟨p2, by omega⟩).2
  have m3 := (at60 q3 ⟨p4, by omega⟩).2
  have x1 : ix (a1 * 60 + a2) = 60 * ix a1 + ix a2 := by unfold ix; omega
  have x3 : ix (a3 * 60 + a4) = 60 * ix a3 + ix a4 := by unfold ix; omega
  obtain ⟨hc, ehc⟩ : ∃ y, y = cpJ h 38 0 (60 * ix a1 + ix a2) (60 * ix a3 + ix a4) (ix a5) := ⟨_, rfl⟩
  have E1 : fX7_copy a1 a2 a3 a4 a5 h = some (0, hc) := by
    unfold fX7_copy
    simp only [br, gd_p (ib4 q), gd_p (ib4 q3), q4, q5, q6, q7, q8, q9, if_true, if_false]
    rw [gd_p ⟨by rw [m1]; omega, by rw [m3]; omega, p5, by rw [m1]; omega, by rw [m3]; omega⟩, lb_e, x1, x3, ehc]
  obtain ⟨v1, hv1⟩ := paste_L1 a1 a2 a3 a4 a5 q p2 p5 l1 FU 0 (sI hc 12 0 0 0) (by rw [z0]; omega) (by rw [z0]; omega) (by rw [z0]; show _ < 100000; omega)
  obtain ⟨hd, ehd⟩ : ∃ y, y = stJ (sI hc 12 0 0 0) 57 0 (ix 0) (ix a5) (fun c => gJ (sI hc 12 0 0 0) 56 0 (60 * ix a1 + ix a2 + c)) := ⟨_, rfl⟩
  rw [← ehd] at hv1
  obtain ⟨v2, hv2⟩ := paste_L2 a3 a4 a5 q3 p4 p5 l3 FU 0 hd (by rw [z0]; omega) (by rw [z0]; omega) (by rw [z0]; show _ < 100000; omega)
  have ci : ∀ k i, gI hc k 0 i = gI h k 0 i := fun k i => by rw [ehc]; rfl
  refine ⟨0, hc, stJ hd 56 0 (60 * ix a3 + ix a4 + ix 0) (60 * ix a3 + ix a4 + ix a5) (fun c => gJ hd 57 0 (c - (60 * ix a3 + ix a4))), C _ _ E1, ?_, ?_, ?_, ?_⟩
  · unfold fX12_paste
    simp only [br, lb_e, p12t q, p12t q3, if_false, gd_p (ib4 q), gd_p (ib4 q3)]
    have s2 : ∀ (k i : Nat), k = 54 ∨ k = 55 → gI (sI hc 12 0 0 0) k 0 i = gI h k 0 i := fun k i hk => by
      rw [gI_sI, if_neg (by omega), ci]
    rw [s2 54 _ (Or.inl rfl), s2 54 _ (Or.inl rfl), s2 55 _ (Or.inr rfl), s2 55 _ (Or.inr rfl), if_neg (fun z => (ng _).mpr z r2), if_pos u2, if_pos (by rw [← r4, ← u4]; exact q4), if_neg q5, if_neg q6, if_neg q7, if_neg (fun z => q8 (t1.mp z)), if_pos (t3.mpr q9), bd_s hv1, bd_s hv2]
  · rw [ehc]; exact Eqx_cpJ _ _ _ _ _ _ (fun i => by simp [w_rows])
  · have k1 : Eqx w_rows h hc := by rw [ehc]; exact Eqx_cpJ _ _ _ _ _ _ (fun i => by simp [w_rows])
    have k2 : Eqx w_rows hc hd := by rw [ehd]; exact (Eqx_I _ _ _ _ _ (by simp [w_rows])).tr (Eqx_stJ _ _ _ _ _ _ (fun i => by simp [w_rows]))
    exact (k1.tr k2).tr (Eqx_stJ _ _ _ _ _ _ (fun i => by simp [w_rows]))
  · refine ⟨fun p hp => ?_, fun j hj => ?_⟩
    · have := R.1 p hp
      simp only [gI_stJ, ehd, gI_sI, ci]
      simpa using this
    · have w1 := R.2 j hj
      simp only [gJ_stJ, ehd, gJ_sI, ehc, gJ_cpJ, show ix 0 = 0 from rfl, Nat.add_zero]
      by_cases e : 60 * ix a3 + ix a4 ≤ j ∧ j < 60 * ix a3 + ix a4 + ix a5
      · have w2 := R.2 (60 * ix a1 + ix a2 + (j - (60 * ix a3 + ix a4))) (by unfold ix at *; omega)
        have w3 : j - (60 * ix a3 + ix a4) < ix a5 := by omega
        simp [e, w2, w3]
      · simp [e, w1]
