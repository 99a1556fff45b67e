/-! ===== level 2: the model listens; unit ===== -/
theorem un_sm {h h' : Hp} (e : Sm fRC h h') (b : Nat) : un h' b = un h b := by unfold un; rw [e.A 28 0 b (by decide)]
theorem nB_sm {h h' : Hp} (e : Sm fRC h h') : nB h' = nB h := by unfold nB; rw [e.I 1 0 7 (by decide)]
theorem se_sm {h h' : Hp} (e : Sm fRC h h') (s : Nat) : se h' s = se h s := by unfold se; rw [e.A 31 0 s (by decide)]
theorem li_L12 {b : Nat} : ∀ (n j : Nat) (h : Hp), RC h → b < nB h → j ≤ un h b → un h b - j < n → Wp (fX12_listens_L12 n (nZ b) (nZ j) h) (fun _ h' => Fr [93, 94] h h' ∧ ∀ i, ((32 * b + j ≤ i ∧ i < 32 * b + un h b) → gI h' 93 0 i = gI h 30 0 i ∧ gI h' 94 0 i = se h i) ∧ (¬ (32 * b + j ≤ i ∧ i < 32 * b + un h b) → gI h' 93 0 i = gI h 93 0 i ∧ gI h' 94 0 i = gI h 94 0 i)) := by
  intro n
  induction n with
  | zero => intro j h _ _ _ q; omega
  | succ n ih =>
    intro j h R hb hj hn
    obtain ⟨v1, v2, v3, v4⟩ := R.v
    obtain ⟨w1, w2, w3, w4⟩ := v4 b hb
    rw [fX12_listens_L12]
    simp (disch := omega) only [nZ_ix, w2, nZ_suc, nZ_x32, nZ_add, nZ_le, nZ_ib, lb_e]
    rw [gd_p (by omega)]
    by_cases q : j = un h b
    · rw [br_p (by omega), wp_some]
      exact ⟨Fr.rf _ _, fun i => ⟨fun z => by omega, fun _ => ⟨rfl, rfl⟩⟩⟩
    · rw [br_n (by omega)]
      obtain ⟨e1, e2⟩ := heb_eq R hb (u := j) (by omega)
      rw [bd_s e1, gd_p (by omega)]
      obtain ⟨h5, e5⟩ : ∃ y, y = sI h 93 0 (32 * b + j) (gI h 30 0 (32 * b + j)) := ⟨_, rfl⟩
      have f5 : Fr [93, 94] h h5 := by rw [e5]; exact Fr_I _ _ _ _ _ rfl
      have s5 : Sm fRC h h5 := f5.sm rfl
      rw [← e5]
      have R5 := RC_sm s5 R
      obtain ⟨-, e6⟩ := heb_eq R5 (b := b) (u := j) (by rw [nB_sm s5]; exact hb) (by rw [un_sm s5]; omega)
      rw [f5.A 31 0 _ (by decide)] at e6
      rw [bd_s e6]
      have key : ∀ v : Int32, v = se h (32 * b + j) → Wp (gd (32 * b + j < 256) (fX12_listens_L12 n (nZ b) (nZ (j + 1)) (sI h5 94 0 (32 * b + j) v))) (fun _ h' => Fr [93, 94] h h' ∧ ∀ i, ((32 * b + j ≤ i ∧ i < 32 * b + un h b) → gI h' 93 0 i = gI h 30 0 i ∧ gI h' 94 0 i = se h i) ∧ (¬ (32 * b + j ≤ i ∧ i < 32 * b + un h b) → gI h' 93 0 i = gI h 93 0 i ∧ gI h' 94 0 i = gI h 94 0 i)) := by
        intro v hv
        rw [gd_p (by omega)]
        obtain ⟨h7, e7⟩ : ∃ y, y = sI h5 94 0 (32 * b + j) v := ⟨_, rfl⟩
        rw [← e7]
        have f7 : Fr [93, 94] h h7 := f5.tr (by rw [e7]; exact Fr_I _ _ _ _ _ rfl)
        have s7 : Sm fRC h h7 := f7.sm rfl
        refine wp_mono (ih (j + 1) h7 (RC_sm s7 R) (by rw [nB_sm s7]; exact hb) (by rw [un_sm s7]; omega) (by rw [un_sm s7]; omega)) fun _ h' p => ⟨f7.tr p.1, fun i => ?_⟩
        obtain ⟨p1, p2⟩ := p.2 i
        rw [un_sm s7, se_sm s7, f7.A 30 0 i (by decide)] at p1
        rw [un_sm s7] at p2
        have t93 : gI h7 93 0 i = if i = 32 * b + j then gI h 30 0 (32 * b + j) else gI h 93 0 i := by rw [e7, gI_o (by decide), e5, gI_a]
        have t94 : gI h7 94 0 i = if i = 32 * b + j then v else gI h 94 0 i := by rw [e7, gI_a, e5, gI_o (by decide)]
        by_cases z : 32 * b + (j + 1) ≤ i ∧ i < 32 * b + un h b
        · exact ⟨fun _ => p1 z, fun w => absurd ⟨by omega, z.2⟩ w⟩
        · have p3 := p2 z
          rw [p3.1, p3.2, t93, t94]
          refine ⟨fun w => ?_, fun w => ?_⟩
          · have : i = 32 * b + j := by omega
            rw [if_pos this, if_pos this, this]
            exact ⟨rfl, hv⟩
          · have : ¬ i = 32 * b + j := fun y => w ⟨by omega, by omega⟩
            rw [if_neg this, if_neg this]
            exact ⟨rfl, rfl⟩
      by_cases z : gI h 31 0 (32 * b + j) = 0
      · rw [br_p z]
        exact key 1 (by unfold se; rw [if_pos z])
      · rw [br_n z]
        exact key 0 (by unfold se; rw [if_neg z])
theorem li_L2 : ∀ (n j : Nat) (h : Hp), RC h → j ≤ nB h → nB h - j < n → (∀ b u : Nat, b < j → u < un h b → gI h 93 0 (32 * b + u) = gI h 30 0 (32 * b + u) ∧ gI h 94 0 (32 * b + u) = se h (32 * b + u)) → Wp (fX12_listens_L2 n (nZ j) h) (fun _ h' => Fr [93, 94] h h' ∧ LT h') := by
  intro n
  induction n with
  | zero => intro j h _ _ q; omega
  | succ n ih =>
    intro j h R hj hn T
    obtain ⟨v1, v2, v3, v4⟩ := R.v
    rw [fX12_listens_L2]
    simp (disch := omega) only [v2, nZ_suc, nZ_le, lb_e]
    by_cases q : j = nB h
    · rw [br_p (by omega), wp_some]
      refine ⟨Fr.rf _ _, fun b u hb hu => T b u (by omega) hu⟩
    · rw [br_n (by omega)]
      obtain ⟨w1, w2, w3, w4⟩ := v4 j (by omega)
      refine wp_call (li_L12 FU 0 h R (by omega) (by omega) (by show _ < 100000; omega)) fun _ h' p => ?_
      have s7 : Sm fRC h h' := p.1.sm rfl
      refine wp_mono (ih (j + 1) h' (RC_sm s7 R) (by rw [nB_sm s7]; omega) (by rw [nB_sm s7]; omega) fun b u hb hu => ?_) fun _ h2 p2 => ⟨p.1.tr p2.1, p2.2⟩
      rw [un_sm s7] at hu
      rw [se_sm s7, p.1.A 30 0 _ (by decide)]
      obtain ⟨x1, x2, x3, x4⟩ := v4 b (by omega)
      by_cases z : b = j
      · subst z
        exact (p.2 (32 * b + u)).1 (by omega)
      · have := (p.2 (32 * b + u)).2 (by omega)
        rw [this.1, this.2]
        exact T b u (by omega) hu
theorem listens_t {h : Hp} (R : RC h) : Wp (fX12_listens h) (fun _ h' => Fr [93, 94] h h' ∧ RC h' ∧ LT h') := by
  obtain ⟨v1, v2, v3, v4⟩ := R.v
  unfold fX12_listens
  exact wp_call (li_L2 FU 0 h R (by omega) (by show _ < 100000; omega) fun b u hb => by omega) fun _ h' p => wp_some.mpr ⟨p.1, RC_sm (p.1.sm rfl) R, p.2⟩
theorem n2J : (2 : Int64).toInt = 2 := by decide
theorem Op_ro {α : Type} {W : List Nat} {f g : Hp → Option (α × Hp)} {h : Hp} {P : Hp → Prop} (hw : wi W 12 0 = true) (e : ∃ r, f h = some (r, h) ∧ g h = some (r, sI h 12 0 0 0)) (hP : P (sI h 12 0 0 0)) : Op W f g h P := by
  obtain ⟨r, e1, e2⟩ := e
  exact Op_no hw e1 e2 hP
theorem s_unit (a1 a2 a3 : Int32) (h : Hp) (R : RC h) : Op [13000] (fX11_unit a1 a2 a3) (fX12_unit a1 a2 a3) h RC := by
  have R0 := RC_sm (thrown_sm rfl h) R
  refine Op_ro rfl ?_ R0
  by_cases q : isU h a1 a2
  · have q' : isU (sI h 12 0 0 0) a1 a2 := q
    obtain ⟨b, u, rfl, rfl, hb, hu⟩ := isU_ex R q
    obtain ⟨v1, v2, v3, v4⟩ := R.v
    obtain ⟨w1, w2, w3, w4⟩ := v4 b hb
    obtain ⟨e1, e2⟩ := heb_eq R0 (b := b) (u := u) hb hu
    rw [gI_o (by decide)] at e1 e2
    unfold fX11_unit fX12_unit
    simp only [lb_e, bd_s (unit1_t R q), bd_s (unit12_t R0 q'), bd_s e1, bd_s e2]
    simp (disch := omega) only [nZ_32x, nZ_add, nZ_ix, nZ_ib, in_0, to64, z0J, n2J]
    by_cases q0 : a3 = 0
    · refine ⟨gI h 30 0 (32 * b + u), ?_, ?_⟩
      · rw [br_n (by decide), br_p q0, gd_p (by omega)]
      · rw [br_n (by decide), br_n (by rw [q0, z0]; omega), br_p q0]
    · by_cases q1 : a3 = 1
      · refine ⟨gI h 31 0 (32 * b + u), ?_, ?_⟩
        · rw [br_n (by decide), br_n q0, br_p q1, gd_p (by omega)]
        · rw [br_n (by decide), br_n (by rw [q1, o1]; omega), br_n q0, br_p q1]
      · by_cases q2 : a3 = 2
        · refine ⟨if gI h 31 0 (32 * b + u) = 0 then 1 else 0, ?_, ?_⟩
          · rw [br_n (by decide), br_n q0, br_n q1, br_p q2, gd_p (by omega)]
            unfold br
            split <;> rfl
          · rw [br_n (by decide), br_n (by rw [q2, n2]; omega), br_n q0, br_n q1]
            unfold br
            split <;> rfl
        · refine ⟨-2, ?_, ?_⟩
          · rw [br_n (by decide), br_n q0, br_n q1, br_n q2]
          · rw [br_n (by decide), br_p]
            intro z
            rw [i32_eq, z0] at q0
            rw [i32_eq, o1] at q1
            rw [i32_eq, n2] at q2
            omega
  · have q' : ¬ isU (sI h 12 0 0 0) a1 a2 := q
    refine ⟨-2, ?_, ?_⟩
    · unfold fX11_unit
      rw [bd_s (unit1_f R q)]
      rfl
    · unfold fX12_unit
      rw [lb_e, bd_s (unit12_f R0 q')]
      rfl
