/-! ===== level 2: the church: all benches are measured; pulpit, pillar, bench ===== -/
def Tc (h : Hp) (b u : Nat) : Prop := gI h 31 0 (32 * b + u) = iw1 h b (Int32.ofNat u) ∧ gI h 30 0 (32 * b + u) = he1 h b (Int32.ofNat u)
theorem mb_t {a1 : Int32} {h : Hp} (C : Cc h) (hb : 0 ≤ a1.toInt ∧ a1.toInt < (gI h 1 0 7).toInt) : ∃ h', fX1_measureBench a1 h = some ((), h') ∧ Eqx w31 h h' ∧ (∀ u : Nat, (u : Int) < (gI h 28 0 (ix a1)).toInt → Tc h' (ix a1) u) ∧ ∀ b u : Nat, b ≠ ix a1 → u < 32 → gI h' 31 0 (32 * b + u) = gI h 31 0 (32 * b + u) ∧ gI h' 30 0 (32 * b + u) = gI h 30 0 (32 * b + u) := by
  have C7 := C.2.2.2.2.2.2 (ix a1) (by unfold ix; omega)
  obtain ⟨v, h', e, x, k⟩ := mb_L FU 0 0 h C hb z0 (by omega) (by show _ < 100000; omega)
  refine ⟨h', by unfold fX1_measureBench; rw [bd_s e], x, fun u hu => ?_, fun b u hn hu => ?_⟩
  · have := (k (32 * ix a1 + u)).1 ⟨by omega, by push_cast; omega⟩
    rw [show 32 * ix a1 + u - 32 * ix a1 = u by omega] at this
    unfold Tc
    rw [iw1_e x, he1_e x]
    exact this
  · refine (k (32 * b + u)).2 fun z => ?_
    have z2 := z.2
    push_cast at z2
    omega
theorem ma_L : ∀ (n j : Nat) (a1 : Int32) (h : Hp), Cc h → a1.toInt = (j : Int) → (j : Int) ≤ (gI h 1 0 7).toInt → ((gI h 1 0 7).toInt - j).toNat < n → (∀ b u : Nat, b < j → (u : Int) < (gI h 28 0 b).toInt → Tc h b u) → ∃ v h', fX1_measureAll_L2 n a1 h = some (v, h') ∧ Eqx w31 h h' ∧ Kc h' := by
  intro n
  induction n with
  | zero => intro j a1 h _ _ _ q; omega
  | succ n ih =>
    intro j a1 h C ej q1 q2 K
    rw [fX1_measureAll_L2]
    by_cases q : gI h 1 0 7 ≤ a1
    · have := i32_le.mp q
      refine ⟨a1, h, br_p q, Eqx.rf _ _, fun b u hb hu => K b u (by omega) hu⟩
    · have hlt : a1.toInt < (gI h 1 0 7).toInt := Int.not_le.mp fun z => q (i32_le.mpr z)
      have C5 := C.2.2.2.2.1
      obtain ⟨h', e, x, k1, k2⟩ := mb_t C (a1 := a1) ⟨by omega, hlt⟩
      have ei : ix a1 = j := by unfold ix; omega
      rw [br_n q, bd_s e, lb_e]
      have u7 := e31 x 1 0 7 (by decide) (by decide)
      obtain ⟨v, h2, e2, x2, k3⟩ := ih (j + 1) (a1 + 1) h' (Cc_e x C) (by rw [i32_succ hlt (by omega)]; omega) (by rw [u7]; omega) (by rw [u7]; omega) (fun b u hb hu => by
        rw [e31 x 28 0 b (by decide) (by decide)] at hu
        by_cases z : b = j
        · rw [← ei] at z
          subst z
          exact k1 u hu
        · have C7 := C.2.2.2.2.2.2 b (by omega)
          have := k2 b u (by omega) (by omega)
          have K1 := K b u (by omega) hu
          unfold Tc at K1 ⊢
          rw [this.1, this.2, iw1_e x, he1_e x]
          exact K1)
      exact ⟨v, h2, e2, x.tr x2, k3⟩
theorem ma_t {h : Hp} (C : Cc h) : ∃ h', fX1_measureAll h = some ((), h') ∧ Eqx w31 h h' ∧ Kc h' := by
  have C5 := C.2.2.2.2.1
  obtain ⟨v, h', e, x, k⟩ := ma_L FU 0 0 h C z0 (by omega) (by show _ < 100000; omega) (fun b u hb => by omega)
  exact ⟨h', by unfold fX1_measureAll; rw [bd_s e], x, k⟩
def Rc (h : Hp) : Prop := gI h 12 0 13 = gI h 1 0 0 ∧ gI h 12 0 14 = gI h 1 0 1 ∧ gI h 12 0 15 = gI h 1 0 2 ∧ gI h 12 0 6 = gI h 1 0 3 ∧ gI h 12 0 7 = gI h 1 0 7 ∧ (∀ i, gI h 58 0 i = gI h 23 0 i) ∧ (∀ i, gI h 59 0 i = gI h 24 0 i) ∧ (∀ i, gI h 60 0 i = gI h 25 0 i) ∧ (∀ i, gI h 61 0 i = gI h 26 0 i) ∧ (∀ i, gI h 62 0 i = gI h 27 0 i) ∧ (∀ i, gI h 63 0 i = gI h 28 0 i) ∧ (∀ i, gI h 64 0 i = gI h 29 0 i)
def RC (h : Hp) : Prop := Rc h ∧ Cc h ∧ Kc h
def fRC : List Nat := [2000, 2001, 2002, 2003, 2007, 13006, 13007, 13013, 13014, 13015, 23, 24, 25, 26, 27, 28, 29, 30, 31, 58, 59, 60, 61, 62, 63, 64]
/-- the same at all places that a list names -/
def wf' (F : List Nat) (k i : Nat) : Bool := F.elem (cd k i) && !(Nat.ble k 12 && Nat.ble (nf k) i)
def Sm (F : List Nat) (h h' : Hp) : Prop := (∀ k n i, wf' F k i = true → gI h' k n i = gI h k n i ∧ gJ h' k n i = gJ h k n i ∧ gR h' k n i = gR h k n i) ∧ (∀ k, F.elem (500 + k) = true → gN h' k = gN h k)
theorem sm_e {F W : List Nat} (d : F.all (fun c => !W.elem c) = true) {c : Nat} (z : F.elem c = true) : W.elem c = false := by
  have := List.all_eq_true.mp d c (List.elem_iff.mp z)
  cases q : W.elem c with
  | false => rfl
  | true => rw [q] at this; cases this
theorem sm_w {F W : List Nat} (d : F.all (fun c => !W.elem c) = true) {k i : Nat} (z : wf' F k i = true) : wi W k i = false := by
  unfold wf' at z
  rw [Bool.and_eq_true] at z
  unfold wi
  rw [sm_e d z.1, Bool.false_or]
  have := z.2
  cases q : (Nat.ble k 12 && Nat.ble (nf k) i) with
  | false => rfl
  | true => rw [q] at this; cases this
theorem Fr.sm {F W : List Nat} {h h' : Hp} (e : Fr W h h') (d : F.all (fun c => !W.elem c) = true) : Sm F h h' := ⟨fun k n i z => e.1 k n i (sm_w d z), fun k z => e.2.1 k (sm_e d z)⟩
theorem Sm.I {F : List Nat} {h h' : Hp} (e : Sm F h h') (k n i : Nat) (q : wf' F k i = true) : gI h' k n i = gI h k n i := (e.1 k n i q).1
theorem Sm.J {F : List Nat} {h h' : Hp} (e : Sm F h h') (k n i : Nat) (q : wf' F k i = true) : gJ h' k n i = gJ h k n i := (e.1 k n i q).2.1
theorem Sm.R {F : List Nat} {h h' : Hp} (e : Sm F h h') (k n i : Nat) (q : wf' F k i = true) : gR h' k n i = gR h k n i := (e.1 k n i q).2.2
theorem Sm.N {F : List Nat} {h h' : Hp} (e : Sm F h h') (k : Nat) (q : F.elem (500 + k) = true) : gN h' k = gN h k := e.2 k q
theorem wi_B {F : List Nat} {k i : Nat} (q : (Nat.ble 13 k && F.elem k) = true) : wf' F k i = true := by
  rw [Bool.and_eq_true] at q
  have hk := Nat.le_of_ble_eq_true q.1
  have : Nat.ble k 12 = false := by
    cases z : Nat.ble k 12 with
    | false => rfl
    | true => have := Nat.le_of_ble_eq_true z; omega
  unfold wf' cd
  rw [if_neg (by omega), this, q.2]
  rfl
theorem Sm.A {F : List Nat} {h h' : Hp} (e : Sm F h h') (k n i : Nat) (q : (Nat.ble 13 k && F.elem k) = true) : gI h' k n i = gI h k n i := e.I k n i (wi_B q)
theorem Sm.AJ {F : List Nat} {h h' : Hp} (e : Sm F h h') (k n i : Nat) (q : (Nat.ble 13 k && F.elem k) = true) : gJ h' k n i = gJ h k n i := e.J k n i (wi_B q)
theorem Sm.AR {F : List Nat} {h h' : Hp} (e : Sm F h h') (k n i : Nat) (q : (Nat.ble 13 k && F.elem k) = true) : gR h' k n i = gR h k n i := e.R k n i (wi_B q)
theorem RC_sm {h h' : Hp} (e : Sm fRC h h') (R : RC h) : RC h' := by
  unfold RC Rc Cc Kc iw1 he1 iw1 F1 at R ⊢
  simp (disch := decide) only [e.A, e.I]
  exact R
theorem br_or {γ : Type} {c d : Prop} [Decidable c] [Decidable d] {x y : γ} : br c x (br d x y) = br (c ∨ d) x y := by
  unfold br
  by_cases q : c <;> by_cases r : d <;> simp [q, r]
theorem point11 (a : Int32) (h : Hp) : (fX11_isPoint a h = 0) ↔ ¬ (0 ≤ a.toInt ∧ a.toInt ≤ 60) := by
  unfold fX11_isPoint
  rw [isWithin_0, z0, n60]
theorem n60J : (60 : Int64).toInt = 60 := by decide
theorem point12 (a b : Int32) (h : Hp) : (fX12_isPoint a b h = 0) ↔ ¬ ((0 ≤ a.toInt ∧ a.toInt ≤ 60) ∧ (0 ≤ b.toInt ∧ b.toInt ≤ 60)) := by
  unfold fX12_isPoint
  simp only [br_or, in_0, to64, z0J, n60J]
  unfold br
  by_cases q1 : (0 ≤ a.toInt ∧ a.toInt ≤ 60) <;> by_cases q2 : (0 ≤ b.toInt ∧ b.toInt ≤ 60) <;> simp [q1, q2]
theorem o1J : (1 : Int64).toInt = 1 := by decide
theorem n5 : (5 : Int32).toInt = 5 := by decide
theorem n5J : (5 : Int64).toInt = 5 := by decide
theorem n8 : (8 : Int32).toInt = 8 := by decide
theorem n1e5 : (100000 : Int32).toInt = 100000 := by decide
theorem n1e5J : (100000 : Int64).toInt = 100000 := by decide
def Op {α : Type} (W : List Nat) (f g : Hp → Option (α × Hp)) (h : Hp) (P : Hp → Prop) : Prop := ∃ r h2 h3, f h = some (r, h2) ∧ g h2 = some (r, h3) ∧ Fr W h h2 ∧ Fr W h h3 ∧ P h3
theorem Op_no {α : Type} {W : List Nat} {f g : Hp → Option (α × Hp)} {h : Hp} {P : Hp → Prop} {r : α} (hw : wi W 12 0 = true) (e1 : f h = some (r, h)) (e2 : g h = some (r, sI h 12 0 0 0)) (hP : P (sI h 12 0 0 0)) : Op W f g h P := ⟨r, h, _, e1, e2, Fr.rf _ _, Fr_I _ _ _ _ _ hw, hP⟩
theorem thrown_sm {F : List Nat} (d : F.elem 13000 = false) (h : Hp) : Sm F h (sI h 12 0 0 0) := (Fr_I (W := [13000]) h 12 0 0 0 rfl).sm (List.all_eq_true.mpr fun c hc => by
  by_cases z : c = 13000
  · rw [z] at hc
    rw [List.elem_iff.mpr hc] at d
    cases d
  · simp [z])
def w_pulpit : List Nat := [2000, 2001, 2002, 30, 31, 13000, 13013, 13014, 13015]
theorem w31_fr {h h' : Hp} (x : Eqx w31 h h') : Fr [30, 31] h h' := x.fr fun k i z => by
  unfold w31
  by_cases q : k < 13
  · have a : ¬ k = 30 := by omega
    have b : ¬ k = 31 := by omega
    simp [a, b]
  · rw [wi_k (by omega)] at z
    simp at z ⊢
    exact z
theorem s_pulpit (a1 a2 a3 : Int32) (h : Hp) (R : RC h) : Op w_pulpit (fX11_pulpit a1 a2 a3) (fX12_pulpit a1 a2 a3) h RC := by
  by_cases q : (0 ≤ a1.toInt ∧ a1.toInt ≤ 60) ∧ (0 ≤ a2.toInt ∧ a2.toInt ≤ 60) ∧ (1 ≤ a3.toInt ∧ a3.toInt ≤ 100000)
  · obtain ⟨h3, e3⟩ : ∃ y, y = sI (sI (sI h 1 0 0 a1) 1 0 1 a2) 1 0 2 a3 := ⟨_, rfl⟩
    have f3 : Fr w_pulpit h h3 := by rw [e3]; exact ((Fr_I _ _ _ _ _ rfl).tr (Fr_I _ _ _ _ _ rfl)).tr (Fr_I _ _ _ _ _ rfl)
    have g0 : gI h3 1 0 0 = a1 := by rw [e3]; simp [gI_sI]
    have g1 : gI h3 1 0 1 = a2 := by rw [e3]; simp [gI_sI]
    have g2 : gI h3 1 0 2 = a3 := by rw [e3]; simp [gI_sI]
    have C3 : Cc h3 := by
      have := R.2.1
      unfold Cc at this ⊢
      rw [g0, g1, g2]
      simp (disch := decide) only [f3.A, f3.I]
      exact ⟨q.1, q.2.1, q.2.2, this.2.2.2⟩
    obtain ⟨h4, e4, x4, k4⟩ := ma_t C3
    have f4 := (w31_fr x4).wk (W' := w_pulpit) rfl
    obtain ⟨h5, e5⟩ : ∃ y, y = sI (sI (sI (sI h4 12 0 0 0) 12 0 13 a1) 12 0 14 a2) 12 0 15 a3 := ⟨_, rfl⟩
    have f5 : Fr [13000, 13013, 13014, 13015] h4 h5 := by rw [e5]; exact (((Fr_I _ _ _ _ _ rfl).tr (Fr_I _ _ _ _ _ rfl)).tr (Fr_I _ _ _ _ _ rfl)).tr (Fr_I _ _ _ _ _ rfl)
    refine ⟨0, h4, h5, ?_, ?_, f3.tr f4, (f3.tr f4).tr (f5.wk rfl), ?_, ?_, ?_⟩
    · unfold fX11_pulpit fX1_standPulpit
      simp only [br_or, point11, isWithin_0, o1, n1e5, lb_e]
      rw [br_n (by omega), ← e3, e4]
      rfl
    · unfold fX12_pulpit
      simp only [br_or, point12, in_0, to64, o1J, n1e5J, lb_e]
      rw [br_n (by omega), ← e5]
    · have R1 := R.1
      unfold Rc at R1 ⊢
      have y0 : gI h5 12 0 13 = a1 := by rw [e5]; simp [gI_sI]
      have y1 : gI h5 12 0 14 = a2 := by rw [e5]; simp [gI_sI]
      have y2 : gI h5 12 0 15 = a3 := by rw [e5]; simp [gI_sI]
      rw [y0, y1, y2]
      simp (disch := decide) only [f5.A, f5.I, (w31_fr x4).A, (w31_fr x4).I]
      rw [g0, g1, g2]
      simp (disch := decide) only [f3.A, f3.I]
      exact ⟨trivial, trivial, trivial, R1.2.2.2⟩
    · have C4 := Cc_e x4 C3
      unfold Cc at C4 ⊢
      simp (disch := decide) only [f5.A, f5.I]
      exact C4
    · unfold Kc iw1 he1 iw1 F1 at k4 ⊢
      simp (disch := decide) only [f5.A, f5.I]
      exact k4
  · refine Op_no rfl (r := -2) ?_ ?_ (RC_sm (thrown_sm rfl h) R)
    · unfold fX11_pulpit
      simp only [br_or, point11, isWithin_0, o1, n1e5]
      rw [br_p (by omega)]
    · unfold fX12_pulpit
      simp only [br_or, point12, in_0, to64, o1J, n1e5J, lb_e]
      rw [br_p (by omega)]
