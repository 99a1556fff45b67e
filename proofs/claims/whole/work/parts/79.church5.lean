/-! ===== level 2: the church: the class's tables of what is heard ===== -/
def Cc (h : Hp) : Prop := (0 ≤ (gI h 1 0 0).toInt ∧ (gI h 1 0 0).toInt ≤ 60) ∧ (0 ≤ (gI h 1 0 1).toInt ∧ (gI h 1 0 1).toInt ≤ 60) ∧ (1 ≤ (gI h 1 0 2).toInt ∧ (gI h 1 0 2).toInt ≤ 100000) ∧ (0 ≤ (gI h 1 0 3).toInt ∧ (gI h 1 0 3).toInt ≤ 8) ∧ (0 ≤ (gI h 1 0 7).toInt ∧ (gI h 1 0 7).toInt ≤ 8) ∧ (∀ p : Nat, (p : Int) < (gI h 1 0 3).toInt → (0 ≤ (gI h 23 0 p).toInt ∧ (gI h 23 0 p).toInt ≤ 60) ∧ (0 ≤ (gI h 24 0 p).toInt ∧ (gI h 24 0 p).toInt ≤ 60) ∧ (0 ≤ (gI h 25 0 p).toInt ∧ (gI h 25 0 p).toInt ≤ 5)) ∧ (∀ b : Nat, (b : Int) < (gI h 1 0 7).toInt → (0 ≤ (gI h 26 0 b).toInt ∧ (gI h 26 0 b).toInt + (gI h 28 0 b).toInt ≤ 61) ∧ (0 ≤ (gI h 27 0 b).toInt ∧ (gI h 27 0 b).toInt ≤ 60) ∧ (4 ≤ (gI h 28 0 b).toInt ∧ (gI h 28 0 b).toInt ≤ 32) ∧ (gI h 29 0 b = 0 ∨ gI h 29 0 b = 1))
def iw1 (h : Hp) (b : Nat) (u : Int32) : Int32 := iwn (F1 h (gI h 26 0 b + u) (gI h 27 0 b)) (ix (gI h 1 0 3))
def he1 (h : Hp) (b : Nat) (u : Int32) : Int32 := hev (gI h 1 0 2) (gI h 1 0 0) (gI h 1 0 1) (gI h 26 0 b + u) (gI h 27 0 b) (iw1 h b u) (gI h 29 0 b)
/-- the class's tables hold what is heard and seen -/
def Kc (h : Hp) : Prop := ∀ b u : Nat, (b : Int) < (gI h 1 0 7).toInt → (u : Int) < (gI h 28 0 b).toInt → gI h 31 0 (32 * b + u) = iw1 h b (Int32.ofNat u) ∧ gI h 30 0 (32 * b + u) = he1 h b (Int32.ofNat u)
def w31 (k _ : Nat) : Bool := k == 30 || k == 31
theorem e31 {h h' : Hp} (e : Eqx w31 h h') (k n i : Nat) (h1 : k ≠ 30) (h2 : k ≠ 31) : gI h' k n i = gI h k n i := e.1 k n i (by simp [w31, h1, h2])
theorem F1_e {h h' : Hp} (e : Eqx w31 h h') : F1 h' = F1 h := by
  funext x y p
  unfold F1
  rw [e31 e 1 0 0 (by decide) (by decide), e31 e 1 0 1 (by decide) (by decide), e31 e 23 0 p (by decide) (by decide), e31 e 24 0 p (by decide) (by decide), e31 e 25 0 p (by decide) (by decide)]
theorem iw1_e {h h' : Hp} (e : Eqx w31 h h') (b : Nat) (u : Int32) : iw1 h' b u = iw1 h b u := by
  unfold iw1
  rw [F1_e e, e31 e 26 0 b (by decide) (by decide), e31 e 27 0 b (by decide) (by decide), e31 e 1 0 3 (by decide) (by decide)]
theorem he1_e {h h' : Hp} (e : Eqx w31 h h') (b : Nat) (u : Int32) : he1 h' b u = he1 h b u := by
  unfold he1
  rw [iw1_e e, e31 e 26 0 b (by decide) (by decide), e31 e 27 0 b (by decide) (by decide), e31 e 29 0 b (by decide) (by decide), e31 e 1 0 0 (by decide) (by decide), e31 e 1 0 1 (by decide) (by decide), e31 e 1 0 2 (by decide) (by decide)]
theorem Cc_e {h h' : Hp} (e : Eqx w31 h h') (C : Cc h) : Cc h' := by
  unfold Cc at C ⊢
  simp only [e31 e 1 0 _ (by decide) (by decide), e31 e 23 0 _ (by decide) (by decide), e31 e 24 0 _ (by decide) (by decide), e31 e 25 0 _ (by decide) (by decide), e31 e 26 0 _ (by decide) (by decide), e31 e 27 0 _ (by decide) (by decide), e31 e 28 0 _ (by decide) (by decide), e31 e 29 0 _ (by decide) (by decide)]
  exact C
theorem n32 : (32 : Int32).toInt = 32 := by decide
theorem at32 {a b : Int32} (ha : 0 ≤ a.toInt ∧ a.toInt ≤ 8) (hb : 0 ≤ b.toInt ∧ b.toInt ≤ 32) : (a * 32 + b).toInt = 32 * a.toInt + b.toInt ∧ ((32 : Int32) * a + b).toInt = 32 * a.toInt + b.toInt := by
  have e2 : (a * (32 : Int32)).toInt = 32 * a.toInt := by rw [mul32 (by rw [n32]; omega) (by rw [n32]; omega), n32]; omega
  have e1 : ((32 : Int32) * a).toInt = 32 * a.toInt := by rw [mul32 (by rw [n32]; omega) (by rw [n32]; omega), n32]
  exact ⟨by rw [add32 (by rw [e2]; omega) (by rw [e2]; omega), e2], by rw [add32 (by rw [e1]; omega) (by rw [e1]; omega), e1]⟩
theorem inw1 {h : Hp} (C : Cc h) (a1 a2 x y : Int32) : ∃ v, fX1_measureBench_L35 FU a1 a2 x y 0 0 h = some ((iwn (F1 h x y) (ix (gI h 1 0 3)), v), h) := cnt1 a1 a2 x y h C.2.2.2.1 FU 0 0 z0 (by have := C.2.2.2.1; omega) (by have := C.2.2.2.1; show _ < 100000; omega)
/-- one bench is measured, from unit j on -/
theorem mb_L {a1 : Int32} : ∀ (n j : Nat) (a2 : Int32) (h : Hp), Cc h → 0 ≤ a1.toInt ∧ a1.toInt < (gI h 1 0 7).toInt → a2.toInt = (j : Int) → (j : Int) ≤ (gI h 28 0 (ix a1)).toInt → ((gI h 28 0 (ix a1)).toInt - j).toNat < n → ∃ v h', fX1_measureBench_L2 n a1 a2 h = some (v, h') ∧ Eqx w31 h h' ∧ ∀ i, (32 * ix a1 + j ≤ i ∧ (i : Int) < 32 * ix a1 + (gI h 28 0 (ix a1)).toInt → gI h' 31 0 i = iw1 h (ix a1) (Int32.ofNat (i - 32 * ix a1)) ∧ gI h' 30 0 i = he1 h (ix a1) (Int32.ofNat (i - 32 * ix a1))) ∧ (¬ (32 * ix a1 + j ≤ i ∧ (i : Int) < 32 * ix a1 + (gI h 28 0 (ix a1)).toInt) → gI h' 31 0 i = gI h 31 0 i ∧ gI h' 30 0 i = gI h 30 0 i) := by
  intro n
  induction n with
  | zero => intro j a2 h _ _ _ _ q; omega
  | succ n ih =>
    intro j a2 h C hb ej q1 q2
    obtain ⟨C1, C2, C3, C4, C5, C6, C7⟩ := id C
    have ei : ((ix a1 : Nat) : Int) = a1.toInt := by unfold ix; omega
    obtain ⟨B1, B2, B3, B4⟩ := C7 (ix a1) (by omega)
    have hi1 : ib a1 8 := ⟨hb.1, by show _ < ((8 : Nat) : Int); omega⟩
    rw [fX1_measureBench_L2, gd_p hi1]
    by_cases q : gI h 28 0 (ix a1) ≤ a2
    · have := i32_le.mp q
      refine ⟨a2, h, br_p q, Eqx.rf _ _, fun i => ⟨fun z => by omega, fun _ => ⟨rfl, rfl⟩⟩⟩
    · have hlt : a2.toInt < (gI h 28 0 (ix a1)).toInt := Int.not_le.mp fun z => q (i32_le.mpr z)
      have e2 : (a2 + 1).toInt = a2.toInt + 1 := i32_succ hlt (by omega)
      have ex : (gI h 26 0 (ix a1) + a2).toInt = (gI h 26 0 (ix a1)).toInt + a2.toInt := add32 (by omega) (by omega)
      have ev := (at32 (a := a1) (b := a2) (by omega) (by omega)).1
      have hv16 : ib (a1 * 32 + a2) 256 := ⟨by rw [ev]; omega, by rw [ev]; show _ < ((256 : Nat) : Int); omega⟩
      have exi : ix (a1 * 32 + a2) = 32 * ix a1 + j := by unfold ix; omega
      obtain ⟨v, hv⟩ := inw1 C a1 a2 (gI h 26 0 (ix a1) + a2) (gI h 27 0 (ix a1))
      have ea2 : Int32.ofNat j = a2 := i32_eq.mpr (by rw [ofNat_i (by omega), ej])
      rw [br_n q, gd_p hi1, lb_e, gd_p hi1, lb_e, bd_s hv, lb_e, lb_e, lb_e, gd_p hv16, lb_e, gd_p hi1]
      obtain ⟨h18, e18⟩ : ∃ y, y = sI h 31 0 (ix (a1 * 32 + a2)) (iwn (F1 h (gI h 26 0 (ix a1) + a2) (gI h 27 0 (ix a1))) (ix (gI h 1 0 3))) := ⟨_, rfl⟩
      have x18 : Eqx w31 h h18 := by rw [e18]; exact Eqx_I _ _ _ _ _ rfl
      rw [← e18]
      have C18 := Cc_e x18 C
      have hh := heard1 (x := gI h 26 0 (ix a1) + a2) (y := gI h 27 0 (ix a1)) (n := iwn (F1 h (gI h 26 0 (ix a1) + a2) (gI h 27 0 (ix a1))) (ix (gI h 1 0 3))) (g := gI h18 29 0 (ix a1)) (h := h18) C18.1 C18.2.1 (by omega) (by omega)
      rw [bd_s hh, gd_p hv16, lb_e, lb_e]
      obtain ⟨h23, e23⟩ : ∃ y, y = sI h18 30 0 (ix (a1 * 32 + a2)) (hev (gI h18 1 0 2) (gI h18 1 0 0) (gI h18 1 0 1) (gI h 26 0 (ix a1) + a2) (gI h 27 0 (ix a1)) (iwn (F1 h (gI h 26 0 (ix a1) + a2) (gI h 27 0 (ix a1))) (ix (gI h 1 0 3))) (gI h18 29 0 (ix a1))) := ⟨_, rfl⟩
      rw [← e23]
      have x23 : Eqx w31 h h23 := x18.tr (by rw [e23]; exact Eqx_I _ _ _ _ _ rfl)
      have C23 := Cc_e x23 C
      have u7 := e31 x23 1 0 7 (by decide) (by decide)
      have u28 := e31 x23 28 0 (ix a1) (by decide) (by decide)
      obtain ⟨v2, h', k1, k2, k3⟩ := ih (j + 1) (a2 + 1) h23 C23 (by rw [u7]; exact hb) (by omega) (by rw [u28]; omega) (by rw [u28]; omega)
      rw [u28] at k3
      refine ⟨v2, h', k1, x23.tr k2, fun i => ?_⟩
      have t31 : gI h23 31 0 i = if i = 32 * ix a1 + j then iw1 h (ix a1) a2 else gI h 31 0 i := by
        rw [e23, gI_sI, if_neg (by omega), e18, gI_sI, exi]
        by_cases z : i = 32 * ix a1 + j
        · rw [if_pos ⟨rfl, rfl, z⟩, if_pos z]; rfl
        · rw [if_neg fun w => z w.2.2, if_neg z]
      have t30 : gI h23 30 0 i = if i = 32 * ix a1 + j then he1 h (ix a1) a2 else gI h 30 0 i := by
        rw [e23, gI_sI, exi]
        by_cases z : i = 32 * ix a1 + j
        · rw [if_pos ⟨rfl, rfl, z⟩, if_pos z, e31 x18 1 0 0 (by decide) (by decide), e31 x18 1 0 1 (by decide) (by decide), e31 x18 1 0 2 (by decide) (by decide), e31 x18 29 0 _ (by decide) (by decide)]; rfl
        · rw [if_neg fun w => z w.2.2, if_neg z, e18, gI_sI, if_neg (by omega)]
      obtain ⟨k4, k5⟩ := k3 i
      by_cases z : 32 * ix a1 + (j + 1) ≤ i ∧ (i : Int) < 32 * ix a1 + (gI h 28 0 (ix a1)).toInt
      · have k6 := k4 z
        refine ⟨fun _ => ?_, fun w => absurd ⟨by omega, z.2⟩ w⟩
        rw [k6.1, k6.2, iw1_e x23, he1_e x23]
        exact ⟨rfl, rfl⟩
      · have k6 := k5 z
        rw [k6.1, k6.2, t31, t30]
        refine ⟨fun w => ?_, fun w => ?_⟩
        · have : i = 32 * ix a1 + j := by omega
          rw [if_pos this, if_pos this, this, show 32 * ix a1 + j - 32 * ix a1 = j by omega, ea2]
          exact ⟨rfl, rfl⟩
        · have : ¬ i = 32 * ix a1 + j := fun y => w ⟨by omega, by rw [y]; push_cast; omega⟩
          rw [if_neg this, if_neg this]
          exact ⟨rfl, rfl⟩
