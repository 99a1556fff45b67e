/-! ===== level 2: the start: the class ===== -/
theorem Nn_0 {j : Nat} : Nn j h00 := fun _ _ => rfl
theorem Nn_nw {j : Nat} {h : Hp} {k z : Nat} (q : Nn j h) (w : Nat.blt k j = true) : Nn j (nw h k z) := fun a ha => by
  have : k < j := Nat.le_of_ble_eq_true w
  rw [gN_nw, if_neg (by omega)]
  exact q a ha
theorem Nn_R {j : Nat} {h : Hp} {k n i : Nat} {v : Option Nat} (q : Nn j h) : Nn j (sR h k n i v) := q
theorem Nn_I {j : Nat} {h : Hp} {k n i : Nat} {v : Int32} (q : Nn j h) : Nn j (sI h k n i v) := q
theorem Nn_f {j : Nat} {h : Hp} {k n a e : Nat} {v : Int32} (q : Nn j h) : Nn j (flI h k n a e v) := q
def lyA : List (Nat × Nat) := lyL.filter (fun q => !(q.1 == 12))
set_option maxRecDepth 20000 in
theorem iA : ∃ hA, fX11_init 0 (nw h00 11 15) = some ((), hA) ∧ (gN hA 12 = 0 ∧ gC hA + 1 ≤ 900 ∧ gS hA + 79 ≤ 600000) ∧ (gN hA 2 = 0 ∧ gN hA 5 = 0 ∧ gN hA 8 = 1 ∧ gN hA 41 = 1 ∧ gN hA 42 = 1 ∧ gN hA 43 = 1 ∧ gN hA 44 = 1) ∧ (gR hA 8 0 0 = some 0 ∧ gR hA 8 0 1 = some 0 ∧ gR hA 8 0 2 = some 0 ∧ gR hA 8 0 3 = some 0) ∧ (gI hA 1 0 0 = 30 ∧ gI hA 1 0 1 = 60 ∧ gI hA 1 0 2 = 4000 ∧ gI hA 11 0 12 = 3 ∧ gI hA 11 0 13 = 10) ∧ (∀ q, q ∈ lyA → q.1 < 13 ∧ gR hA q.1 0 q.2 = some 0) ∧ Zr zSt hA ∧ Nn 54 hA ∧ Kp 33 1600 hA ∧ Kp 37 12 hA ∧ Kp 39 4 hA := by
  refine ⟨_, rfl, ?_, ?_, ?_, ?_, ?_, ?_, ?_, ?_, ?_, ?_⟩
  · decide +kernel
  · decide +kernel
  · decide +kernel
  · decide +kernel
  · decide +kernel
  · repeat (first | (with_reducible exact Zr_0 _) | (with_reducible apply Zr_nw) | (with_reducible apply Zr_R) | ((with_reducible refine Zr_I ?_ ?w); case w => rfl) | ((with_reducible refine Zr_f ?_ ?w1 ?w2); (case w1 => omega); (case w2 => rfl)))
  · repeat (first | exact Nn_0 | refine Nn_nw ?_ rfl | apply Nn_R | apply Nn_I | apply Nn_f)
  · repeat (first | exact Kp_b | refine Kp_nw ?_ rfl | apply Kp_R | refine Kp_I ?_ rfl | refine Kp_f ?_ rfl)
  · repeat (first | exact Kp_b | refine Kp_nw ?_ rfl | apply Kp_R | refine Kp_I ?_ rfl | refine Kp_f ?_ rfl)
  · repeat (first | exact Kp_b | refine Kp_nw ?_ rfl | apply Kp_R | refine Kp_I ?_ rfl | refine Kp_f ?_ rfl)
