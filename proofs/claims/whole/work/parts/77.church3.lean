/-! ===== level 2: the church: what is heard ===== -/
/-- the reference's church is as it may be -/
def Cm (h : Hp) : Prop := (0 ≤ (gI h 12 0 13).toInt ∧ (gI h 12 0 13).toInt ≤ 60) ∧ (0 ≤ (gI h 12 0 14).toInt ∧ (gI h 12 0 14).toInt ≤ 60) ∧ (1 ≤ (gI h 12 0 15).toInt ∧ (gI h 12 0 15).toInt ≤ 100000) ∧ (0 ≤ (gI h 12 0 6).toInt ∧ (gI h 12 0 6).toInt ≤ 8) ∧ (0 ≤ (gI h 12 0 7).toInt ∧ (gI h 12 0 7).toInt ≤ 8) ∧ (∀ p : Nat, (p : Int) < (gI h 12 0 6).toInt → (0 ≤ (gI h 58 0 p).toInt ∧ (gI h 58 0 p).toInt ≤ 60) ∧ (0 ≤ (gI h 59 0 p).toInt ∧ (gI h 59 0 p).toInt ≤ 60) ∧ (0 ≤ (gI h 60 0 p).toInt ∧ (gI h 60 0 p).toInt ≤ 5)) ∧ (∀ b : Nat, (b : Int) < (gI h 12 0 7).toInt → (0 ≤ (gI h 61 0 b).toInt ∧ (gI h 61 0 b).toInt + (gI h 63 0 b).toInt ≤ 61) ∧ (0 ≤ (gI h 62 0 b).toInt ∧ (gI h 62 0 b).toInt ≤ 60) ∧ (4 ≤ (gI h 63 0 b).toInt ∧ (gI h 63 0 b).toInt ≤ 32) ∧ (gI h 64 0 b = 0 ∨ gI h 64 0 b = 1))
theorem cnt12 {a1 a2 : Int32} {h : Hp} (C : Cm h) (hb : 0 ≤ a1.toInt ∧ a1.toInt < (gI h 12 0 7).toInt) (hu : 0 ≤ a2.toInt ∧ a2.toInt < (gI h 63 0 (ix a1)).toInt) : ∀ (n j : Nat) (a4 : Int32), a4.toInt = (j : Int) → (j : Int) ≤ (gI h 12 0 6).toInt → ((gI h 12 0 6).toInt - j).toNat < n → ∃ v, fX12_inWay_L5 n a1 a2 (iwn (F12 h (gI h 61 0 (ix a1) + a2) (gI h 62 0 (ix a1))) j) a4 h = some ((iwn (F12 h (gI h 61 0 (ix a1) + a2) (gI h 62 0 (ix a1))) (ix (gI h 12 0 6)), v), h) := by
  obtain ⟨C1, C2, C3, C4, C5, C6, C7⟩ := C
  obtain ⟨B1, B2, B3, B4⟩ := C7 (ix a1) (by unfold ix; omega)
  have hi1 : ib a1 8 := ⟨hb.1, by show _ < ((8 : Nat) : Int); omega⟩
  have ex : (gI h 61 0 (ix a1) + a2).toInt = (gI h 61 0 (ix a1)).toInt + a2.toInt := add32 (by omega) (by omega)
  generalize eX : gI h 61 0 (ix a1) + a2 = x at *
  generalize eY : gI h 62 0 (ix a1) = y at *
  intro n
  induction n with
  | zero => intro j a4 _ _ q; omega
  | succ n ih =>
    intro j a4 e1 q1 q2
    rw [fX12_inWay_L5]
    by_cases q : gI h 12 0 6 ≤ a4
    · have := i32_le.mp q
      rw [br_p q, show ix (gI h 12 0 6) = j by unfold ix; omega]
      exact ⟨_, rfl⟩
    · have hlt : a4.toInt < (gI h 12 0 6).toInt := Int.not_le.mp fun z => q (i32_le.mpr z)
      have e2 : (a4 + 1).toInt = a4.toInt + 1 := i32_succ hlt (by omega)
      have e3 : ix a4 = j := by unfold ix; omega
      obtain ⟨P1, P2, P3⟩ := C6 (ix a4) (by rw [e3]; omega)
      rw [br_n q, gd_p hi1, gd_p hi1, eX, eY, bd_s (inWay12 ⟨by omega, by show _ < ((8 : Nat) : Int); omega⟩ C1 C2 P1 P2 P3 (by omega) B2)]
      obtain ⟨v, hv⟩ := ih (j + 1) (a4 + 1) (by omega) (by omega) (by omega)
      refine ⟨v, ?_⟩
      have e4 : F12 h x y j = iwp (gI h 12 0 13) (gI h 12 0 14) (gI h 58 0 (ix a4)) (gI h 59 0 (ix a4)) (gI h 60 0 (ix a4)) x y := by rw [e3]; rfl
      rw [← e4]
      rcases iwp_z (gI h 12 0 13) (gI h 12 0 14) (gI h 58 0 j) (gI h 59 0 j) (gI h 60 0 j) x y with z | z
      · rw [br_p (show F12 h x y j = 0 from z), lb_e, lb_e]
        rw [show iwn (F12 h x y) j + 0 = iwn (F12 h x y) (j + 1) by show _ = iwn (F12 h x y) j + F12 h x y j; rw [show F12 h x y j = 0 from z]]
        exact hv
      · rw [br_n (by rw [show F12 h x y j = 1 from z]; decide), lb_e, lb_e]
        rw [show iwn (F12 h x y) j + 1 = iwn (F12 h x y) (j + 1) by show _ = iwn (F12 h x y) j + F12 h x y j; rw [show F12 h x y j = 1 from z]]
        exact hv
/-- how many pillars are in the way at unit u of bench b -/
def iwb (h : Hp) (b u : Int32) : Int32 := iwn (F12 h (gI h 61 0 (ix b) + u) (gI h 62 0 (ix b))) (ix (gI h 12 0 6))
theorem inWay12_t {a1 a2 : Int32} {h : Hp} (C : Cm h) (hb : 0 ≤ a1.toInt ∧ a1.toInt < (gI h 12 0 7).toInt) (hu : 0 ≤ a2.toInt ∧ a2.toInt < (gI h 63 0 (ix a1)).toInt) : fX12_inWay a1 a2 h = some (iwb h a1 a2, h) := by
  obtain ⟨v, hv⟩ := cnt12 C hb hu FU 0 0 z0 (by have := C.2.2.2.1; omega) (by have := C.2.2.2.1; show _ < 100000; omega)
  have hv : fX12_inWay_L5 FU a1 a2 0 0 h = some ((iwb h a1 a2, v), h) := hv
  unfold fX12_inWay
  rw [bd_s hv]
  rfl
theorem iwb_b (h : Hp) (C : Cm h) (b u : Int32) : 0 ≤ (iwb h b u).toInt ∧ (iwb h b u).toInt ≤ 8 := by
  have := C.2.2.2.1
  have k := iwn_b (F := F12 h (gI h 61 0 (ix b) + u) (gI h 62 0 (ix b))) (fun p => iwp_z _ _ _ _ _ _ _) (ix (gI h 12 0 6)) (by unfold ix; omega)
  unfold iwb
  unfold ix at k ⊢
  omega
theorem div32 {x y : Int32} (hx : 0 ≤ x.toInt) (hy : 0 < y.toInt) : (x / y).toInt = x.toInt / y.toInt := by
  have b := i32_b x
  rw [Int32.toInt_div, Int.tdiv_eq_ediv_of_nonneg hx]
  have h1 : x.toInt / y.toInt ≤ x.toInt := Int.ediv_le_self _ hx
  have h2 : 0 ≤ x.toInt / y.toInt := Int.ediv_nonneg hx (by omega)
  exact Int.bmod_eq_of_le (by omega) (by omega)
theorem n2 : (2 : Int32).toInt = 2 := by decide
theorem shv {a s : Int32} (hs : 0 ≤ s.toInt ∧ s.toInt ≤ 8) : (a >>> (s &&& 31)).toInt = a.toInt / 2 ^ s.toInt.toNat := by
  have hc : s = 0 ∨ s = 1 ∨ s = 2 ∨ s = 3 ∨ s = 4 ∨ s = 5 ∨ s = 6 ∨ s = 7 ∨ s = 8 := by
    have e : ∀ k : Int32, s.toInt = k.toInt → s = k := fun k z => i32_eq.mpr z
    have : s.toInt = 0 ∨ s.toInt = 1 ∨ s.toInt = 2 ∨ s.toInt = 3 ∨ s.toInt = 4 ∨ s.toInt = 5 ∨ s.toInt = 6 ∨ s.toInt = 7 ∨ s.toInt = 8 := by omega
    rcases this with z | z | z | z | z | z | z | z | z
    · exact Or.inl (e 0 (z.trans (by decide)))
    · exact Or.inr (Or.inl (e 1 (z.trans (by decide))))
    · exact Or.inr (Or.inr (Or.inl (e 2 (z.trans (by decide)))))
    · exact Or.inr (Or.inr (Or.inr (Or.inl (e 3 (z.trans (by decide))))))
    · exact Or.inr (Or.inr (Or.inr (Or.inr (Or.inl (e 4 (z.trans (by decide)))))))
    · exact Or.inr (Or.inr (Or.inr (Or.inr (Or.inr (Or.inl (e 5 (z.trans (by decide))))))))
    · exact Or.inr (Or.inr (Or.inr (Or.inr (Or.inr (Or.inr (Or.inl (e 6 (z.trans (by decide)))))))))
    · exact Or.inr (Or.inr (Or.inr (Or.inr (Or.inr (Or.inr (Or.inr (Or.inl (e 7 (z.trans (by decide))))))))))
    · exact Or.inr (Or.inr (Or.inr (Or.inr (Or.inr (Or.inr (Or.inr (Or.inr (e 8 (z.trans (by decide))))))))))
  rcases hc with rfl | rfl | rfl | rfl | rfl | rfl | rfl | rfl | rfl
  · rw [pk_shr a _ 0 (by decide)]; exact Int.shiftRight_eq_div_pow _ _
  · rw [pk_shr a _ 1 (by decide)]; exact Int.shiftRight_eq_div_pow _ _
  · rw [pk_shr a _ 2 (by decide)]; exact Int.shiftRight_eq_div_pow _ _
  · rw [pk_shr a _ 3 (by decide)]; exact Int.shiftRight_eq_div_pow _ _
  · rw [pk_shr a _ 4 (by decide)]; exact Int.shiftRight_eq_div_pow _ _
  · rw [pk_shr a _ 5 (by decide)]; exact Int.shiftRight_eq_div_pow _ _
  · rw [pk_shr a _ 6 (by decide)]; exact Int.shiftRight_eq_div_pow _ _
  · rw [pk_shr a _ 7 (by decide)]; exact Int.shiftRight_eq_div_pow _ _
  · rw [pk_shr a _ 8 (by decide)]; exact Int.shiftRight_eq_div_pow _ _
theorem halve (a1 : Int32) (h : Hp) : ∀ (n : Nat) (a s : Int32), 0 ≤ a.toInt → 0 ≤ s.toInt ∧ s.toInt ≤ 8 → s.toInt.toNat < n → ∃ v, fX12_hearing_L54 n a1 a s h = some ((a >>> (s &&& 31), v), h) := by
  intro n
  induction n with
  | zero => intro a s _ _ q; omega
  | succ n ih =>
    intro a s h1 h2 h3
    rw [fX12_hearing_L54]
    by_cases q : s ≤ 0
    · have := i32_le.mp q
      rw [z0] at this
      have e : a >>> (s &&& 31) = a := i32_eq.mpr (by rw [shv h2, show s.toInt.toNat = 0 by omega]; simp)
      rw [br_p q, e]
      exact ⟨_, rfl⟩
    · have hp : 0 < s.toInt := Int.not_le.mp fun z => q (i32_le.mpr (by rw [z0]; exact z))
      have e1 : (a / 2).toInt = a.toInt / 2 := by rw [div32 h1 (by rw [n2]; omega), n2]
      have e2 : (s + (-1)).toInt = s.toInt - 1 := by rw [add32 (by rw [n1]; omega) (by rw [n1]; omega), n1]; omega
      rw [br_n q, lb_e, lb_e]
      obtain ⟨v, hv⟩ := ih (a / 2) (s + (-1)) (by rw [e1]; omega) (by rw [e2]; omega) (by rw [e2]; omega)
      refine ⟨v, hv.trans ?_⟩
      have e3 : (a / 2) >>> ((s + (-1)) &&& 31) = a >>> (s &&& 31) := by
        refine i32_eq.mpr ?_
        rw [shv (by rw [e2]; omega), shv h2, e1, e2]
        have e4 : s.toInt.toNat = (s.toInt - 1).toNat + 1 := by omega
        rw [e4, Int.pow_succ, Int.mul_comm, Int.ediv_ediv_of_nonneg (by omega)]
      rw [e3]
