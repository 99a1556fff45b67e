/-! ===== level 2: knock: sums, ahead and behind ===== -/
def mxf (f : Nat → Nat) : Nat → Nat
  | 0 => 0
  | k + 1 => max (mxf f k) (f k)
theorem mxf_ge {f : Nat → Nat} : ∀ {n i : Nat}, i < n → f i ≤ mxf f n := by
  intro n
  induction n with
  | zero => intro i h; omega
  | succ n ih =>
    intro i h
    rw [mxf]
    by_cases e : i = n
    · rw [e]; exact Nat.le_max_right _ _
    · exact Nat.le_trans (ih (by omega)) (Nat.le_max_left _ _)
theorem mxf_le {f : Nat → Nat} {b : Nat} : ∀ {n : Nat}, (∀ i, i < n → f i ≤ b) → mxf f n ≤ b := by
  intro n
  induction n with
  | zero => intro _; exact Nat.zero_le _
  | succ n ih =>
    intro h
    rw [mxf]
    exact Nat.max_le.mpr ⟨ih fun i hi => h i (by omega), h n (by omega)⟩
theorem mxf_ext {f g : Nat → Nat} : ∀ {n : Nat}, (∀ i, i < n → f i = g i) → mxf f n = mxf g n := by
  intro n
  induction n with
  | zero => intro _; rfl
  | succ n ih =>
    intro h
    rw [mxf, mxf, ih fun i hi => h i (by omega), h n (by omega)]
def sad (S l : Nat) : Nat := S ||| 2 ^ l
def sxo (S l : Nat) : Nat := S ^^^ 2 ^ l
theorem sad_t (S l j : Nat) : (sad S l).testBit j = (S.testBit j || decide (l = j)) := by
  unfold sad
  rw [Nat.testBit_or, Nat.testBit_two_pow]
theorem sxo_t (S l j : Nat) : (sxo S l).testBit j = (S.testBit j ^^ decide (l = j)) := by
  unfold sxo
  rw [Nat.testBit_xor, Nat.testBit_two_pow]
theorem sxo_sad {S l : Nat} (h : S.testBit l = false) : sxo (sad S l) l = S := Nat.eq_of_testBit_eq fun j => by
  rw [sxo_t, sad_t]
  by_cases e : l = j
  · subst e; rw [h]; simp
  · simp [e]
theorem sad_sxo {S l : Nat} (h : S.testBit l = true) : sad (sxo S l) l = S := Nat.eq_of_testBit_eq fun j => by
  rw [sad_t, sxo_t]
  by_cases e : l = j
  · subst e; rw [h]; simp
  · simp [e]
theorem sad_lt {S l n : Nat} (hS : S < 2 ^ n) (hl : l < n) : sad S l < 2 ^ n := Nat.or_lt_two_pow hS (Nat.pow_lt_pow_right (by omega) hl)
theorem sxo_lt {S l n : Nat} (hS : S < 2 ^ n) (hl : l < n) : sxo S l < 2 ^ n := Nat.xor_lt_two_pow hS (Nat.pow_lt_pow_right (by omega) hl)
/-- behind: one row more (offers v of one household) -/
def Dn (v : Nat → Nat) (n : Nat) (d : Nat → Nat) (S : Nat) : Nat := max (d S) (mxf (fun l => if S.testBit l = false ∧ 0 < v l then v l + d (sad S l) else 0) n)
/-- ahead: one row more -/
def An (v : Nat → Nat) (n : Nat) (a : Nat → Nat) (S : Nat) : Nat := max (a S) (mxf (fun l => if S.testBit l = true ∧ 0 < v l then v l + a (sxo S l) else 0) n)
def MX (n : Nat) (a d : Nat → Nat) : Nat := mxf (fun S => a S + d S) (2 ^ n)
/-- what one household adds may stand ahead or behind -/
theorem MX_sw (v : Nat → Nat) (n : Nat) (a d : Nat → Nat) : MX n (An v n a) d = MX n a (Dn v n d) := by
  refine Nat.le_antisymm (mxf_le fun S hS => ?_) (mxf_le fun S hS => ?_)
  · have g0 : a S + d S ≤ MX n a (Dn v n d) := Nat.le_trans (Nat.add_le_add_left (Nat.le_max_left _ _) _) (mxf_ge (f := fun S => a S + Dn v n d S) hS)
    have g1 : mxf (fun l => if S.testBit l = true ∧ 0 < v l then v l + a (sxo S l) else 0) n ≤ MX n a (Dn v n d) - d S := mxf_le fun l hl => by
      by_cases z : S.testBit l = true ∧ 0 < v l
      · rw [if_pos z]
        have h1 := mxf_ge (f := fun S => a S + Dn v n d S) (sxo_lt hS hl)
        have h2 : v l + d S ≤ Dn v n d (sxo S l) := by
          refine Nat.le_trans ?_ (Nat.le_max_right _ _)
          have := mxf_ge (f := fun k => if (sxo S l).testBit k = false ∧ 0 < v k then v k + d (sad (sxo S l) k) else 0) hl
          rw [if_pos ⟨by rw [sxo_t, z.1]; simp, z.2⟩, sad_sxo z.1] at this
          exact this
        have h3 : a (sxo S l) + Dn v n d (sxo S l) ≤ MX n a (Dn v n d) := h1
        omega
      · rw [if_neg z]
        exact Nat.zero_le _
    show max (a S) _ + d S ≤ _
    rcases Nat.le_total (a S) (mxf (fun l => if S.testBit l = true ∧ 0 < v l then v l + a (sxo S l) else 0) n) with w | w
    · rw [Nat.max_eq_right w]; omega
    · rw [Nat.max_eq_left w]; exact g0
  · have g0 : a S + d S ≤ MX n (An v n a) d := Nat.le_trans (Nat.add_le_add_right (Nat.le_max_left _ _) _) (mxf_ge (f := fun S => An v n a S + d S) hS)
    have g1 : mxf (fun l => if S.testBit l = false ∧ 0 < v l then v l + d (sad S l) else 0) n ≤ MX n (An v n a) d - a S := mxf_le fun l hl => by
      by_cases z : S.testBit l = false ∧ 0 < v l
      · rw [if_pos z]
        have h1 := mxf_ge (f := fun S => An v n a S + d S) (sad_lt hS hl)
        have h2 : v l + a S ≤ An v n a (sad S l) := by
          refine Nat.le_trans ?_ (Nat.le_max_right _ _)
          have := mxf_ge (f := fun k => if (sad S l).testBit k = true ∧ 0 < v k then v k + a (sxo (sad S l) k) else 0) hl
          rw [if_pos ⟨by rw [sad_t]; simp, z.2⟩, sxo_sad z.1] at this
          exact this
        have h3 : An v n a (sad S l) + d (sad S l) ≤ MX n (An v n a) d := h1
        omega
      · rw [if_neg z]
        exact Nat.zero_le _
    show a S + max (d S) _ ≤ _
    rcases Nat.le_total (d S) (mxf (fun l => if S.testBit l = false ∧ 0 < v l then v l + d (sad S l) else 0) n) with w | w
    · rw [Nat.max_eq_right w]; omega
    · rw [Nat.max_eq_left w]; exact g0
