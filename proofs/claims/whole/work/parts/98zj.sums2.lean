/-! ===== level 2: knock: the price's sum, two ways ===== -/
def Anti (d : Nat → Nat) : Prop := ∀ S T : Nat, (∀ j, S.testBit j = true → T.testBit j = true) → d T ≤ d S
theorem Anti_Dn {v : Nat → Nat} {n : Nat} {d : Nat → Nat} (a : Anti d) : Anti (Dn v n d) := fun S T q => by
  unfold Dn
  refine Nat.max_le.mpr ⟨Nat.le_trans (a S T q) (Nat.le_max_left _ _), mxf_le fun l hl => ?_⟩
  by_cases z : T.testBit l = false ∧ 0 < v l
  · rw [if_pos z]
    have zS : S.testBit l = false := by
      cases w : S.testBit l
      · rfl
      · have := q l w
        rw [z.1] at this
        cases this
    refine Nat.le_trans ?_ (Nat.le_max_right _ _)
    have := mxf_ge (f := fun k => if S.testBit k = false ∧ 0 < v k then v k + d (sad S k) else 0) hl
    rw [if_pos ⟨zS, z.2⟩] at this
    refine Nat.le_trans (Nat.add_le_add_left (a (sad S l) (sad T l) fun j hj => ?_) _) this
    rw [sad_t, Bool.or_eq_true] at hj ⊢
    rcases hj with w | w
    · exact Or.inl (q j w)
    · exact Or.inr w
  · rw [if_neg z]
    exact Nat.zero_le _
def Db (V : Nat → Nat → Nat) (n : Nat) : Nat → Nat → Nat
  | 0, _ => 0
  | j + 1, S => Dn (V (11 - j)) n (Db V n j) S
def Aa (V : Nat → Nat → Nat) (n : Nat) : Nat → Nat → Nat
  | 0, _ => 0
  | i + 1, S => An (V i) n (Aa V n i) S
theorem Db_anti (V : Nat → Nat → Nat) (n : Nat) : ∀ j, Anti (Db V n j) := by
  intro j
  induction j with
  | zero => intro S T _; exact Nat.le_refl _
  | succ j ih => exact Anti_Dn ih
theorem MX_0 {n : Nat} {d : Nat → Nat} (a : Anti d) : MX n (fun _ => 0) d = d 0 := by
  refine Nat.le_antisymm (mxf_le fun S _ => ?_) ?_
  · show 0 + d S ≤ d 0
    rw [Nat.zero_add]
    exact a 0 S fun j hj => by simp at hj
  · have := mxf_ge (f := fun S => 0 + d S) (n := 2 ^ n) (i := 0) (Nat.pos_of_ne_zero (by simp))
    simpa [MX] using this
def but (V : Nat → Nat → Nat) (h i l : Nat) : Nat := if i = h then 0 else V i l
theorem Db_ext {V V' : Nat → Nat → Nat} {n : Nat} : ∀ j, j ≤ 12 → (∀ i, 12 - j ≤ i → i < 12 → V i = V' i) → Db V n j = Db V' n j := by
  intro j
  induction j with
  | zero => intro _ _; rfl
  | succ j ih =>
    intro hj q
    funext S
    show Dn _ n _ S = Dn _ n _ S
    rw [ih (by omega) fun i h1 h2 => q i (by omega) h2, q (11 - j) (by omega) (by omega)]
theorem Dn_z {n : Nat} {d : Nat → Nat} {v : Nat → Nat} (hv : ∀ l, v l = 0) : Dn v n d = d := funext fun S => by
  unfold Dn
  have : mxf (fun l => if S.testBit l = false ∧ 0 < v l then v l + d (sad S l) else 0) n ≤ 0 := mxf_le fun l _ => by
    rw [if_neg fun z => by rw [hv l] at z; omega]
    exact Nat.le_refl _
  omega
/-- the sum without household h: those ahead and those behind -/
theorem sums_but (V : Nat → Nat → Nat) (n : Nat) {h : Nat} (hh : h < 12) : MX n (Aa V n h) (Db V n (11 - h)) = Db (but V h) n 12 0 := by
  have st : ∀ i, i ≤ h → MX n (Aa V n i) (Db (but V h) n (12 - i)) = Db (but V h) n 12 0 := by
    intro i
    induction i with
    | zero => intro _; exact MX_0 (Db_anti _ _ 12)
    | succ i ih =>
      intro hi
      rw [← ih (by omega)]
      have e1 : Aa V n (i + 1) = An (V i) n (Aa V n i) := rfl
      have e2 : Db (but V h) n (12 - i) = Dn (V i) n (Db (but V h) n (12 - (i + 1))) := by
        rw [show 12 - i = (12 - (i + 1)) + 1 by omega]
        funext S
        show Dn (but V h (11 - (12 - (i + 1)))) n _ S = _
        rw [show 11 - (12 - (i + 1)) = i by omega, show but V h i = V i from funext fun l => if_neg (by omega)]
      rw [e1, e2]
      exact MX_sw _ _ _ _
  rw [← st h (Nat.le_refl _)]
  have e3 : Db (but V h) n (12 - h) = Db V n (11 - h) := by
    rw [show 12 - h = (11 - h) + 1 by omega]
    have : Db (but V h) n ((11 - h) + 1) = Dn (but V h (11 - (11 - h))) n (Db (but V h) n (11 - h)) := rfl
    rw [this, Dn_z fun l => by rw [show 11 - (11 - h) = h by omega]; exact if_pos rfl]
    exact Db_ext _ (by omega) fun i h1 h2 => funext fun l => if_neg (by omega)
  rw [e3]
