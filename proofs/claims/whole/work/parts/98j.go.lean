/-! ===== level 2: go ===== -/
theorem g27_L {m0 : Hp} {H y : Nat} (hH : H ≤ 12) (hy : y ≤ 198) (h104 : ∀ i, i < H → gI m0 99 0 i = -1 ∨ gI m0 104 0 i = 0 ∨ gI m0 104 0 i = 1) : ∀ (f j : Nat) (m : Hp), j ≤ H → H - j < f → gI m 12 0 8 = nZ H → gI m 12 0 5 = nZ y → Fr [88, 89, 90, 91, 92] m0 m → Wp (fX12_go_L27 f (nZ (cnt (stB m0) j)) (nZ j) m) (fun r m' => r.1 = nZ (cnt (stB m0) H) ∧ Fr [88, 89, 90, 91, 92] m m' ∧ ∀ i t, t < 200 → (gI m' 88 0 (200 * i + t) = if t = y ∧ j ≤ i ∧ i < H then gI m0 99 0 i else gI m 88 0 (200 * i + t)) ∧ (gI m' 89 0 (200 * i + t) = if (t = y ∧ j ≤ i ∧ i < H) ∧ stB m0 i = true then gI m0 100 0 i else gI m 89 0 (200 * i + t)) ∧ (gI m' 90 0 (200 * i + t) = if (t = y ∧ j ≤ i ∧ i < H) ∧ stB m0 i = true then gI m0 66 0 i else gI m 90 0 (200 * i + t)) ∧ (gI m' 91 0 (200 * i + t) = if (t = y ∧ j ≤ i ∧ i < H) ∧ stB m0 i = true then gI m0 101 0 i else gI m 91 0 (200 * i + t)) ∧ (gI m' 92 0 (200 * i + t) = if (t = y ∧ j ≤ i ∧ i < H) ∧ stB m0 i = true then gI m0 104 0 i else gI m 92 0 (200 * i + t))) := by
  intro f
  induction f with
  | zero => intro j m _ q; omega
  | succ f ih =>
    intro j m hj hf e8 ey f0
    rw [fX12_go_L27, e8, ey]
    simp (disch := omega) only [lb_e, nZ_le, nZ_suc, nZ_x200, nZ_add, nZ_ib, nZ_ix]
    by_cases q : j = H
    · subst q
      rw [br_p (by omega), wp_some]
      refine ⟨rfl, Fr.rf _ _, fun i t ht => ⟨?_, ?_, ?_, ?_, ?_⟩⟩ <;> rw [if_neg (by omega)]
    · rw [br_n (by omega)]
      simp only [gd_p (by omega : j < 12), gd_p (by omega : 200 * j + y < 2400)]
      rw [gI_o (by decide), f0.A 99 0 j rfl]
      have key : ∀ (i t : Nat), t < 200 → (200 * i + t = 200 * j + y ↔ (i = j ∧ t = y)) := fun i t ht => by omega
      by_cases z : gI m0 99 0 j = -1
      · rw [br_p z]
        have sb : stB m0 j = false := by unfold stB; simp [z]
        have f1 : Fr [88, 89, 90, 91, 92] m (sI m 88 0 (200 * j + y) (gI m0 99 0 j)) := Fr_I _ _ _ _ _ rfl
        have nx := ih (j + 1) _ (by omega) (by omega) (by rw [f1.I 12 0 8 rfl]; exact e8) (by rw [f1.I 12 0 5 rfl]; exact ey) (f0.tr f1)
        rw [cnt_f (by rw [sb]; decide)] at nx
        refine wp_mono nx fun r m' p => ⟨p.1, f1.tr p.2.1, fun i t ht => ?_⟩
        obtain ⟨q1, q2, q3, q4, q5⟩ := p.2.2 i t ht
        rw [q1, q2, q3, q4, q5, gI_a, gI_o (by decide), gI_o (by decide), gI_o (by decide), gI_o (by decide)]
        have hk := key i t ht
        by_cases e : i = j ∧ t = y
        · rw [if_neg (by omega), if_pos (hk.mpr e), if_pos (by omega), e.1, sb]
          simp
        · rw [if_neg (fun w => e (hk.mp w))]
          by_cases w : t = y ∧ j + 1 ≤ i ∧ i < H
          · have w' : t = y ∧ j ≤ i ∧ i < H := by omega
            simp only [if_pos w, if_pos w', w, w', true_and]
            try simp
          · have w' : ¬ (t = y ∧ j ≤ i ∧ i < H) := by omega
            simp only [if_neg w, if_neg w', if_neg fun h => w (And.left h), if_neg fun h => w' (And.left h)]
            try simp
      · rw [br_n z]
        have sb : stB m0 j = true := by unfold stB; simp [z]
        have h1 : gI m0 104 0 j = 0 ∨ gI m0 104 0 j = 1 := by
          rcases h104 j (by omega) with w | w
          · exact absurd w z
          · exact w
        obtain ⟨m1', em⟩ : ∃ w, w = sI (sI (sI (sI (sI m 88 0 (200 * j + y) (gI m0 99 0 j)) 89 0 (200 * j + y) (gI m0 100 0 j)) 90 0 (200 * j + y) (gI m0 66 0 j)) 91 0 (200 * j + y) (gI m0 101 0 j)) 92 0 (200 * j + y) (gI m0 104 0 j) := ⟨_, rfl⟩
        simp (disch := decide) only [gI_o]
        rw [f0.A 100 0 j rfl, f0.A 66 0 j rfl, f0.A 101 0 j rfl, f0.A 104 0 j rfl, and1 h1, ← em]
        have f1 : Fr [88, 89, 90, 91, 92] m m1' := by rw [em]; exact ((((Fr_I _ _ _ _ _ rfl).tr (Fr_I _ _ _ _ _ rfl)).tr (Fr_I _ _ _ _ _ rfl)).tr (Fr_I _ _ _ _ _ rfl)).tr (Fr_I _ _ _ _ _ rfl)
        have nx := ih (j + 1) m1' (by omega) (by omega) (by rw [f1.I 12 0 8 rfl]; exact e8) (by rw [f1.I 12 0 5 rfl]; exact ey) (f0.tr f1)
        rw [cnt_t sb] at nx
        refine wp_mono nx fun r m' p => ⟨p.1, f1.tr p.2.1, fun i t ht => ?_⟩
        obtain ⟨q1, q2, q3, q4, q5⟩ := p.2.2 i t ht
        rw [q1, q2, q3, q4, q5, em]
        simp (disch := decide) only [gI_o, gI_a]
        have hk := key i t ht
        by_cases e : i = j ∧ t = y
        · have w' : t = y ∧ j ≤ i ∧ i < H := by omega
          have w : ¬ (t = y ∧ j + 1 ≤ i ∧ i < H) := by omega
          simp only [if_pos (hk.mpr e), if_neg w, if_neg fun h => w (And.left h), if_pos w', e.1, sb]
          have w2 : (t = y ∧ j ≤ j ∧ j < H) ∧ True := ⟨by omega, trivial⟩
          simp [w2.1]
        · simp only [if_neg (fun w => e (hk.mp w))]
          by_cases w : t = y ∧ j + 1 ≤ i ∧ i < H
          · have w' : t = y ∧ j ≤ i ∧ i < H := by omega
            simp only [if_pos w, if_pos w', w, w', true_and]
            try simp
          · have w' : ¬ (t = y ∧ j ≤ i ∧ i < H) := by omega
            simp only [if_neg w, if_neg w', if_neg fun h => w (And.left h), if_neg fun h => w' (And.left h)]
            try simp
def wAl : List Nat := [508, 541, 542, 543, 544, 999, 9000, 9001, 9002, 9003, 9004, 41, 42, 43, 44]
/-- a new seating -/
theorem seatNew {h : Hp} {y : Nat} (hN : gN h 8 = y + 1 ∧ gN h 41 = y + 1 ∧ gN h 42 = y + 1 ∧ gN h 43 = y + 1 ∧ gN h 44 = y + 1) : ∃ c, fX8_init (y + 1) (nw h 8 5) = some ((), c) ∧ Fr wAl h c ∧ SeatOk c (y + 1) ∧ (gN c 8 = y + 2 ∧ gN c 41 = y + 2 ∧ gN c 42 = y + 2 ∧ gN c 43 = y + 2 ∧ gN c 44 = y + 2) ∧ (∀ s j, s ≤ y → gR c 8 s j = gR h 8 s j) ∧ (∀ s, s ≤ y → (∀ j, gI c 41 s j = gI h 41 s j) ∧ (∀ j, gI c 42 s j = gI h 42 s j) ∧ (∀ j, gI c 43 s j = gI h 43 s j) ∧ (∀ j, gI c 44 s j = gI h 44 s j)) ∧ gC c = gC h + 5 ∧ gS c = gS h + 53 := by
  obtain ⟨n8, n41, n42, n43, n44⟩ := hN
  obtain ⟨c0, ec0⟩ : ∃ z, z = sR (nw (sR (nw (sR (nw (sR (nw (nw h 8 5) 41 12) 8 (y + 1) 0 (some (y + 1))) 42 12) 8 (y + 1) 1 (some (y + 1))) 43 12) 8 (y + 1) 2 (some (y + 1))) 44 12) 8 (y + 1) 3 (some (y + 1)) := ⟨_, rfl⟩
  have r0 : gR c0 8 (y + 1) 0 = some (y + 1) := by
    rw [ec0]
    simp (disch := decide) only [gR_a, gR_nwo]
    rfl
  refine ⟨flI c0 41 (y + 1) 0 12 (-1), ?_, ?_, ?_, ?_, fun s j hs => ?_, fun s hs => ⟨fun j => ?_, fun j => ?_, fun j => ?_, fun j => ?_⟩, ?_, ?_⟩
  · unfold fX8_init
    simp only [lb_e]
    have a1 : gN (nw h 8 5) 41 = y + 1 := n41
    have a2 : gN (sR (nw (nw h 8 5) 41 12) 8 (y + 1) 0 (some (y + 1))) 42 = y + 1 := n42
    have a3 : gN (sR (nw (sR (nw (nw h 8 5) 41 12) 8 (y + 1) 0 (some (y + 1))) 42 12) 8 (y + 1) 1 (some (y + 1))) 43 = y + 1 := n43
    have a4 : gN (sR (nw (sR (nw (sR (nw (nw h 8 5) 41 12) 8 (y + 1) 0 (some (y + 1))) 42 12) 8 (y + 1) 1 (some (y + 1))) 43 12) 8 (y + 1) 2 (some (y + 1))) 44 = y + 1 := n44
    rw [a1, a2, a3, a4, ← ec0, mt_s r0]
  · refine Fr.tr (b := c0) ?_ (Fr_flI _ _ _ _ _ _ (by decide) rfl)
    rw [ec0]
    exact (((((((((Fr_nw _ _ _ rfl).tr (Fr_nw _ _ _ rfl)).tr (Fr_R _ _ _ _ _ rfl)).tr (Fr_nw _ _ _ rfl)).tr (Fr_R _ _ _ _ _ rfl)).tr (Fr_nw _ _ _ rfl)).tr (Fr_R _ _ _ _ _ rfl)).tr (Fr_nw _ _ _ rfl)).tr (Fr_R _ _ _ _ _ rfl))
  · have rr : ∀ j, gR (flI c0 41 (y + 1) 0 12 (-1)) 8 (y + 1) j = gR c0 8 (y + 1) j := fun _ => rfl
    refine ⟨by rw [rr]; exact r0, ?_, ?_, ?_⟩
    · rw [rr, ec0]
      simp (disch := decide) only [gR_a, gR_nwo]
      rfl
    · rw [rr, ec0]
      simp (disch := decide) only [gR_a, gR_nwo]
      rfl
    · rw [rr, ec0]
      simp (disch := decide) only [gR_a, gR_nwo]
      rfl
  · have gg : ∀ k, gN (flI c0 41 (y + 1) 0 12 (-1)) k = gN c0 k := fun _ => rfl
    rw [gg, gg, gg, gg, gg, ec0]
    simp only [gN_sR, gN_nw]
    simp [n8, n41, n42, n43, n44]
  · have rr : gR (flI c0 41 (y + 1) 0 12 (-1)) 8 s j = gR c0 8 s j := rfl
    have ne : ¬ s = y + 1 := by omega
    have r1 : ∀ (x : Hp) (i : Nat) (v : Option Nat), gR (sR x 8 (y + 1) i v) 8 s j = gR x 8 s j := fun x i v => by rw [gR_sR, if_neg fun w => ne w.2.1]
    rw [rr, ec0]
    simp (disch := decide) only [r1, gR_nwo]
    rw [gR_nw, if_neg fun w => ne (by rw [n8] at w; exact w.2)]
  · have ne : ¬ s = y + 1 := by omega
    rw [gI_flI, if_neg fun w => ne w.2.1, ec0]
    simp (disch := decide) only [gI_sR, gI_nwo]
    rw [gI_nw, if_neg fun w => ne (by rw [show gN (nw h 8 5) 41 = y + 1 from n41] at w; exact w.2), gI_nwo (by decide)]
  · have ne : ¬ s = y + 1 := by omega
    rw [gI_flI, if_neg fun w => absurd w.1 (by decide), ec0]
    simp (disch := decide) only [gI_sR, gI_nwo]
    rw [gI_nw, if_neg fun w => ne (by rw [show gN (sR (nw (nw h 8 5) 41 12) 8 (y + 1) 0 (some (y + 1))) 42 = y + 1 from n42] at w; exact w.2), gI_sR, gI_nwo (by decide), gI_nwo (by decide)]
  · have ne : ¬ s = y + 1 := by omega
    rw [gI_flI, if_neg fun w => absurd w.1 (by decide), ec0]
    simp (disch := decide) only [gI_sR, gI_nwo]
    rw [gI_nw, if_neg fun w => ne (by rw [show gN (sR (nw (sR (nw (nw h 8 5) 41 12) 8 (y + 1) 0 (some (y + 1))) 42 12) 8 (y + 1) 1 (some (y + 1))) 43 = y + 1 from n43] at w; exact w.2)]
    simp (disch := decide) only [gI_sR, gI_nwo]
  · have ne : ¬ s = y + 1 := by omega
    rw [gI_flI, if_neg fun w => absurd w.1 (by decide), ec0]
    rw [gI_sR, gI_nw, if_neg fun w => ne (by rw [show gN (sR (nw (sR (nw (sR (nw (nw h 8 5) 41 12) 8 (y + 1) 0 (some (y + 1))) 42 12) 8 (y + 1) 1 (some (y + 1))) 43 12) 8 (y + 1) 2 (some (y + 1))) 44 = y + 1 from n44] at w; exact w.2)]
    simp (disch := decide) only [gI_sR, gI_nwo]
  · rw [show gC (flI c0 41 (y + 1) 0 12 (-1)) = gC c0 from rfl, ec0]
    rfl
  · rw [show gS (flI c0 41 (y + 1) 0 12 (-1)) = gS c0 from rfl, ec0]
    rfl
