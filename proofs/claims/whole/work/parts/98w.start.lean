/-! ===== level 2: the start ===== -/
def Zr (S : List Nat) (h : Hp) : Prop := ∀ k n i, wi S k i = false → gI h k n i = 0 ∧ gJ h k n i = 0
theorem Zr_0 (S : List Nat) : Zr S h00 := fun _ _ _ _ => ⟨rfl, rfl⟩
theorem Zr_nw {S : List Nat} {h : Hp} {k z : Nat} (q : Zr S h) : Zr S (nw h k z) := fun a b c w => by
  have := q a b c w
  refine ⟨?_, ?_⟩
  · show (if a = k ∧ b = gN h k then 0 else gI h a b c) = 0
    split
    · rfl
    · exact this.1
  · show (if a = k ∧ b = gN h k then 0 else gJ h a b c) = 0
    split
    · rfl
    · exact this.2
theorem Zr_R {S : List Nat} {h : Hp} {k n i : Nat} {v : Option Nat} (q : Zr S h) : Zr S (sR h k n i v) := q
theorem Zr_I {S : List Nat} {h : Hp} {k n i : Nat} {v : Int32} (q : Zr S h) (w : wi S k i = true) : Zr S (sI h k n i v) := fun a b c z => by
  have f := Fr_I (W := S) h k n i v w
  rw [f.I a b c z, f.J a b c z]
  exact q a b c z
theorem Zr_f {S : List Nat} {h : Hp} {k n a e : Nat} {v : Int32} (q : Zr S h) (hk : 13 ≤ k) (w : S.elem k = true) : Zr S (flI h k n a e v) := fun x b c z => by
  have f := Fr_flI (W := S) h k n a e v hk w
  rw [f.I x b c z, f.J x b c z]
  exact q x b c z
def Kp (k l : Nat) (h : Hp) : Prop := ∀ i, i < l → gI h k 0 i = -1
theorem Kp_nw {k l : Nat} {h : Hp} {k' z : Nat} (q : Kp k l h) (w : (k == k') = false) : Kp k l (nw h k' z) := fun i hi => by rw [gI_nwo w]; exact q i hi
theorem Kp_R {k l : Nat} {h : Hp} {k' n i : Nat} {v : Option Nat} (q : Kp k l h) : Kp k l (sR h k' n i v) := q
theorem Kp_I {k l : Nat} {h : Hp} {k' n i : Nat} {v : Int32} (q : Kp k l h) (w : (k == k') = false) : Kp k l (sI h k' n i v) := fun j hj => by rw [gI_o w]; exact q j hj
theorem Kp_f {k l : Nat} {h : Hp} {k' n a e : Nat} {v : Int32} (q : Kp k l h) (w : (k == k') = false) : Kp k l (flI h k' n a e v) := fun j hj => by
  rw [gI_flI, if_neg fun z => by rw [z.1] at w; simp at w]
  exact q j hj
theorem Kp_b {k l : Nat} {h : Hp} : Kp k l (flI h k 0 0 l (-1)) := fun i hi => by rw [gI_flI, if_pos ⟨rfl, rfl, by omega, hi⟩]
def zSt : List Nat := [2000, 2001, 2002, 12012, 12013, 33, 37, 39, 41, 54, 13013, 13014, 13015, 13016, 13017]
def wI : List Nat := [58, 59, 60, 61, 62, 63, 64, 65, 66, 67, 68, 69, 70, 71, 72, 73, 74, 75, 76, 77, 78, 79, 80, 81, 82, 83, 84, 85, 86, 87, 88, 89, 90, 91, 92, 93, 94, 95, 96, 97, 98, 99, 100, 101, 102, 103, 104, 105, 106, 107, 108, 109, 110, 111, 112, 113, 558, 559, 560, 561, 562, 563, 564, 565, 566, 567, 568, 569, 570, 571, 572, 573, 574, 575, 576, 577, 578, 579, 580, 581, 582, 583, 584, 585, 586, 587, 588, 589, 590, 591, 592, 593, 594, 595, 596, 597, 598, 599, 600, 601, 602, 603, 604, 605, 606, 607, 608, 609, 610, 611, 612, 613, 999, 13018, 13019, 13020, 13021, 13022, 13023, 13024, 13025, 13026, 13027, 13028, 13029, 13030, 13031, 13032, 13033, 13034, 13035, 13036, 13037, 13038, 13039, 13040, 13041, 13042, 13043, 13044, 13045, 13046, 13047, 13048, 13049, 13050, 13051, 13052, 13053, 13054, 13055, 13057, 13058, 13059, 13062, 13063, 13064, 13065, 13066, 13067, 13068, 13069, 13070, 13071, 13072, 13073, 13074, 13076, 13078]
def Nn (j : Nat) (h : Hp) : Prop := ∀ a, j ≤ a → gN h a = 0
def Ls (l : List (Nat × Nat)) (h : Hp) : Prop := ∀ q, q ∈ l → q.1 < 13 ∧ gR h q.1 0 q.2 = some 0
def Iv (W : List Nat) (hb : Hp) (j : Nat) (l : List (Nat × Nat)) (h : Hp) : Prop := Zr zSt h ∧ Nn j h ∧ Ls l h ∧ Fr W hb h ∧ gC h + (114 - j) ≤ 1000 ∧ gS h + 4000 * (114 - j) ≤ 1000000
theorem lsR {l : List (Nat × Nat)} {h : Hp} {f : Nat} (L : Ls l h) : Ls ((12, f) :: l) (sR h 12 0 f (some 0)) := fun q hq => by
  by_cases e : q.1 = 12 ∧ q.2 = f
  · refine ⟨by omega, ?_⟩
    show (if q.1 = 12 ∧ 0 = 0 ∧ q.2 = f then some 0 else gR h q.1 0 q.2) = some 0
    rw [if_pos ⟨e.1, rfl, e.2⟩]
  · rcases List.mem_cons.mp hq with z | z
    · rw [z] at e
      exact absurd ⟨rfl, rfl⟩ e
    · refine ⟨(L q z).1, ?_⟩
      show (if q.1 = 12 ∧ 0 = 0 ∧ q.2 = f then some 0 else gR h q.1 0 q.2) = some 0
      rw [if_neg fun w => e ⟨w.1, w.2.2⟩]
      exact (L q z).2
theorem lsN {l : List (Nat × Nat)} {h : Hp} {k z : Nat} (L : Ls l h) (hk : 13 ≤ k) : Ls l (nw h k z) := fun q hq => by
  refine ⟨(L q hq).1, ?_⟩
  have := (L q hq).1
  rw [gR_nw, if_neg (by omega)]
  exact (L q hq).2
theorem al {W : List Nat} {hb h : Hp} {j f sz : Nat} {l : List (Nat × Nat)} {K : Hp → Option (Unit × Hp)} {T : Hp → Option (Unit × Hp)} {Q : Hp → Prop} (I : Iv W hb j l h) (hj : 54 ≤ j ∧ j ≤ 113) (hz : sz ≤ 4000) (w1 : alS W j = true) (w2 : wi W 12 f = true) (nx : ∀ h', Iv W hb (j + 1) ((12, f) :: l) h' → ∃ x, K h' = T x ∧ Q x) : ∃ x, lb (gN h j) (fun z => lb (nw h j sz) (fun h2 => lb (sR h2 12 0 f (some z)) K)) = T x ∧ Q x := by
  obtain ⟨i1, i2, i3, i4, i5, i6⟩ := I
  have g0 : gN h j = 0 := i2 j (Nat.le_refl _)
  simp only [lb_e, g0]
  refine nx _ ⟨Zr_R (Zr_nw i1), fun a ha => ?_, lsR (lsN i3 (by omega)), (i4.tr (Fr_nw h j sz w1)).tr (Fr_R _ _ _ _ _ w2), ?_, ?_⟩
  · show (if a = j then gN h j + 1 else gN h a) = 0
    rw [if_neg (by omega)]
    exact i2 a (by omega)
  · show gC h + 1 + (114 - (j + 1)) ≤ 1000
    omega
  · show gS h + sz + 4000 * (114 - (j + 1)) ≤ 1000000
    omega
theorem i544 : ∀ n k h, gR h 12 0 29 = some 0 → k ≤ 1600 → 1600 - k < n → ∃ v h', fX12_init_L544 n 0 (nZ k) h = some (v, h') ∧ Fr [69] h h' ∧ (∀ i, k ≤ i → i < 1600 → gI h' 69 0 i = -1) ∧ (∀ i, i < k → gI h' 69 0 i = gI h 69 0 i) := by
  intro n
  induction n with
  | zero => intro k h _ _ q; omega
  | succ n ih =>
    intro k h e hk hn
    rw [fX12_init_L544]
    simp (disch := omega) only [lb_e, e, mt_s rfl, show Int32.ofNat 1600 = nZ 1600 from rfl, nZ_le, nZ_ib, nZ_ix, nZ_suc]
    by_cases q : k = 1600
    · subst q
      rw [br_p (by omega)]
      exact ⟨_, h, rfl, Fr.rf _ _, fun i _ _ => by omega, fun _ _ => rfl⟩
    · rw [br_n (by omega), gd_p (by omega)]
      have f1 : Fr [69] h (sI h 69 0 k (-1)) := Fr_I _ _ _ _ _ rfl
      obtain ⟨v, h', e1, e2, e3, e4⟩ := ih (k + 1) (sI h 69 0 k (-1)) (by rw [f1.R 12 0 29 rfl]; exact e) (by omega) (by omega)
      refine ⟨v, h', e1, f1.tr e2, fun i h1 h2 => ?_, fun i hi => ?_⟩
      · by_cases z : i = k
        · rw [e4 i (by omega), gI_a, if_pos z]
        · exact e3 i (by omega) h2
      · rw [e4 i (by omega), gI_a, if_neg (by omega)]
theorem i568 : ∀ n k h, gR h 12 0 48 = some 0 → k ≤ 2400 → 2400 - k < n → ∃ v h', fX12_init_L568 n 0 (nZ k) h = some (v, h') ∧ Fr [88] h h' ∧ (∀ i, k ≤ i → i < 2400 → gI h' 88 0 i = -1) ∧ (∀ i, i < k → gI h' 88 0 i = gI h 88 0 i) := by
  intro n
  induction n with
  | zero => intro k h _ _ q; omega
  | succ n ih =>
    intro k h e hk hn
    rw [fX12_init_L568]
    simp (disch := omega) only [lb_e, e, mt_s rfl, show Int32.ofNat 2400 = nZ 2400 from rfl, nZ_le, nZ_ib, nZ_ix, nZ_suc]
    by_cases q : k = 2400
    · subst q
      rw [br_p (by omega)]
      exact ⟨_, h, rfl, Fr.rf _ _, fun i _ _ => by omega, fun _ _ => rfl⟩
    · rw [br_n (by omega), gd_p (by omega)]
      have f1 : Fr [88] h (sI h 88 0 k (-1)) := Fr_I _ _ _ _ _ rfl
      obtain ⟨v, h', e1, e2, e3, e4⟩ := ih (k + 1) (sI h 88 0 k (-1)) (by rw [f1.R 12 0 48 rfl]; exact e) (by omega) (by omega)
      refine ⟨v, h', e1, f1.tr e2, fun i h1 h2 => ?_, fun i hi => ?_⟩
      · by_cases z : i = k
        · rw [e4 i (by omega), gI_a, if_pos z]
        · exact e3 i (by omega) h2
      · rw [e4 i (by omega), gI_a, if_neg (by omega)]
