/-! ===== level 2: the start: the reference ===== -/
def w54 : List Nat := [54, 554, 999, 13001]
def w55 : List Nat := [55, 56, 57, 555, 556, 557, 999, 13002, 13003, 13004]
theorem al54 {h : Hp} {l : List (Nat × Nat)} {K : Hp → Option (Unit × Hp)} {T : Hp → Option (Unit × Hp)} {Q : Hp → Prop} (I : Iv w54 h 54 l h) (nx : ∀ h', Iv w54 h 55 ((12, 1) :: l) h' → Kp 54 4 h' → ∃ x, K h' = T x ∧ Q x) : ∃ x, lb (gN h 54) (fun z1 => lb (nw h 54 4) (fun h2 => lb (sI h2 54 z1 (ix 0) (-1)) (fun h3 => lb (sI h3 54 z1 (ix 1) (-1)) (fun h4 => lb (sI h4 54 z1 (ix 2) (-1)) (fun h5 => lb (sI h5 54 z1 (ix 3) (-1)) (fun h6 => lb (sR h6 12 0 1 (some z1)) K)))))) = T x ∧ Q x := by
  obtain ⟨i1, i2, i3, i4, i5, i6⟩ := I
  have g0 : gN h 54 = 0 := i2 54 (Nat.le_refl _)
  simp only [lb_e, g0]
  refine nx _ ⟨Zr_R (Zr_I (Zr_I (Zr_I (Zr_I (Zr_nw i1) rfl) rfl) rfl) rfl), fun a ha => ?_, lsR (lsN i3 (by omega)), ((((((Fr_nw h 54 4 rfl).tr (Fr_I _ _ _ _ _ rfl)).tr (Fr_I _ _ _ _ _ rfl)).tr (Fr_I _ _ _ _ _ rfl)).tr (Fr_I _ _ _ _ _ rfl)).tr (Fr_R _ _ _ _ _ rfl)), ?_, ?_⟩ (fun i hi => ?_)
  · show (if a = 54 then gN h 54 + 1 else gN h a) = 0
    rw [if_neg (by omega)]
    exact i2 a (by omega)
  · show gC h + 1 + (114 - (54 + 1)) ≤ 1000
    omega
  · show gS h + 4 + 4000 * (114 - (54 + 1)) ≤ 1000000
    omega
  · show gI (sI (sI (sI (sI (nw h 54 4) 54 0 0 (-1)) 54 0 1 (-1)) 54 0 2 (-1)) 54 0 3 (-1)) 54 0 i = -1
    rw [gI_a, gI_a, gI_a, gI_a]
    by_cases a : i = 3
    · rw [if_pos a]
    · by_cases b : i = 2
      · rw [if_neg a, if_pos b]
      · by_cases c : i = 1
        · rw [if_neg a, if_neg b, if_pos c]
        · rw [if_neg a, if_neg b, if_neg c, if_pos (by omega)]
def w13 : List Nat := [13013, 13014, 13015, 13016, 13017]
theorem al13 {W : List Nat} {hb h : Hp} {l : List (Nat × Nat)} {K : Hp → Option (Unit × Hp)} {T : Hp → Option (Unit × Hp)} {Q : Hp → Prop} (I : Iv W hb 58 l h) (nx : ∀ h', Iv w13 h 58 l h' → (gI h' 12 0 13 = 30 ∧ gI h' 12 0 14 = 60 ∧ gI h' 12 0 15 = 4000 ∧ gI h' 12 0 16 = 3 ∧ gI h' 12 0 17 = 10) → ∃ x, K h' = T x ∧ Q x) : ∃ x, lb (sI h 12 0 13 30) (fun h17 => lb (sI h17 12 0 14 60) (fun h18 => lb (sI h18 12 0 15 4000) (fun h19 => lb (sI h19 12 0 16 3) (fun h20 => lb (sI h20 12 0 17 10) K)))) = T x ∧ Q x := by
  obtain ⟨i1, i2, i3, i4, i5, i6⟩ := I
  simp only [lb_e]
  refine nx _ ⟨Zr_I (Zr_I (Zr_I (Zr_I (Zr_I i1 rfl) rfl) rfl) rfl) rfl, i2, i3, ((((Fr_I _ _ _ _ _ rfl).tr (Fr_I _ _ _ _ _ rfl)).tr (Fr_I _ _ _ _ _ rfl)).tr (Fr_I _ _ _ _ _ rfl)).tr (Fr_I _ _ _ _ _ rfl), i5, i6⟩ ⟨rfl, rfl, rfl, rfl, rfl⟩
def T12 (x : Hp) : Option (Unit × Hp) := bd (fX12_init_L544 FU 0 0 x) (fun _ h197 => bd (fX12_init_L568 FU 0 0 h197) (fun _ h207 => some ((), h207)))
theorem Iv.rb {W W' : List Nat} {hb h : Hp} {j : Nat} {l : List (Nat × Nat)} (I : Iv W hb j l h) : Iv W' h j l h := ⟨I.1, I.2.1, I.2.2.1, Fr.rf _ _, I.2.2.2.2.1, I.2.2.2.2.2⟩
def lyM : List (Nat × Nat) := [(12, 78), (12, 76), (12, 74), (12, 73), (12, 72), (12, 71), (12, 70), (12, 69), (12, 68), (12, 67), (12, 66), (12, 65), (12, 64), (12, 63), (12, 62), (12, 59), (12, 58), (12, 57), (12, 55), (12, 54), (12, 53), (12, 52), (12, 51), (12, 50), (12, 49), (12, 48), (12, 47), (12, 46), (12, 45), (12, 44), (12, 43), (12, 42), (12, 41), (12, 40), (12, 39), (12, 38), (12, 37), (12, 36), (12, 35), (12, 34), (12, 33), (12, 32), (12, 31), (12, 30), (12, 29), (12, 28), (12, 27), (12, 26), (12, 25), (12, 24), (12, 23), (12, 22), (12, 21), (12, 20), (12, 19), (12, 18), (12, 4), (12, 3), (12, 2), (12, 1)]
theorem iM {h0 : Hp} {l : List (Nat × Nat)} (I : Iv w54 h0 54 l h0) : ∃ x, fX12_init 0 h0 = T12 x ∧ ∃ h1 h2 h3, Iv wI h3 114 (lyM ++ l) x ∧ Fr w54 h0 h1 ∧ Kp 54 4 h1 ∧ Fr w55 h1 h2 ∧ Fr w13 h2 h3 ∧ (gI h3 12 0 13 = 30 ∧ gI h3 12 0 14 = 60 ∧ gI h3 12 0 15 = 4000 ∧ gI h3 12 0 16 = 3 ∧ gI h3 12 0 17 = 10) := by
  unfold fX12_init
  refine al54 I fun h1 I1 k1 => ?_
  refine al (Iv.rb I1 : Iv w55 _ _ _ _) (by omega) (by omega) rfl rfl fun h55 I55 => ?_
  refine al I55 (by omega) (by omega) rfl rfl fun h56 I56 => ?_
  refine al I56 (by omega) (by omega) rfl rfl fun h57 I57 => ?_
  refine al13 I57 fun h3 I3 v3 => ?_
  refine al (Iv.rb I3 : Iv wI _ _ _ _) (by omega) (by omega) rfl rfl fun h58 I58 => ?_
  refine al I58 (by omega) (by omega) rfl rfl fun h59 I59 => ?_
  refine al I59 (by omega) (by omega) rfl rfl fun h60 I60 => ?_
  refine al I60 (by omega) (by omega) rfl rfl fun h61 I61 => ?_
  refine al I61 (by omega) (by omega) rfl rfl fun h62 I62 => ?_
  refine al I62 (by omega) (by omega) rfl rfl fun h63 I63 => ?_
  refine al I63 (by omega) (by omega) rfl rfl fun h64 I64 => ?_
  refine al I64 (by omega) (by omega) rfl rfl fun h65 I65 => ?_
  refine al I65 (by omega) (by omega) rfl rfl fun h66 I66 => ?_
  refine al I66 (by omega) (by omega) rfl rfl fun h67 I67 => ?_
  refine al I67 (by omega) (by omega) rfl rfl fun h68 I68 => ?_
  refine al I68 (by omega) (by omega) rfl rfl fun h69 I69 => ?_
  refine al I69 (by omega) (by omega) rfl rfl fun h70 I70 => ?_
  refine al I70 (by omega) (by omega) rfl rfl fun h71 I71 => ?_
  refine al I71 (by omega) (by omega) rfl rfl fun h72 I72 => ?_
  refine al I72 (by omega) (by omega) rfl rfl fun h73 I73 => ?_
  refine al I73 (by omega) (by omega) rfl rfl fun h74 I74 => ?_
  refine al I74 (by omega) (by omega) rfl rfl fun h75 I75 => ?_
  refine al I75 (by omega) (by omega) rfl rfl fun h76 I76 => ?_
  refine al I76 (by omega) (by omega) rfl rfl fun h77 I77 => ?_
  refine al I77 (by omega) (by omega) rfl rfl fun h78 I78 => ?_
  refine al I78 (by omega) (by omega) rfl rfl fun h79 I79 => ?_
  refine al I79 (by omega) (by omega) rfl rfl fun h80 I80 => ?_
  refine al I80 (by omega) (by omega) rfl rfl fun h81 I81 => ?_
  refine al I81 (by omega) (by omega) rfl rfl fun h82 I82 => ?_
  refine al I82 (by omega) (by omega) rfl rfl fun h83 I83 => ?_
  refine al I83 (by omega) (by omega) rfl rfl fun h84 I84 => ?_
  refine al I84 (by omega) (by omega) rfl rfl fun h85 I85 => ?_
  refine al I85 (by omega) (by omega) rfl rfl fun h86 I86 => ?_
  refine al I86 (by omega) (by omega) rfl rfl fun h87 I87 => ?_
  refine al I87 (by omega) (by omega) rfl rfl fun h88 I88 => ?_
  refine al I88 (by omega) (by omega) rfl rfl fun h89 I89 => ?_
  refine al I89 (by omega) (by omega) rfl rfl fun h90 I90 => ?_
  refine al I90 (by omega) (by omega) rfl rfl fun h91 I91 => ?_
  refine al I91 (by omega) (by omega) rfl rfl fun h92 I92 => ?_
  refine al I92 (by omega) (by omega) rfl rfl fun h93 I93 => ?_
  refine al I93 (by omega) (by omega) rfl rfl fun h94 I94 => ?_
  refine al I94 (by omega) (by omega) rfl rfl fun h95 I95 => ?_
  refine al I95 (by omega) (by omega) rfl rfl fun h96 I96 => ?_
  refine al I96 (by omega) (by omega) rfl rfl fun h97 I97 => ?_
  refine al I97 (by omega) (by omega) rfl rfl fun h98 I98 => ?_
  refine al I98 (by omega) (by omega) rfl rfl fun h99 I99 => ?_
  refine al I99 (by omega) (by omega) rfl rfl fun h100 I100 => ?_
  refine al I100 (by omega) (by omega) rfl rfl fun h101 I101 => ?_
  refine al I101 (by omega) (by omega) rfl rfl fun h102 I102 => ?_
  refine al I102 (by omega) (by omega) rfl rfl fun h103 I103 => ?_
  refine al I103 (by omega) (by omega) rfl rfl fun h104 I104 => ?_
  refine al I104 (by omega) (by omega) rfl rfl fun h105 I105 => ?_
  refine al I105 (by omega) (by omega) rfl rfl fun h106 I106 => ?_
  refine al I106 (by omega) (by omega) rfl rfl fun h107 I107 => ?_
  refine al I107 (by omega) (by omega) rfl rfl fun h108 I108 => ?_
  refine al I108 (by omega) (by omega) rfl rfl fun h109 I109 => ?_
  refine al I109 (by omega) (by omega) rfl rfl fun h110 I110 => ?_
  refine al I110 (by omega) (by omega) rfl rfl fun h111 I111 => ?_
  refine al I111 (by omega) (by omega) rfl rfl fun h112 I112 => ?_
  refine al I112 (by omega) (by omega) rfl rfl fun h113 I113 => ?_
  exact ⟨h113, rfl, h1, h57, h3, I113, I1.2.2.2.1, k1, I57.2.2.2.1, I3.2.2.2.1, v3⟩
