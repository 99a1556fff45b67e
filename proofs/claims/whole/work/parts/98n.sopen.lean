/-! ===== level 2: sunday: spots that are for all ===== -/
/-- the run of household i in the latest year: spot and width -/
def runL (g : Hp) (i a w : Nat) : Prop := 0 < yr g ∧ ∃ b v, gI g 88 0 (200 * i + (yr g - 1)) = nZ b ∧ gI g 89 0 (200 * i + (yr g - 1)) = nZ v ∧ gI g 90 0 (200 * i + (yr g - 1)) = nZ w ∧ a = 32 * b + v ∧ b < nB g ∧ 1 ≤ w ∧ w ≤ 12 ∧ v + w ≤ un g b
def KI (g : Hp) (i s : Nat) : Prop := i < nH g ∧ gI g 68 0 i = 0 ∧ ∃ a w, runL g i a w ∧ a ≤ s ∧ s < a + w
theorem kr_L {a w : Nat} (h : a + w ≤ 256) : ∀ (n j : Nat) (c : Hp), j ≤ w → w - j < n → Wp (fX9_keepRun_L2 n (nZ a) (nZ w) (nZ (a + j)) c) (fun _ c' => Fr [45] c c' ∧ ∀ s, gI c' 45 0 s = if a + j ≤ s ∧ s < a + w then 0 else gI c 45 0 s) := by
  intro n
  induction n with
  | zero => intro j c _ q; omega
  | succ n ih =>
    intro j c hj hn
    rw [fX9_keepRun_L2]
    have e256 : ((256 : Int32) ≤ nZ (a + j)) ↔ 256 ≤ a + j := nZ_le (a := 256) (by decide) (by omega)
    simp (disch := omega) only [lb_e, nZ_add, nZ_le, nZ_suc, nZ_ib, nZ_ix, e256]
    by_cases q : j = w
    · rw [br_p (by omega), wp_some]
      refine ⟨Fr.rf _ _, fun s => ?_⟩
      rw [if_neg (by omega)]
    · rw [br_n (by omega), br_n (by omega), gd_p (by omega)]
      refine wp_mono (ih (j + 1) _ (by omega) (by omega)) fun _ c' k => ⟨(Fr_I _ _ _ _ _ rfl).tr k.1, fun s => ?_⟩
      rw [k.2 s, gI_a]
      by_cases z : s = a + j
      · rw [if_neg (by omega), if_pos z, if_pos (by omega)]
      · by_cases z2 : a + (j + 1) ≤ s ∧ s < a + w
        · rw [if_pos z2, if_pos (by omega)]
        · rw [if_neg z2, if_neg z, if_neg (by omega)]
theorem o13_L {ow : Nat → Int32} : ∀ (n j : Nat) (c : Hp), j ≤ 256 → 256 - j < n → (∀ s, s < 256 → gI c 53 0 s = ow s) → (∀ s, s < j → gI c 46 0 s = 0 ∧ (gI c 45 0 s = 0 ↔ ¬ ow s = -1)) → Wp (fX9_open_L13 n (nZ j) c) (fun _ c' => Fr [45, 46] c c' ∧ ∀ s, s < 256 → gI c' 46 0 s = 0 ∧ (gI c' 45 0 s = 0 ↔ ¬ ow s = -1)) := by
  intro n
  induction n with
  | zero => intro j c _ q; omega
  | succ n ih =>
    intro j c hj hn hO K
    rw [fX9_open_L13]
    have e256 : ((256 : Int32) ≤ nZ j) ↔ 256 ≤ j := nZ_le (a := 256) (by decide) (by omega)
    simp (disch := omega) only [lb_e, nZ_suc, nZ_ib, nZ_ix, e256]
    by_cases q : j = 256
    · rw [br_p (by omega), wp_some]
      exact ⟨Fr.rf _ _, fun s hs => K s (by omega)⟩
    · rw [br_n (by omega)]
      simp only [gd_p (by omega : j < 256)]
      rw [gI_o (by decide), hO j (by omega)]
      have fin : ∀ x : Int32, (x = 0 ↔ ¬ ow j = -1) → Wp (fX9_open_L13 n (nZ (j + 1)) (sI (sI c 46 0 j 0) 45 0 j x)) (fun _ c' => Fr [45, 46] c c' ∧ ∀ s, s < 256 → gI c' 46 0 s = 0 ∧ (gI c' 45 0 s = 0 ↔ ¬ ow s = -1)) := by
        intro x hx
        have f1 : Fr [45, 46] c (sI (sI c 46 0 j 0) 45 0 j x) := (Fr_I _ _ _ _ _ rfl).tr (Fr_I _ _ _ _ _ rfl)
        refine wp_mono (ih (j + 1) _ (by omega) (by omega) (fun s hs => by rw [f1.A 53 0 s rfl]; exact hO s hs) fun s hs => ?_) fun _ c' p => ⟨f1.tr p.1, p.2⟩
        rw [gI_o (by decide), gI_a, gI_a, gI_o (by decide)]
        by_cases z : s = j
        · rw [if_pos z, if_pos z, z]
          exact ⟨rfl, hx⟩
        · rw [if_neg z, if_neg z]
          exact K s (by omega)
      by_cases z : ow j = -1
      · rw [br_p z]
        exact fin 1 (iff_of_false (by decide) (not_not_intro z))
      · rw [br_n z]
        exact fin 0 (iff_of_true rfl z)
/-- the class's latest seating, and the model's -/
def Lat (g c : Hp) : Prop := (yr g = 0 ∧ gR c 9 0 5 = none) ∨ (0 < yr g ∧ gR c 9 0 5 = some (yr g) ∧ SeatOk c (yr g) ∧ ∀ i, i < 12 → sr (nB g) (un g) c g (yr g) (yr g - 1) i)
theorem o58_L {g : Hp} (R : RC g) (P : RP g) (HI : ∀ i, nH g ≤ i → i < 12 → 0 < yr g → gI g 88 0 (200 * i + (yr g - 1)) = -1) {ow : Nat → Int32} : ∀ (n j : Nat) (c : Hp), j ≤ 12 → 12 - j < n → Sm fRP g c → Lat g c → (∀ s, s < 256 → (gI c 45 0 s = 0 ↔ (¬ ow s = -1 ∨ ∃ i, i < j ∧ KI g i s))) → Wp (fX9_open_L58 n (nZ j) c) (fun _ c' => Fr [45] c c' ∧ ∀ s, s < 256 → (gI c' 45 0 s = 0 ↔ (¬ ow s = -1 ∨ ∃ i, KI g i s))) := by
  obtain ⟨v1, v2, v3, v4⟩ := R.v
  have hH := P.2.2.1
  intro n
  induction n with
  | zero => intro j c _ q; omega
  | succ n ih =>
    intro j c hj hn s2 La K
    rw [fX9_open_L58]
    simp (disch := omega) only [lb_e, le12, nZ_suc, nZ_ib, nZ_ix]
    by_cases q : j = 12
    · rw [br_p (by omega), wp_some]
      refine ⟨Fr.rf _ _, fun s hs => ?_⟩
      rw [K s hs]
      refine ⟨fun w => ?_, fun w => ?_⟩
      · rcases w with w | ⟨i, h1, h2⟩
        · exact Or.inl w
        · exact Or.inr ⟨i, h2⟩
      · rcases w with w | ⟨i, h2⟩
        · exact Or.inl w
        · exact Or.inr ⟨i, by have := h2.1; omega, h2⟩
    · rw [br_n (by omega)]
      have skip : (∀ s, ¬ KI g j s) → Wp (fX9_open_L58 n (nZ (j + 1)) c) (fun _ c' => Fr [45] c c' ∧ ∀ s, s < 256 → (gI c' 45 0 s = 0 ↔ (¬ ow s = -1 ∨ ∃ i, KI g i s))) := fun hn' => by
        refine ih (j + 1) c (by omega) (by omega) s2 La fun s hs => ?_
        rw [K s hs]
        refine ⟨fun w => ?_, fun w => ?_⟩
        · rcases w with w | ⟨i, h1, h2⟩
          · exact Or.inl w
          · exact Or.inr ⟨i, by omega, h2⟩
        · rcases w with w | ⟨i, h1, h2⟩
          · exact Or.inl w
          · refine Or.inr ⟨i, ?_, h2⟩
            by_cases e : i = j
            · rw [e] at h2; exact absurd h2 (hn' s)
            · omega
      rcases La with ⟨l1, l2⟩ | ⟨l1, l2, S, l4⟩
      · rw [mt_n l2]
        exact skip fun s w => by obtain ⟨-, -, a, w', hr, -⟩ := w; have := hr.1; omega
      · have La' : Lat g c := Or.inr ⟨l1, l2, S, l4⟩
        simp only [mt_s l2]
        rw [bd_s (sit_t S (by omega))]
        have sj := l4 j (by omega)
        rcases sj with w | ⟨b, v, w, z1, z2, z3, z4, z5, z6, z7, z8, z9, z10, z11, z12⟩
        · rw [if_pos w.1, br_p rfl]
          refine skip fun s y => ?_
          obtain ⟨-, -, a, w', hr, -⟩ := y
          obtain ⟨-, b, v, e1, -, -, -, hb, -⟩ := hr
          rw [w.2] at e1
          exact (m1_nZ (by omega)).mp e1
        · have u32 := (v4 b z9).2.2.2
          have ns : ¬ gI c 41 (yr g) j = -1 := by rw [z1]; exact fun y => (nZ_m1 (by omega)).mp y
          rw [if_neg ns, br_n (by decide)]
          have Pc := RP_sm s2 P
          have xj : ix (nZ j) = j := nZ_ix (by omega)
          have hjH : j < nH g := by
            by_cases e : j < nH g
            · exact e
            · have := HI j (by omega) (by omega) l1
              rw [z2] at this
              exact absurd this fun y => (nZ_m1 (by omega)).mp y
          have rj : runL g j (32 * b + v) w := ⟨l1, b, v, z2, z3, z5, rfl, z9, z10, z11, z12⟩
          by_cases zt : gI g 68 0 j = 0
          · have st : isT c (nZ j) := ⟨by rw [nZ_t (by omega), nH_sm s2]; omega, by rw [xj, s2.A 68 0 j (by decide)]; exact zt⟩
            rw [bd_s (stay_t Pc st), br_n (by decide)]
            simp only [mt_s l2, mt_s S.1, mt_s S.2.1, gd_p (by omega : j < 12)]
            rw [z1, z4]
            unfold fX9_keepRun
            rw [wp_bd, wp_bd]
            refine wp_mono (kr_L (a := 32 * b + v) (w := w) (by omega) FU 0 c (by omega) (by show _ < 100000; omega)) fun _ c1 k => wp_some.mpr ?_
            have Lk : Lat g c1 := by
              refine Or.inr ⟨l1, by rw [k.1.R 9 0 5 rfl]; exact l2, ⟨by rw [k.1.R 8 _ 0 rfl]; exact S.1, by rw [k.1.R 8 _ 1 rfl]; exact S.2.1, by rw [k.1.R 8 _ 2 rfl]; exact S.2.2.1, by rw [k.1.R 8 _ 3 rfl]; exact S.2.2.2⟩, fun i hi => ?_⟩
              have := l4 i hi
              unfold sr at this ⊢
              rw [k.1.A 41 _ i rfl, k.1.A 42 _ i rfl, k.1.A 43 _ i rfl, k.1.A 44 _ i rfl]
              exact this
            refine wp_mono (ih (j + 1) c1 (by omega) (by omega) (s2.tr (k.1.sm rfl)) Lk fun s hs => ?_) fun _ c' p => ⟨k.1.tr p.1, p.2⟩
            rw [k.2 s]
            by_cases y : 32 * b + v + 0 ≤ s ∧ s < 32 * b + v + w
            · rw [if_pos y]
              exact iff_of_true rfl (Or.inr ⟨j, by omega, hjH, zt, 32 * b + v, w, rj, by omega, y.2⟩)
            · rw [if_neg y, K s hs]
              refine ⟨fun t => ?_, fun t => ?_⟩
              · rcases t with t | ⟨i, h1, h2⟩
                · exact Or.inl t
                · exact Or.inr ⟨i, by omega, h2⟩
              · rcases t with t | ⟨i, h1, h2⟩
                · exact Or.inl t
                · refine Or.inr ⟨i, ?_, h2⟩
                  by_cases e : i = j
                  · exfalso
                    rw [e] at h2
                    obtain ⟨-, -, a, w', ⟨-, b', v', q1, q2, q3, q4, q5, q6, q7, q8⟩, h4, h5⟩ := h2
                    have u32' := (v4 b' q5).2.2.2
                    rw [z2, nZ_eq (by omega) (by omega)] at q1
                    rw [z3, nZ_eq (by omega) (by omega)] at q2
                    rw [z5, nZ_eq (by omega) (by omega)] at q3
                    rw [q4, ← q1, ← q2] at h4 h5
                    rw [← q3] at h5
                    omega
                  · omega
          · have st : ¬ isT c (nZ j) := fun y => zt (by have := y.2; rw [xj, s2.A 68 0 j (by decide)] at this; exact this)
            rw [bd_s (stay_f Pc st), br_p rfl]
            exact skip fun s y => zt y.2.1
theorem s168_L {g : Hp} {H y B : Nat} {yy : Int} {u : Nat → Nat} (hB : B = nB g) (hu : u = un g) (R : RC g) (hy : y ≤ 199) {ow : Nat → Int32} (a1 a2 : Int32) : ∀ (f j : Nat) (m : Hp), Sm fRC g m → (∃ c, RR H yy B u c m) → (∀ s, s < 256 → owS m (s / 32) (s % 32) y y = ow s) → gI m 12 0 5 = nZ y → j ≤ 256 → 256 - j < f → (∀ s, s < j → gI m 106 0 s = 0 ∧ gI m 105 0 s = ow s ∧ gI m 113 0 s = 0) → Wp (fX12_sunday_L168 f a1 a2 (nZ j) m) (fun _ m2 => Fr [105, 106, 113] m m2 ∧ ∀ s, s < 256 → gI m2 106 0 s = 0 ∧ gI m2 105 0 s = ow s ∧ gI m2 113 0 s = 0) := by
  obtain ⟨v1, v2, v3, v4⟩ := R.v
  obtain ⟨hB8, hu32⟩ := R.u32
  intro f
  induction f with
  | zero => intro j m _ _ _ _ _ q; omega
  | succ f ih =>
    intro j m s3 T ho ey hj hf K
    rw [fX12_sunday_L168]
    have e256 : ((256 : Int32) ≤ nZ j) ↔ 256 ≤ j := nZ_le (a := 256) (by decide) (by omega)
    simp (disch := omega) only [lb_e, e256, nZ_suc, nZ_ib, nZ_ix]
    by_cases q : j = 256
    · rw [br_p (by omega), wp_some]
      exact ⟨Fr.rf _ _, fun s hs => K s (by omega)⟩
    · obtain ⟨c, T'⟩ := T
      have e7 : gI m 12 0 7 = nZ (nB g) := by rw [s3.I 12 0 7 (by decide)]; exact v2
      simp only [gd_p (by omega : j < 256)]
      rw [br_n (by omega), nZ_d32 (by omega), nZ_m32 (by omega), gI_o (by decide), gI_o (by decide), e7]
      have f0 : Fr [105, 106, 113] m (sI (sI m 106 0 j 0) 113 0 j 0) := (Fr_I _ _ _ _ _ rfl).tr (Fr_I _ _ _ _ _ rfl)
      have fin : ∀ x : Int32, x = ow j → Wp (fX12_sunday_L168 f a1 a2 (nZ (j + 1)) (sI (sI (sI m 106 0 j 0) 113 0 j 0) 105 0 j x)) (fun _ m2 => Fr [105, 106, 113] m m2 ∧ ∀ s, s < 256 → gI m2 106 0 s = 0 ∧ gI m2 105 0 s = ow s ∧ gI m2 113 0 s = 0) := by
        intro x hx
        have f1 : Fr [105, 106, 113] m (sI (sI (sI m 106 0 j 0) 113 0 j 0) 105 0 j x) := f0.tr (Fr_I _ _ _ _ _ rfl)
        refine wp_mono (ih (j + 1) _ (s3.tr (f1.sm rfl)) ⟨c, RR_m (f1.sm rfl) T'⟩ (fun s hs => by rw [owS_sm (f1.sm rfl) (nR_sm (f1.sm rfl))]; exact ho s hs) (by rw [f1.I 12 0 5 rfl]; exact ey) (by omega) (by omega) fun s hs => ?_) fun _ m2 p => ⟨f1.tr p.1, p.2⟩
        simp (disch := decide) only [gI_o, gI_a]
        by_cases z : s = j
        · simp only [if_pos z]
          rw [z]
          exact ⟨trivial, hx, trivial⟩
        · simp only [if_neg z]
          exact K s (by omega)
      have oj := ho j (by omega)
      simp only [nZ_le (by omega : nB g < 2147483648) (by omega : j / 32 < 2147483648)]
      by_cases z1 : nB g ≤ j / 32
      · rw [br_p z1]
        refine fin (-1) ?_
        rw [← oj, owS_n T' (by omega) (by rw [hB, hu]; exact hu32) (by omega) (by omega) (by omega)]
      · obtain ⟨w1, w2, w3, w4⟩ := v4 (j / 32) (by omega)
        have e63 : gI (sI (sI m 106 0 j 0) 113 0 j 0) 63 0 (j / 32) = nZ (un g (j / 32)) := by rw [gI_o (by decide), gI_o (by decide), s3.A 63 0 _ (by decide)]; exact w2
        rw [br_n z1, gd_p (by rw [nZ_ib (by omega)]; omega), nZ_ix (by omega), e63]
        simp only [nZ_le (by omega : un g (j / 32) < 2147483648) (by omega : j % 32 < 2147483648)]
        by_cases z2 : un g (j / 32) ≤ j % 32
        · rw [br_p z2]
          refine fin (-1) ?_
          rw [← oj, owS_n T' (by omega) (by rw [hB, hu]; exact hu32) (by omega) (by omega) (by rw [hu]; omega)]
        · rw [br_n z2, gI_o (by decide), gI_o (by decide), ey, bd_s (owner_t (RR_m (f0.sm rfl) T') (by omega) (by rw [hB, hu]; exact hu32) (by omega) (by omega) hy hy)]
          refine fin _ ?_
          rw [owS_sm (f0.sm rfl) (nR_sm (f0.sm rfl))]
          exact oj
theorem s309_L {b v w i y : Nat} (hs : 32 * b + v + w ≤ 256) (hi : 200 * i + y < 2400) (a1 a2 a3 : Int32) : ∀ (n j : Nat) (m : Hp), gI m 88 0 (200 * i + y) = nZ b → gI m 89 0 (200 * i + y) = nZ v → gI m 90 0 (200 * i + y) = nZ w → j ≤ w → w - j < n → Wp (fX12_sunday_L309 n a1 a2 a3 (nZ (200 * i + y)) (nZ j) m) (fun _ m' => Fr [113] m m' ∧ ∀ s, gI m' 113 0 s = if 32 * b + v + j ≤ s ∧ s < 32 * b + v + w then 1 else gI m 113 0 s) := by
  intro n
  induction n with
  | zero => intro j m _ _ _ _ q; omega
  | succ n ih =>
    intro j m e1 e2 e3 hj hn
    rw [fX12_sunday_L309]
    simp (disch := omega) only [lb_e, nZ_ix, e1, e2, e3, nZ_x32, nZ_add, nZ_le, nZ_suc, nZ_ib]
    simp only [gd_p hi]
    by_cases q : j = w
    · rw [br_p (by omega), wp_some]
      refine ⟨Fr.rf _ _, fun s => ?_⟩
      rw [if_neg (by omega)]
    · rw [br_n (by omega), gd_p (by omega)]
      refine wp_mono (ih (j + 1) _ (by rw [gI_o (by decide)]; exact e1) (by rw [gI_o (by decide)]; exact e2) (by rw [gI_o (by decide)]; exact e3) (by omega) (by omega)) fun _ m' k => ⟨(Fr_I _ _ _ _ _ rfl).tr k.1, fun s => ?_⟩
      rw [k.2 s, gI_a]
      by_cases z : s = 32 * b + v + j
      · rw [if_neg (by omega), if_pos z, if_pos (by omega)]
      · by_cases z2 : 32 * b + v + (j + 1) ≤ s ∧ s < 32 * b + v + w
        · rw [if_pos z2, if_pos (by omega)]
        · rw [if_neg z2, if_neg z, if_neg (by omega)]
theorem s254_L {g : Hp} (R : RC g) (P : RP g) (Y : Ry g) (HS : ∀ i, i < 12 → 0 < yr g → (gI g 88 0 (200 * i + (yr g - 1)) = -1 ∨ ∃ a w, runL g i a w)) (a1 a2 : Int32) : ∀ (n j : Nat) (m : Hp), j ≤ nH g → nH g - j < n → Fr [13000, 93, 94, 105, 106, 113, 53, 34, 45, 46, 47, 48, 10005, 10006, 10007] g m → (∀ s, s < 256 → (gI m 113 0 s = 0 ↔ ¬ ∃ i, i < j ∧ KI g i s)) → Wp (fX12_sunday_L254 n a1 a2 (nZ j) m) (fun _ m' => Fr [113] m m' ∧ ∀ s, s < 256 → (gI m' 113 0 s = 0 ↔ ¬ ∃ i, KI g i s)) := by
  obtain ⟨v1, v2, v3, v4⟩ := R.v
  obtain ⟨y1, y2, y3⟩ := Y.e
  have hH := P.2.2.1
  intro n
  induction n with
  | zero => intro j m _ q; omega
  | succ n ih =>
    intro j m hj hn fm K
    have e8 : gI m 12 0 8 = nZ (nH g) := by rw [fm.I 12 0 8 rfl]; exact P.1
    have e5 : gI m 12 0 5 = nZ (yr g) := by rw [fm.I 12 0 5 rfl]; exact y1
    rw [fX12_sunday_L254, e8, e5]
    simp (disch := omega) only [lb_e, nZ_le, nZ_suc, le0, nZ_x200, nZ_add]
    by_cases q : j = nH g
    · rw [br_p (by omega), wp_some]
      refine ⟨Fr.rf _ _, fun s hs => ?_⟩
      rw [K s hs]
      exact not_congr ⟨fun ⟨i, _, h2⟩ => ⟨i, h2⟩, fun ⟨i, h2⟩ => ⟨i, by have := h2.1; omega, h2⟩⟩
    · rw [br_n (by omega)]
      by_cases z0' : yr g = 0
      · rw [br_p z0', wp_some]
        refine ⟨Fr.rf _ _, fun s hs => ?_⟩
        rw [K s hs]
        refine not_congr ⟨fun ⟨i, _, h2⟩ => ⟨i, h2⟩, fun ⟨i, h2⟩ => ?_⟩
        obtain ⟨-, -, a, w', hr, -⟩ := h2
        have := hr.1
        omega
      · rw [br_n z0', nZ_pre (by omega) (by omega), show 200 * j + yr g - 1 = 200 * j + (yr g - 1) by omega]
        simp (disch := omega) only [nZ_ib, nZ_ix]
        simp only [gd_p (by omega : j < 12), gd_p (by omega : 200 * j + (yr g - 1) < 2400)]
        rw [fm.A 68 0 j rfl, fm.A 88 0 _ rfl]
        have skip : (∀ s, ¬ KI g j s) → Wp (fX12_sunday_L254 n a1 a2 (nZ (j + 1)) m) (fun _ m' => Fr [113] m m' ∧ ∀ s, s < 256 → (gI m' 113 0 s = 0 ↔ ¬ ∃ i, KI g i s)) := fun hn' => by
          refine ih (j + 1) m (by omega) (by omega) fm fun s hs => ?_
          rw [K s hs]
          refine not_congr ⟨fun ⟨i, h1, h2⟩ => ⟨i, by omega, h2⟩, fun ⟨i, h1, h2⟩ => ⟨i, ?_, h2⟩⟩
          by_cases e : i = j
          · rw [e] at h2; exact absurd h2 (hn' s)
          · omega
        by_cases z1 : gI g 68 0 j = 0
        · rw [br_p z1]
          by_cases z2 : gI g 88 0 (200 * j + (yr g - 1)) = -1
          · rw [br_p z2]
            refine skip fun s y => ?_
            obtain ⟨-, -, a, w', hr, -⟩ := y
            obtain ⟨-, b, v, e1, -, -, -, hb, -⟩ := hr
            rw [z2] at e1
            exact (m1_nZ (by omega)).mp e1
          · rw [br_n z2]
            rcases HS j (by omega) (by omega) with w | ⟨a, w, rj⟩
            · exact absurd w z2
            · obtain ⟨-, b, v, q1, q2, q3, q4, q5, q6, q7, q8⟩ := id rj
              have u32 := (v4 b q5).2.2.2
              refine wp_call (s309_L (b := b) (v := v) (w := w) (i := j) (y := yr g - 1) (by omega) (by omega) a1 a2 (nZ j) FU 0 m (by rw [fm.A 88 0 _ rfl]; exact q1) (by rw [fm.A 89 0 _ rfl]; exact q2) (by rw [fm.A 90 0 _ rfl]; exact q3) (by omega) (by show _ < 100000; omega)) fun _ m1' k => ?_
              refine wp_mono (ih (j + 1) m1' (by omega) (by omega) (fm.tr (k.1.wk rfl)) fun s hs => ?_) fun _ m' p => ⟨k.1.tr p.1, p.2⟩
              rw [k.2 s]
              by_cases y : 32 * b + v + 0 ≤ s ∧ s < 32 * b + v + w
              · rw [if_pos y]
                exact iff_of_false (by decide) (not_not_intro ⟨j, by omega, by omega, z1, a, w, rj, by omega, by omega⟩)
              · rw [if_neg y, K s hs]
                refine not_congr ⟨fun ⟨i, h1, h2⟩ => ⟨i, by omega, h2⟩, fun ⟨i, h1, h2⟩ => ⟨i, ?_, h2⟩⟩
                by_cases e : i = j
                · exfalso
                  rw [e] at h2
                  obtain ⟨-, -, a', w', ⟨-, b', v', t1, t2, t3, t4, t5, t6, t7, t8⟩, h4, h5⟩ := h2
                  have u32' := (v4 b' t5).2.2.2
                  rw [q1, nZ_eq (by omega) (by omega)] at t1
                  rw [q2, nZ_eq (by omega) (by omega)] at t2
                  rw [q3, nZ_eq (by omega) (by omega)] at t3
                  rw [t4, ← t1, ← t2] at h4 h5
                  rw [← t3] at h5
                  omega
                · omega
        · rw [br_n z1]
          exact skip fun s y => z1 y.2.1
