/-! ===== level 2: sunday: the best run of one who comes ===== -/
def frS (m : Hp) (any : Int32) (s : Nat) : Bool := decide (gI m 106 0 s = 0 ∧ (any ≠ 0 ∨ (gI m 105 0 s = -1 ∧ gI m 113 0 s = 0)))
theorem b63_L {m : Hp} {b u w : Nat} (hs : 32 * b + u + w ≤ 256) (a2 a3 any a5 a6 : Int32) : ∀ n j x, j ≤ w → w - j < n → (x = 0 ∨ x = 1) → (x ≠ 0 ↔ ∀ k, k < j → frS m any (32 * b + u + k) = true) → ∃ y v, fX12_bestRun_L63 n (nZ w) a2 a3 any a5 a6 (nZ b) (nZ u) x (nZ (u + j)) m = some ((y, v), m) ∧ (y = 0 ↔ ¬ ∀ k, k < w → frS m any (32 * b + u + k) = true) := by
  intro n
  induction n with
  | zero => intro j x _ q; omega
  | succ n ih =>
    intro j x hj hn hx K
    rw [fX12_bestRun_L63]
    simp (disch := omega) only [lb_e, nZ_suc, nZ_x32, nZ_add, nZ_le, nZ_ib, nZ_ix]
    by_cases q : j = w
    · subst q
      rw [br_p (by omega)]
      refine ⟨x, _, rfl, ?_⟩
      rw [← K]
      exact ⟨fun h => not_not_intro h, fun h => Classical.byContradiction h⟩
    · rw [br_n (by omega)]
      simp only [gd_p (by omega : 32 * b + (u + j) < 256)]
      rw [show 32 * b + (u + j) = 32 * b + u + j by omega]
      have bad : ¬ (∀ k, k < j + 1 → frS m any (32 * b + u + k) = true) → ∃ y v, fX12_bestRun_L63 n (nZ w) a2 a3 any a5 a6 (nZ b) (nZ u) 0 (nZ (u + j + 1)) m = some ((y, v), m) ∧ (y = 0 ↔ ¬ ∀ k, k < w → frS m any (32 * b + u + k) = true) := fun h => ih (j + 1) 0 (by omega) (by omega) (Or.inl rfl) (iff_of_false (by decide) h)
      by_cases z0' : x = 0
      · rw [br_p z0']
        exact bad fun h => (K.mpr fun k hk => h k (by omega)) z0'
      · have good : frS m any (32 * b + u + j) = true → ∃ y v, fX12_bestRun_L63 n (nZ w) a2 a3 any a5 a6 (nZ b) (nZ u) 1 (nZ (u + j + 1)) m = some ((y, v), m) ∧ (y = 0 ↔ ¬ ∀ k, k < w → frS m any (32 * b + u + k) = true) := fun h => ih (j + 1) 1 (by omega) (by omega) (Or.inr rfl) (iff_of_true (by decide) fun k hk => by
          by_cases e : k = j
          · rw [e]; exact h
          · exact K.mp z0' k (by omega))
        rw [br_n z0']
        by_cases z1 : gI m 106 0 (32 * b + u + j) = 0
        · rw [br_p z1]
          by_cases z2 : any = 0
          · rw [br_p z2]
            by_cases z3 : gI m 105 0 (32 * b + u + j) = -1
            · rw [br_p z3]
              by_cases z4 : gI m 113 0 (32 * b + u + j) = 0
              · rw [br_p z4]
                exact good (decide_eq_true ⟨z1, Or.inr ⟨z3, z4⟩⟩)
              · rw [br_n z4]
                refine bad fun h => ?_
                rcases (of_decide_eq_true (h j (by omega))).2 with y | y
                · exact y z2
                · exact z4 y.2
            · rw [br_n z3]
              refine bad fun h => ?_
              rcases (of_decide_eq_true (h j (by omega))).2 with y | y
              · exact y z2
              · exact z3 y.1
          · rw [br_n z2]
            exact good (decide_eq_true ⟨z1, Or.inl z2⟩)
        · rw [br_n z1]
          exact bad fun h => z1 (of_decide_eq_true (h j (by omega))).1
theorem b42_L {m : Hp} (R : RC m) (T : LT m) {b w : Nat} (hb : b < nB m) (hw : 1 ≤ w) (hw2 : w ≤ 12) {d gal : Int32} (hd : 0 ≤ d.toInt ∧ d.toInt ≤ 9) (a2 any : Int32) (hg : gal ≠ 0 ∨ gI m 29 0 b = 0) : ∀ n j a5 a6, j ≤ 32 → 32 - j < n → relB (bst (QB m (frS m any) w gal) (fun s => wS m s w d) (32 * b + j)) a5 a6 → ∃ a5' a6' x, fX12_bestRun_L42 n (nZ w) a2 d any a5 a6 (nZ b) (nZ j) m = some ((a5', a6', x), m) ∧ relB (bst (QB m (frS m any) w gal) (fun s => wS m s w d) (32 * b + 32)) a5' a6' := by
  obtain ⟨v1, v2, v3, v4⟩ := R.v
  obtain ⟨w1, w2, w3, w4⟩ := v4 b hb
  intro n
  induction n with
  | zero => intro j a5 a6 _ q; omega
  | succ n ih =>
    intro j a5 a6 hj hn K
    rw [fX12_bestRun_L42]
    simp (disch := omega) only [lb_e, nZ_ix, w2, nZ_suc, nZ_x32, nZ_add, nZ_lt, nZ_ib]
    rw [gd_p (by omega)]
    by_cases q : un m b < j + w
    · rw [br_p q]
      refine ⟨_, _, _, rfl, ?_⟩
      have := bst_skip (Q := QB m (frS m any) w gal) (V := fun s => wS m s w d) (a := 32 * b + j) (32 - j) fun s h1 h2 => QB_f.mpr fun z => by
        have z2 := z.1.2.1
        rw [show s / 32 = b by omega] at z2
        omega
      rw [show 32 * b + j + (32 - j) = 32 * b + 32 by omega] at this
      rw [this]
      exact K
    · rw [br_n q]
      obtain ⟨r, v, er, kr⟩ := b63_L (m := m) (b := b) (u := j) (w := w) (by omega) a2 d any a5 a6 FU 0 1 (by omega) (by show _ < 100000; omega) (Or.inr rfl) (iff_of_true (by decide) fun k hk => by omega)
      rw [bd_s (show fX12_bestRun_L63 FU (nZ w) a2 d any a5 a6 (nZ b) (nZ j) 1 (nZ j) m = _ from er)]
      have eQ : QB m (frS m any) w gal (32 * b + j) = true ↔ ∀ k, k < w → frS m any (32 * b + j + k) = true := by
        rw [QB_t]
        unfold runP galOk
        rw [show (32 * b + j) / 32 = b by omega, show (32 * b + j) % 32 = j by omega]
        exact ⟨fun z => z.1.2.2, fun z => ⟨⟨hb, by omega, z⟩, hg⟩⟩
      by_cases z : r = 0
      · rw [br_p z]
        refine ih (j + 1) a5 a6 (by omega) (by omega) ?_
        rw [show 32 * b + (j + 1) = 32 * b + j + 1 by omega, bst_n]
        · exact K
        · cases y : QB m (frS m any) w gal (32 * b + j) with
          | false => rfl
          | true => exact absurd (eQ.mp y) (kr.mp z)
      · rw [br_n z]
        have hQ := eQ.mpr (Classical.byContradiction fun y => z (kr.mpr y))
        rw [bd_s (worth12 R T hb (u := j) (w := w) (by omega) d)]
        have hV := (wS_b R hb (u := j) (n := w) (d := d) (by omega) hd).1
        have st := relB_step K hQ hV (by omega)
        by_cases z2 : a5 = -1
        · rw [br_p z2]
          exact ih (j + 1) _ _ (by omega) (by omega) (st.1 (Or.inl z2))
        · rw [br_n z2]
          by_cases z3 : a6 < wS m (32 * b + j) w d
          · rw [br_p z3]
            exact ih (j + 1) _ _ (by omega) (by omega) (st.1 (Or.inr z3))
          · rw [br_n z3]
            exact ih (j + 1) _ _ (by omega) (by omega) (st.2 fun y => by rcases y with y | y; exact z2 y; exact z3 y)
theorem b9_L {m : Hp} (R : RC m) (T : LT m) {w : Nat} (hw : 1 ≤ w) (hw2 : w ≤ 12) {d r low : Int32} (hd : 0 ≤ d.toInt ∧ d.toInt ≤ 9) (hl : gI m 12 0 17 = low) (any : Int32) : ∀ n b a5 a6, b ≤ nB m → nB m - b < n → relB (bst (QB m (frS m any) w (if low ≤ r then 0 else 1)) (fun s => wS m s w d) (32 * b)) a5 a6 → ∃ a5' a6' x, fX12_bestRun_L9 n (nZ w) r d any a5 a6 (nZ b) m = some ((a5', a6', x), m) ∧ relB (bst (QB m (frS m any) w (if low ≤ r then 0 else 1)) (fun s => wS m s w d) (32 * nB m)) a5' a6' := by
  obtain ⟨v1, v2, v3, v4⟩ := R.v
  intro n
  induction n with
  | zero => intro b a5 a6 _ q; omega
  | succ n ih =>
    intro b a5 a6 hb hn K
    rw [fX12_bestRun_L9, v2, hl]
    simp (disch := omega) only [lb_e, nZ_le, nZ_suc, nZ_ib, nZ_ix]
    by_cases q : b = nB m
    · rw [br_p (by omega)]
      rw [q] at K ⊢
      exact ⟨_, _, _, rfl, K⟩
    · rw [br_n (by omega), gd_p (by omega)]
      have e64 : gI m 64 0 b = gI m 29 0 b := R.1.2.2.2.2.2.2.2.2.2.2.2 b
      rw [e64]
      have go : ((if low ≤ r then (0 : Int32) else 1) ≠ 0 ∨ gI m 29 0 b = 0) → ∃ a5' a6' x, bd (fX12_bestRun_L42 FU (nZ w) r d any a5 a6 (nZ b) 0 m) (fun t28 h27 => fX12_bestRun_L9 n (nZ w) r d any t28.1 t28.2.1 (nZ (b + 1)) h27) = some ((a5', a6', x), m) ∧ relB (bst (QB m (frS m any) w (if low ≤ r then 0 else 1)) (fun s => wS m s w d) (32 * nB m)) a5' a6' := fun hg => by
        obtain ⟨c5, c6, x, e, k⟩ := b42_L R T (b := b) (by omega) hw hw2 (gal := if low ≤ r then 0 else 1) hd r any hg FU 0 a5 a6 (by omega) (by show _ < 100000; omega) K
        rw [bd_s (show fX12_bestRun_L42 FU (nZ w) r d any a5 a6 (nZ b) 0 m = _ from e)]
        exact ih (b + 1) c5 c6 (by omega) (by omega) (by rw [show 32 * (b + 1) = 32 * b + 32 by omega]; exact k)
      by_cases z1 : gI m 29 0 b = 0
      · rw [br_p z1]
        exact go (Or.inr z1)
      · rw [br_n z1]
        by_cases z2 : r < low
        · rw [br_p z2]
          refine go (Or.inl ?_)
          rw [if_neg (by rw [i32_le]; rw [i32_lt] at z2; omega)]
          decide
        · rw [br_n z2]
          refine ih (b + 1) a5 a6 (by omega) (by omega) ?_
          have := bst_skip (Q := QB m (frS m any) w (if low ≤ r then 0 else 1)) (V := fun s => wS m s w d) (a := 32 * b) 32 fun s h1 h2 => QB_f.mpr fun z => by
            rcases z.2 with y | y
            · exact y (if_pos (by rw [i32_le]; rw [i32_lt] at z2; omega))
            · rw [show s / 32 = b by omega] at y
              exact z1 y
          rw [show 32 * (b + 1) = 32 * b + 32 by omega, this]
          exact K
theorem bestS_m {m : Hp} (R : RC m) (T : LT m) {w : Nat} (hw : 1 ≤ w) (hw2 : w ≤ 12) {d r low : Int32} (hd : 0 ≤ d.toInt ∧ d.toInt ≤ 9) (hl : gI m 12 0 17 = low) (any : Int32) : fX12_bestRun (nZ w) r d any m = some ((bst (QB m (frS m any) w (if low ≤ r then 0 else 1)) (fun s => wS m s w d) (32 * nB m)).1, m) := by
  have hB := R.v.2.2.1
  obtain ⟨a5, a6, x, e, k⟩ := b9_L R T hw hw2 (r := r) hd hl any FU 0 (-1) 0 (by omega) (by show _ < 100000; omega) ⟨rfl, fun z => absurd rfl z, fun _ => rfl⟩
  unfold fX12_bestRun
  rw [bd_s (show fX12_bestRun_L9 FU (nZ w) r d any (-1) 0 0 m = _ from e), ← k.1]
  rfl
/-- class: spots that are open to one who comes -/
def opS (g c : Hp) (ah : Int32) (s : Nat) : Bool := decide (uS g s ∧ (ah = 0 ∨ gI c 45 0 s ≠ 0) ∧ gI c 46 0 s = 0)
theorem os_L {ah : Int32} {g c0 : Hp} : ∀ (n j : Nat) (c : Hp), RC c → nB c = nB g → (∀ b, un c b = un g b) → Sm [45, 46] c0 c → j ≤ 32 * nB g → j < n → (∀ s, j ≤ s → s < 32 * nB g → RchAt c (opS g c0 ah) s) → Wp (fX9_openSpots_L10 n ah (nZ j + (-1)) c) (fun _ c' => Fr [48] c c' ∧ ∀ s, s < 32 * nB g → RchAt c' (opS g c0 ah) s) := by
  intro n
  induction n with
  | zero => intro j c _ _ _ _ _ q; omega
  | succ n ih =>
    intro j c R eB eU sm hj hn K
    obtain ⟨v1, v2, v3, v4⟩ := R.v
    rw [fX9_openSpots_L10]
    by_cases q : j = 0
    · subst q
      rw [br_p (by decide), wp_some]
      exact ⟨Fr.rf _ _, fun s hs => K s (by omega) hs⟩
    · rw [nZ_dn (by omega) (by omega)]
      have hs : j - 1 < 256 := by omega
      have hib : ib (nZ (j - 1)) 256 := by rw [nZ_ib (by omega)]; omega
      simp only [lb_e, gd_p hib, nZ_ix (by omega : j - 1 < 2147483648), bd_s (spot_t R hs), sm.A 45 0 _ (by decide), sm.A 46 0 _ (by decide)]
      rw [br_n (by rw [nZ_neg (by omega)]; exact id)]
      have fin : ∀ v : Int32, v = (if opS g c0 ah (j - 1) = true then 1 else 0) → Wp (bd (fX10_setOpen (nZ (j - 1)) v c) (fun r7 h8 => fX9_openSpots_L10 n ah (nZ (j - 1) + (-1)) h8)) (fun _ c' => Fr [48] c c' ∧ ∀ s, s < 32 * nB g → RchAt c' (opS g c0 ah) s) := by
        intro v hv
        obtain ⟨y, e, k⟩ := setOpen_t hs (fun hq => by
          have := K j (Nat.le_refl _) (by
            have : (j - 1) / 32 < nB g := by omega
            omega)
          rw [show j - 1 + 1 = j by omega]
          exact this) v hv
        rw [bd_s e]
        have f1 : Fr [48] c (sI c 48 0 (j - 1) y) := Fr_I _ _ _ _ _ rfl
        have s1 : Sm fRC c (sI c 48 0 (j - 1) y) := f1.sm rfl
        refine wp_mono (ih (j - 1) _ (RC_sm s1 R) (by rw [nB_sm s1]; exact eB) (fun b => by rw [un_sm s1]; exact eU b) (sm.tr (f1.sm rfl)) (by omega) (by omega) fun s h1 h2 => ?_) fun _ c' p => ⟨f1.tr p.1, p.2⟩
        by_cases z : s = j - 1
        · rw [z]
          exact k
        · exact Rch_e (by rw [gI_a, if_neg z]) (K s (by omega) h2)
      have hU : uS c (j - 1) ↔ uS g (j - 1) := by unfold uS; rw [eB, eU]
      have inner : (ah = 0 ∨ gI c0 45 0 (j - 1) ≠ 0) → Wp (br ((1 : Int32) = 0) (bd (fX10_setOpen (nZ (j - 1)) 0 c) (fun r9 h10 => fX9_openSpots_L10 n ah (nZ (j - 1) + (-1)) h10)) (br (gI c0 46 0 (j - 1) = 0) (br ((if uS c (j - 1) then (1 : Int32) else 0) = 0) (bd (fX10_setOpen (nZ (j - 1)) 0 c) (fun r9 h10 => fX9_openSpots_L10 n ah (nZ (j - 1) + (-1)) h10)) (bd (fX10_setOpen (nZ (j - 1)) 1 c) (fun r9 h10 => fX9_openSpots_L10 n ah (nZ (j - 1) + (-1)) h10))) (bd (fX10_setOpen (nZ (j - 1)) 0 c) (fun r9 h10 => fX9_openSpots_L10 n ah (nZ (j - 1) + (-1)) h10)))) (fun _ c' => Fr [48] c c' ∧ ∀ s, s < 32 * nB g → RchAt c' (opS g c0 ah) s) := fun hf => by
        rw [br_n (by decide)]
        by_cases z2 : gI c0 46 0 (j - 1) = 0
        · rw [br_p z2]
          by_cases z3 : uS c (j - 1)
          · rw [if_pos z3, br_n (by decide)]
            exact fin 1 (by unfold opS; rw [if_pos (decide_eq_true ⟨hU.mp z3, hf, z2⟩)])
          · rw [if_neg z3, br_p rfl]
            exact fin 0 (by unfold opS; rw [if_neg fun w => z3 (hU.mpr (of_decide_eq_true w).1)])
        · rw [br_n z2]
          exact fin 0 (by unfold opS; rw [if_neg fun w => z2 (of_decide_eq_true w).2.2])
      by_cases z1 : ah = 0
      · rw [br_p z1]
        exact inner (Or.inl z1)
      · rw [br_n z1]
        by_cases z2 : gI c0 45 0 (j - 1) = 0
        · rw [br_p z2, br_p trivial]
          refine fin 0 ?_
          unfold opS
          rw [if_neg]
          intro w
          rcases (of_decide_eq_true w).2.1 with y | y
          · exact z1 y
          · exact y z2
        · rw [br_n z2]
          exact inner (Or.inr z2)
theorem openS_t {ah : Int32} {g c : Hp} (R : RC c) (eB : nB c = nB g) (eU : ∀ b, un c b = un g b) : Wp (fX9_openSpots ah c) (fun _ c' => Fr [48] c c' ∧ ∀ s, s < 32 * nB g → RchAt c' (opS g c ah) s) := by
  obtain ⟨v1, v2, v3, v4⟩ := R.v
  unfold fX9_openSpots fX1_spotsEnd
  rw [v1, nZ_32x, eB, lb_e, Int32.sub_eq_add_neg]
  exact wp_call (os_L (c0 := c) FU (32 * nB g) c R eB eU (Fr.sm (Fr.rf [] _) rfl) (Nat.le_refl _) (by show _ < 100000; omega) fun s h1 h2 => by omega) fun _ c' p => wp_some.mpr p
theorem tk_L {a w : Nat} (h : a + w ≤ 256) : ∀ (n j : Nat) (c : Hp), j ≤ w → w - j < n → Wp (fX9_take_L7 n (nZ a) (nZ w) (nZ (a + j)) c) (fun _ c' => Fr [46] c c' ∧ ∀ s, gI c' 46 0 s = if a + j ≤ s ∧ s < a + w then 1 else gI c 46 0 s) := by
  intro n
  induction n with
  | zero => intro j c _ q; omega
  | succ n ih =>
    intro j c hj hn
    rw [fX9_take_L7]
    have e256 : ((256 : Int32) ≤ nZ (a + j)) ↔ 256 ≤ a + j := nZ_le (a := 256) (by decide) (by omega)
    simp (disch := omega) only [lb_e, nZ_add, nZ_le, nZ_suc, nZ_ib, nZ_ix, e256]
    by_cases q : j = w
    · rw [br_p (by omega), wp_some]
      refine ⟨Fr.rf _ _, fun s => ?_⟩
      rw [if_neg (by omega)]
    · rw [br_n (by omega), br_n (by omega), gd_p (by omega)]
      refine wp_mono (ih (j + 1) _ (by omega) (by omega)) fun _ c' k => ⟨(Fr_I _ _ _ _ _ rfl).tr k.1, fun s => ?_⟩
      rw [k.2 s, gI_a]
      by_cases z : s = a + j
      · rw [if_neg (by omega), if_pos z, if_pos (by omega)]
      · by_cases z2 : a + (j + 1) ≤ s ∧ s < a + w
        · rw [if_pos z2, if_pos (by omega)]
        · rw [if_neg z2, if_neg z, if_neg (by omega)]
theorem take_t {a w : Nat} (h : a + w ≤ 256) (c : Hp) : ∃ c', fX9_take (nZ a) (nZ w) c = some (nZ a, c') ∧ Fr [46] c c' ∧ ∀ s, gI c' 46 0 s = if a ≤ s ∧ s < a + w then 1 else gI c 46 0 s := by
  obtain ⟨v, c', e, k1, k2⟩ := tk_L h FU 0 c (by omega) (by show _ < 100000; omega)
  refine ⟨c', ?_, k1, k2⟩
  unfold fX9_take
  rw [br_n (show ¬ nZ a = -1 from fun y => (nZ_m1 (by omega)).mp y), bd_s (show fX9_take_L7 FU (nZ a) (nZ w) (nZ a) c = _ from e)]
theorem t557_L {a w : Nat} (h : a + w ≤ 256) (a1 a2 a3 a4 : Int32) : ∀ (n j : Nat) (m : Hp), j ≤ w → w - j < n → Wp (fX12_sunday_L557 n a1 a2 a3 a4 (nZ w) (nZ a) (nZ j) m) (fun _ m' => Fr [106] m m' ∧ ∀ s, gI m' 106 0 s = if a + j ≤ s ∧ s < a + w then 1 else gI m 106 0 s) := by
  intro n
  induction n with
  | zero => intro j c _ q; omega
  | succ n ih =>
    intro j c hj hn
    rw [fX12_sunday_L557]
    simp (disch := omega) only [lb_e, nZ_add, nZ_le, nZ_suc, nZ_ib, nZ_ix]
    rw [br_n (show ¬ nZ a = -1 from fun y => (nZ_m1 (by omega)).mp y)]
    by_cases q : j = w
    · rw [br_p (by omega), wp_some]
      refine ⟨Fr.rf _ _, fun s => ?_⟩
      rw [if_neg (by omega)]
    · rw [br_n (by omega), gd_p (by omega)]
      refine wp_mono (ih (j + 1) _ (by omega) (by omega)) fun _ c' k => ⟨(Fr_I _ _ _ _ _ rfl).tr k.1, fun s => ?_⟩
      rw [k.2 s, gI_a]
      by_cases z : s = a + j
      · rw [if_neg (by omega), if_pos z, if_pos (by omega)]
      · by_cases z2 : a + (j + 1) ≤ s ∧ s < a + w
        · rw [if_pos z2, if_pos (by omega)]
        · rw [if_neg z2, if_neg z, if_neg (by omega)]
