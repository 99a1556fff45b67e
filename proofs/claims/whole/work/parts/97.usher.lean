/-! ===== level 2: open spots, runs of them, the best run (class) ===== -/
/-- s is a spot of a unit -/
abbrev uS (g : Hp) (s : Nat) : Prop := s / 32 < nB g ∧ s % 32 < un g (s / 32)
def runP (g : Hp) (fr : Nat → Bool) (w s : Nat) : Prop := s / 32 < nB g ∧ s % 32 + w ≤ un g (s / 32) ∧ ∀ k, k < w → fr (s + k) = true
def RchAt (c : Hp) (op : Nat → Bool) (s : Nat) : Prop := ∃ r, gI c 48 0 s = nZ r ∧ r ≤ 32 ∧ ∀ w, w ≤ r ↔ (s % 32 + w ≤ 32 ∧ ∀ k, k < w → op (s + k) = true)
theorem setOpen_t {c : Hp} {op : Nat → Bool} {s : Nat} (hs : s < 256) (N : s % 32 ≠ 31 → RchAt c op (s + 1)) (v : Int32) (hv : v = if op s = true then 1 else 0) : ∃ x, fX10_setOpen (nZ s) v c = some ((), sI c 48 0 s x) ∧ RchAt (sI c 48 0 s x) op s := by
  unfold fX10_setOpen
  have hib : ib (nZ s) 257 := by rw [nZ_ib (by omega)]; omega
  have hib1 : ib (nZ (s + 1)) 257 := by rw [nZ_ib (by omega)]; omega
  simp only [lb_e, nZ_d32 (by omega : s < 2147483648), nZ_m32 (by omega : s < 2147483648), nZ_suc, gd_p hib, gd_p hib1, nZ_ix (by omega : s < 2147483648), nZ_ix (by omega : s + 1 < 2147483648)]
  have h31 : (nZ (s % 32) = 31) ↔ s % 32 = 31 := nZ_eq (b := 31) (by omega) (by decide)
  by_cases z : op s = true
  · rw [hv, if_pos z]
    by_cases q : s % 32 = 31
    · refine ⟨1, by rw [br_p (h31.mpr q), br_n (by decide), br_n (by decide)]; rfl, 1, by rw [gI_q]; rfl, by omega, fun w => ⟨fun hw => ⟨by omega, fun k hk => ?_⟩, fun hw => by omega⟩⟩
      have : k = 0 := by omega
      rw [this]
      exact z
    · obtain ⟨r, e, hr, k⟩ := N q
      refine ⟨nZ (r + 1), by rw [br_n (fun w => q (h31.mp w)), br_n (by decide), br_p trivial, e, show (1 : Int32) + nZ r = nZ (1 + r) from nZ_add 1 r, Nat.add_comm], r + 1, by rw [gI_q], ?_, fun w => ⟨fun hw => ?_, fun hw => ?_⟩⟩
      · have := ((k r).mp (Nat.le_refl _)).1
        omega
      · cases w with
        | zero => exact ⟨by omega, fun k hk => by omega⟩
        | succ w =>
          have kw := (k w).mp (by omega)
          refine ⟨by omega, fun j hj => ?_⟩
          cases j with
          | zero => exact z
          | succ j =>
            have := kw.2 j (by omega)
            rw [show s + (j + 1) = s + 1 + j by omega]
            exact this
      · cases w with
        | zero => omega
        | succ w =>
          have : w ≤ r := (k w).mpr ⟨by omega, fun j hj => by rw [show s + 1 + j = s + (j + 1) by omega]; exact hw.2 (j + 1) (by omega)⟩
          omega
  · rw [hv, if_neg z]
    have fin : RchAt (sI c 48 0 s 0) op s := ⟨0, by rw [gI_q]; rfl, by omega, fun w => ⟨fun hw => ⟨by omega, fun k hk => by omega⟩, fun hw => by
      cases w with
      | zero => omega
      | succ w => exact absurd (hw.2 0 (by omega)) z⟩⟩
    by_cases q : s % 32 = 31
    · exact ⟨0, by rw [br_p (h31.mpr q), br_p rfl], fin⟩
    · exact ⟨0, by rw [br_n (fun w => q (h31.mp w)), br_p rfl], fin⟩
theorem Rch_e {c c' : Hp} {op : Nat → Bool} {s : Nat} (e : gI c' 48 0 s = gI c 48 0 s) (R : RchAt c op s) : RchAt c' op s := by
  unfold RchAt at R ⊢
  rw [e]
  exact R
theorem spot_t {g : Hp} (R : RC g) {s : Nat} (hs : s < 256) : fX1_isUnitSpot (nZ s) g = some (if uS g s then 1 else 0, g) := by
  obtain ⟨v1, v2, v3, v4⟩ := R.v
  unfold fX1_isUnitSpot
  rw [br_n (by rw [nZ_neg (by omega)]; exact id), nZ_d32 (by omega), nZ_m32 (by omega)]
  by_cases q : uS g s
  · rw [bd_s (unit1_t R (isU_n R q.1 q.2)), if_pos q]
    rfl
  · rw [bd_s (unit1_f R fun z => q ?_), if_neg q]
    · rfl
    · obtain ⟨b, u, e1, e2, hb, hu⟩ := isU_ex R z
      have := v4 b hb
      rw [nZ_eq (by omega) (by omega)] at e1
      rw [nZ_eq (by omega) (by omega)] at e2
      rw [← e1] at hb hu
      rw [← e2] at hu
      exact ⟨hb, hu⟩
/-- spots that are whose -/
def opW (g : Hp) (ow : Nat → Int32) (x : Int32) (s : Nat) : Bool := decide (uS g s ∧ ow s = x)
theorem ot_L {x : Int32} {g : Hp} {ow : Nat → Int32} : ∀ (n j : Nat) (c : Hp), RC c → nB c = nB g → (∀ b, un c b = un g b) → (∀ s, s < 256 → gI c 53 0 s = ow s) → j ≤ 32 * nB g → j < n → (∀ s, j ≤ s → s < 32 * nB g → RchAt c (opW g ow x) s) → Wp (fX10_openThoseOf_L10 n x (nZ j + (-1)) c) (fun _ c' => Fr [48] c c' ∧ ∀ s, s < 32 * nB g → RchAt c' (opW g ow x) s) := by
  intro n
  induction n with
  | zero => intro j c _ _ _ _ _ q; omega
  | succ n ih =>
    intro j c R eB eU eO hj hn K
    obtain ⟨v1, v2, v3, v4⟩ := R.v
    rw [fX10_openThoseOf_L10]
    by_cases q : j = 0
    · subst q
      rw [br_p (by decide), wp_some]
      exact ⟨Fr.rf _ _, fun s hs => K s (by omega) hs⟩
    · rw [nZ_dn (by omega) (by omega)]
      have hs : j - 1 < 256 := by omega
      simp only [lb_e]
      rw [br_n (by rw [nZ_neg (by omega)]; exact id), gd_p (by rw [nZ_ib (by omega)]; omega), nZ_ix (by omega), eO (j - 1) hs, bd_s (spot_t R hs)]
      have fin : ∀ v : Int32, v = (if opW g ow x (j - 1) = true then 1 else 0) → Wp (bd (fX10_setOpen (nZ (j - 1)) v c) (fun r7 h8 => fX10_openThoseOf_L10 n x (nZ (j - 1) + (-1)) h8)) (fun _ c' => Fr [48] c c' ∧ ∀ s, s < 32 * nB g → RchAt c' (opW g ow x) s) := by
        intro v hv
        obtain ⟨y, e, k⟩ := setOpen_t hs (fun hq => by
          have := K j (Nat.le_refl _) (by
            have : (j - 1) / 32 < nB g := by omega
            omega)
          rw [show j - 1 + 1 = j by omega]
          exact this) v hv
        rw [bd_s e]
        have f1 : Fr [48] c (sI c 48 0 (j - 1) y) := Fr_I _ _ _ _ _ rfl
        have s1 : Sm fRC c (sI c 48 0 (j - 1) y) := f1.sm rfl
        refine wp_mono (ih (j - 1) _ (RC_sm s1 R) (by rw [nB_sm s1]; exact eB) (fun b => by rw [un_sm s1]; exact eU b) (fun s h => by rw [gI_o (by decide)]; exact eO s h) (by omega) (by omega) fun s h1 h2 => ?_) fun _ c' p => ⟨f1.tr p.1, p.2⟩
        by_cases z : s = j - 1
        · rw [z]
          exact k
        · exact Rch_e (by rw [gI_a, if_neg z]) (K s (by omega) h2)
      have hU : uS c (j - 1) ↔ uS g (j - 1) := by unfold uS; rw [eB, eU]
      by_cases z1 : ow (j - 1) = x
      · rw [br_p z1]
        by_cases z2 : uS c (j - 1)
        · rw [if_pos z2, br_n (by decide)]
          exact fin 1 (by unfold opW; rw [if_pos (decide_eq_true ⟨hU.mp z2, z1⟩)])
        · rw [if_neg z2, br_p rfl]
          exact fin 0 (by unfold opW; rw [if_neg fun w => z2 (hU.mpr (of_decide_eq_true w).1)])
      · rw [br_n z1]
        exact fin 0 (by unfold opW; rw [if_neg fun w => z1 (of_decide_eq_true w).2])
theorem open_t {x : Int32} {g c : Hp} {ow : Nat → Int32} (R : RC c) (eB : nB c = nB g) (eU : ∀ b, un c b = un g b) (eO : ∀ s, s < 256 → gI c 53 0 s = ow s) : Wp (fX10_openThoseOf x c) (fun _ c' => Fr [48] c c' ∧ ∀ s, s < 32 * nB g → RchAt c' (opW g ow x) s) := by
  obtain ⟨v1, v2, v3, v4⟩ := R.v
  unfold fX10_openThoseOf fX1_spotsEnd
  rw [v1, nZ_32x, eB, lb_e, Int32.sub_eq_add_neg]
  exact wp_call (ot_L FU (32 * nB g) c R eB eU eO (Nat.le_refl _) (by show _ < 100000; omega) fun s h1 h2 => by omega) fun _ c' p => wp_some.mpr p
/-- of the first n the best: which, and its worth -/
def bst (Q : Nat → Bool) (V : Nat → Int32) : Nat → Int32 × Int32
  | 0 => (m1, m1)
  | n + 1 => if Q n = true ∧ (bst Q V n).2 < V n then (nZ n, V n) else bst Q V n
theorem bst_n {Q : Nat → Bool} {V : Nat → Int32} {n : Nat} (h : Q n = false) : bst Q V (n + 1) = bst Q V n := by rw [bst, if_neg fun z => by rw [h] at z; exact absurd z.1 (by decide)]
theorem bst_ext {Q Q' : Nat → Bool} {V V' : Nat → Int32} : ∀ {n : Nat}, (∀ s, s < n → Q s = Q' s ∧ (Q s = true → V s = V' s)) → bst Q V n = bst Q' V' n := by
  intro n
  induction n with
  | zero => intro _; rfl
  | succ n ih =>
    intro h
    obtain ⟨h1, h2⟩ := h n (by omega)
    rw [bst, bst, ih fun s hs => h s (by omega), ← h1]
    by_cases z : Q n = true
    · rw [h2 z]
    · rw [if_neg fun w => z w.1, if_neg fun w => z w.1]
theorem bst_v {Q : Nat → Bool} {V : Nat → Int32} (hV : ∀ s, Q s = true → 0 ≤ (V s).toInt) : ∀ n, (bst Q V n = (m1, m1)) ∨ ∃ s, s < n ∧ Q s = true ∧ bst Q V n = (nZ s, V s) := by
  intro n
  induction n with
  | zero => exact Or.inl rfl
  | succ n ih =>
    rw [bst]
    by_cases z : Q n = true ∧ (bst Q V n).2 < V n
    · rw [if_pos z]
      exact Or.inr ⟨n, by omega, z.1, rfl⟩
    · rw [if_neg z]
      rcases ih with e | ⟨s, h1, h2, h3⟩
      · exact Or.inl e
      · exact Or.inr ⟨s, by omega, h2, h3⟩
def galOk (g : Hp) (a : Int32) (s : Nat) : Prop := a ≠ 0 ∨ gI g 29 0 (s / 32) = 0
theorem runOpen_t {c : Hp} (R : RC c) {op : Nat → Bool} (hop : ∀ s, op s = true → uS c s) {s w : Nat} (hs : s < 32 * nB c) (hw : 1 ≤ w) (hw2 : w ≤ 32) (K : RchAt c op s) (a3 : Int32) : ∃ x, fX10_isRunOpen (nZ s) (nZ w) a3 c = some (x, c) ∧ ((x = 0) ↔ ¬ (runP c op w s ∧ galOk c a3 s)) := by
  obtain ⟨v1, v2, v3, v4⟩ := R.v
  obtain ⟨r, e, hr, k⟩ := K
  have hib : ib (nZ s) 257 := by rw [nZ_ib (by omega)]; omega
  have hib2 : ib (nZ (s / 32)) 8 := by rw [nZ_ib (by omega)]; omega
  have eq : w ≤ r ↔ runP c op w s := by
    rw [k w]
    unfold runP
    refine ⟨fun z => ⟨by omega, ?_, z.2⟩, fun z => ⟨?_, z.2.2⟩⟩
    · have := hop _ (z.2 (w - 1) (by omega))
      unfold uS at this
      rw [show (s + (w - 1)) / 32 = s / 32 by omega] at this
      omega
    · have := (v4 (s / 32) z.1).2.2.2
      omega
  unfold fX10_isRunOpen
  simp only [gd_p hib, gd_p hib2, nZ_d32 (by omega : s < 2147483648), nZ_ix (by omega : s < 2147483648), nZ_ix (by omega : s / 32 < 2147483648), e, nZ_lt (by omega : r < 2147483648) (by omega : w < 2147483648)]
  by_cases z : r < w
  · exact ⟨0, br_p z, iff_of_true rfl fun w => by have := eq.mpr w.1; omega⟩
  · rw [br_n z]
    have rp := eq.mp (by omega)
    by_cases z2 : a3 = 0
    · rw [br_p z2]
      by_cases z3 : gI c 29 0 (s / 32) = 0
      · exact ⟨1, br_p z3, iff_of_false (by decide) (not_not_intro ⟨rp, Or.inr z3⟩)⟩
      · refine ⟨0, br_n z3, iff_of_true rfl fun w => ?_⟩
        rcases w.2 with y | y
        · exact y z2
        · exact z3 y
    · exact ⟨1, br_n z2, iff_of_false (by decide) (not_not_intro ⟨rp, Or.inl z2⟩)⟩
noncomputable def QB (c : Hp) (op : Nat → Bool) (w : Nat) (a3 : Int32) (s : Nat) : Bool := @decide (runP c op w s ∧ galOk c a3 s) (Classical.propDecidable _)
theorem QB_t {c : Hp} {op : Nat → Bool} {w : Nat} {a3 : Int32} {s : Nat} : QB c op w a3 s = true ↔ (runP c op w s ∧ galOk c a3 s) := by unfold QB; exact @decide_eq_true_iff _ (Classical.propDecidable _)
theorem QB_f {c : Hp} {op : Nat → Bool} {w : Nat} {a3 : Int32} {s : Nat} : QB c op w a3 s = false ↔ ¬ (runP c op w s ∧ galOk c a3 s) := by unfold QB; exact @decide_eq_false_iff_not _ (Classical.propDecidable _)
theorem bR_L {c : Hp} (R : RC c) {op : Nat → Bool} (hop : ∀ s, op s = true → uS c s) {w : Nat} (hw : 1 ≤ w) (hw2 : w ≤ 32) (K : ∀ s, s < 32 * nB c → RchAt c op s) (d a3 : Int32) : ∀ n j, j ≤ 32 * nB c → 32 * nB c - j < n → ∃ x, fX10_bestRun_L18 n (nZ w) d a3 (bst (QB c op w a3) (fun s => wS c s w d) j).1 (bst (QB c op w a3) (fun s => wS c s w d) j).2 (nZ (32 * nB c)) (nZ j) c = some (((bst (QB c op w a3) (fun s => wS c s w d) (32 * nB c)).1, x), c) := by
  obtain ⟨v1, v2, v3, v4⟩ := R.v
  intro n
  induction n with
  | zero => intro j _ q; omega
  | succ n ih =>
    intro j hj hn
    rw [fX10_bestRun_L18]
    simp (disch := omega) only [lb_e, nZ_le, nZ_suc]
    by_cases q : j = 32 * nB c
    · subst q
      rw [br_p (by omega)]
      exact ⟨_, rfl⟩
    · have nx := ih (j + 1) (by omega) (by omega)
      obtain ⟨x, e, ex⟩ := runOpen_t R hop (s := j) (by omega) hw hw2 (K j (by omega)) a3
      rw [br_n (by omega), bd_s e]
      by_cases z : x = 0
      · rw [br_p z]
        rw [bst_n (QB_f.mpr (ex.mp z))] at nx
        exact nx
      · have rp : runP c op w j ∧ galOk c a3 j := Classical.byContradiction fun y => z (ex.mpr y)
        rw [br_n z]
        have hb : j / 32 < nB c := by omega
        have ew := worth1 R hb hw rp.1.2.1 d
        rw [show 32 * (j / 32) + j % 32 = j by omega] at ew
        rw [bd_s ew]
        by_cases z2 : wS c j w d ≤ (bst (QB c op w a3) (fun s => wS c s w d) j).2
        · rw [br_p z2]
          rw [bst, if_neg (fun y => by have := i32_lt.mp y.2; have := i32_le.mp z2; omega)] at nx
          exact nx
        · rw [br_n z2]
          rw [bst, if_pos ⟨QB_t.mpr rp, i32_lt.mpr (by rw [i32_le] at z2; omega)⟩] at nx
          exact nx
theorem bestRun_t {c : Hp} (R : RC c) {op : Nat → Bool} (hop : ∀ s, op s = true → uS c s) {w : Nat} (hw : 1 ≤ w) (hw2 : w ≤ 32) (K : ∀ s, s < 32 * nB c → RchAt c op s) (d a3 : Int32) : fX10_bestRun (nZ w) d a3 c = some ((bst (QB c op w a3) (fun s => wS c s w d) (32 * nB c)).1, c) := by
  obtain ⟨v1, v2, v3, v4⟩ := R.v
  obtain ⟨x, e⟩ := bR_L R hop hw hw2 K d a3 FU 0 (by omega) (by show _ < 100000; omega)
  unfold fX10_bestRun fX1_spotsEnd
  rw [lb_e, v1, nZ_32x, bd_s (show fX10_bestRun_L18 FU (nZ w) d a3 (-1) (-1) (nZ (32 * nB c)) 0 c = _ from e)]
  rfl
