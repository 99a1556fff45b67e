/-! ===== level 2: rings: what is looked for ===== -/
/-- among more places than names, two places bear one name -/
theorem php : ∀ (n : Nat) (f : Nat → Nat), (∀ i, i ≤ n → f i < n) → ∃ i j, i < j ∧ j ≤ n ∧ f i = f j := by
  intro n
  induction n with
  | zero => intro f h; exact absurd (h 0 (Nat.le_refl _)) (by omega)
  | succ n ih =>
    intro f h
    by_cases z : ∃ i, i ≤ n ∧ f i = f (n + 1)
    · obtain ⟨i, hi, e⟩ := z
      exact ⟨i, n + 1, by omega, Nat.le_refl _, e⟩
    · obtain ⟨i, j, h1, h2, h3⟩ := ih (fun i => if f i = n then f (n + 1) else f i) (fun i hi => by
        have a := h i (by omega)
        have b := h (n + 1) (Nat.le_refl _)
        have c : ¬ f i = f (n + 1) := fun w => z ⟨i, hi, w⟩
        show (if f i = n then f (n + 1) else f i) < n
        split <;> omega)
      refine ⟨i, j, h1, by omega, ?_⟩
      have c : ¬ f i = f (n + 1) := fun w => z ⟨i, by omega, w⟩
      have d : ¬ f j = f (n + 1) := fun w => z ⟨j, by omega, w⟩
      have h3' : (if f i = n then f (n + 1) else f i) = (if f j = n then f (n + 1) else f j) := h3
      split at h3' <;> split at h3' <;> omega
/-- the most liked of those left -/
def fa (w : Nat → Int32) (L : Int32) (i : Nat) : Nat → Nat × Int32
  | 0 => (i, w i)
  | k + 1 => if bt L k = true ∧ ¬ w k ≤ (fa w L i k).2 then (k, w k) else fa w L i k
theorem fa_ge (w : Nat → Int32) (L : Int32) (i : Nat) : ∀ k, w i ≤ (fa w L i k).2 := by
  intro k
  induction k with
  | zero => exact Int32.le_refl _
  | succ k ih =>
    rw [fa]
    split
    · rename_i h
      rw [i32_le] at ih ⊢
      have := h.2
      rw [i32_le] at this
      show (w i).toInt ≤ (w k).toInt
      omega
    · exact ih
theorem fa_in (w : Nat → Int32) (L : Int32) (i : Nat) (hi : bt L i = true) (h12 : i < 12) : ∀ k, k ≤ 12 → bt L (fa w L i k).1 = true ∧ (fa w L i k).1 < 12 := by
  intro k
  induction k with
  | zero => intro _; exact ⟨hi, h12⟩
  | succ k ih =>
    intro hk
    rw [fa]
    split
    · rename_i h
      exact ⟨h.1, by show k < 12; omega⟩
    · exact ih (by omega)
theorem fa_st (w : Nat → Int32) (L : Int32) (i : Nat) {H : Nat} (hL : ∀ j, H ≤ j → j < 12 → bt L j = false) : ∀ k, H ≤ k → k ≤ 12 → fa w L i k = fa w L i H := by
  intro k
  induction k with
  | zero => intro h _; rw [Nat.le_zero.mp h]
  | succ k ih =>
    intro h1 h2
    by_cases e : H = k + 1
    · rw [e]
    · rw [fa, if_neg fun z => by rw [hL k (by omega) (by omega)] at z; cases z.1]
      exact ih (by omega) (by omega)
/-- one goes round, and comes back or does not -/
def cho (F : Nat → Nat) (i : Nat) : Nat → Nat → Nat
  | 0, v => v
  | k + 1, v => if v = i then v else cho F i k (F v)
def rgB (F : Nat → Nat) (L : Int32) (i : Nat) : Bool := bt L i && decide (cho F i 12 (F i) = i)
def itr (F : Nat → Nat) (i : Nat) : Nat → Nat
  | 0 => i
  | k + 1 => F (itr F i k)
theorem itr_add (F : Nat → Nat) (i a : Nat) : ∀ b, itr F (itr F i a) b = itr F i (a + b) := by
  intro b
  induction b with
  | zero => rfl
  | succ b ih => show F _ = F _; rw [ih]; rfl
theorem cho_i (F : Nat → Nat) (x : Nat) : ∀ k v t, t ≤ k → itr F v t = x → cho F x k v = x := by
  intro k
  induction k with
  | zero =>
    intro v t ht e
    rw [Nat.le_zero.mp ht] at e
    exact e
  | succ k ih =>
    intro v t ht e
    rw [cho]
    by_cases z : v = x
    · rw [if_pos z]; exact z
    · rw [if_neg z]
      cases t with
      | zero => exact absurd e z
      | succ t =>
        refine ih (F v) t (by omega) ?_
        have := itr_add F v 1 t
        rw [Nat.add_comm 1 t, e] at this
        exact this
theorem rng_ex {F : Nat → Nat} {L : Int32} (hF : ∀ i, i < 12 → bt L i = true → bt L (F i) = true ∧ F i < 12) {i : Nat} (h1 : i < 12) (h2 : bt L i = true) : ∃ j, j < 12 ∧ rgB F L j = true := by
  have hI : ∀ k, itr F i k < 12 ∧ bt L (itr F i k) = true := by
    intro k
    induction k with
    | zero => exact ⟨h1, h2⟩
    | succ k ih => exact ⟨(hF _ ih.1 ih.2).2, (hF _ ih.1 ih.2).1⟩
  obtain ⟨a, b, h3, h4, h5⟩ := php 12 (itr F i) fun k _ => (hI k).1
  refine ⟨itr F i a, (hI a).1, ?_⟩
  unfold rgB
  rw [(hI a).2, Bool.true_and, decide_eq_true_iff]
  refine cho_i F _ 12 _ (b - a - 1) (by omega) ?_
  have := itr_add F (itr F i a) 1 (b - a - 1)
  have e1 : itr F (itr F i a) 1 = F (itr F i a) := rfl
  rw [e1, itr_add, show a + (1 + (b - a - 1)) = b by omega] at this
  rw [this, h5]
theorem nZ_12 : (12 : Int32) = nZ 12 := rfl
/-- the class's favourite -/
theorem fav_L {c : Hp} {s z i : Nat} {w : Nat → Int32} {L : Int32} (hi : i < 12) (hw : ∀ j, j < 12 → bt L j = true → fX6_worthOfRun z (nZ j) s c = some (w j, c)) : ∀ n k, k ≤ 12 → 12 - k < n → fX6_favourite_L33 n L s z (nZ (fa w L i k).1) (fa w L i k).2 (nZ k) c = some ((nZ (fa w L i 12).1, (fa w L i 12).2, nZ 12), c) := by
  intro n
  induction n with
  | zero => intro k _ q; omega
  | succ n ih =>
    intro k hk hn
    rw [fX6_favourite_L33]
    simp (disch := omega) only [lb_e, nZ_12, nZ_le, nZ_suc]
    by_cases q : k = 12
    · subst q
      rw [br_p (by omega)]
    · rw [br_n (by omega)]
      have st := ih (k + 1) (by omega) (by omega)
      by_cases b : bt L k = false
      · rw [br_p ((tb0 (by omega)).mpr b)]
        rw [fa, if_neg fun z => by rw [b] at z; cases z.1] at st
        exact st
      · have b' : bt L k = true := by simpa using b
        rw [br_n fun z => b ((tb0 (by omega)).mp z), bd_s (hw k (by omega) b')]
        by_cases g : w k ≤ (fa w L i k).2
        · rw [br_p g]
          rw [fa, if_neg fun z => z.2 g] at st
          exact st
        · rw [br_n g]
          rw [fa, if_pos ⟨b', g⟩] at st
          exact st
def fvo (w : Nat → Nat → Int32) (L : Int32) (i : Nat) : Nat := (fa (w i) L i 12).1
theorem fav_t {c : Hp} {s i : Nat} {w : Nat → Nat → Int32} {L : Int32} (P : RP c) (hi : i < nH c) (hb : bt L i = true) (hw : ∀ j, j < 12 → bt L j = true → fX6_worthOfRun i (nZ j) s c = some (w i j, c)) : fX6_favourite (nZ i) L s c = some (nZ (fvo w L i), c) := by
  have hH := P.2.2.1
  unfold fX6_favourite
  rw [bd_s (find4_t P hi), mt_s rfl, bd_s (hw i (by omega) hb), bd_s (show fX6_favourite_L33 FU L s i (nZ i) (w i i) 0 c = _ from fav_L (i := i) (by omega) hw FU 0 (by omega) (by show _ < 100000; omega))]
  rfl
theorem look_L {s : Nat} {w : Nat → Nat → Int32} {L : Int32} {h : Hp} (P : RP h) (hL : ∀ j, j < 12 → bt L j = true → j < nH h) (hw : ∀ c, Fr [36, 37] h c → ∀ i j, i < 12 → j < 12 → bt L i = true → bt L j = true → fX6_worthOfRun i (nZ j) s c = some (w i j, c)) : ∀ n k c, k ≤ 12 → 12 - k < n → Fr [36, 37] h c → (∀ i, i < k → bt L i = true → gI c 36 0 i = nZ (fvo w L i)) → ∃ r c', fX6_lookRound_L2 n L s (nZ k) c = some (r, c') ∧ Fr [36] c c' ∧ ∀ i, i < 12 → bt L i = true → gI c' 36 0 i = nZ (fvo w L i) := by
  intro n
  induction n with
  | zero => intro k c _ q; omega
  | succ n ih =>
    intro k c hk hn fc K
    rw [fX6_lookRound_L2]
    simp (disch := omega) only [lb_e, nZ_12, nZ_le, nZ_suc, nZ_ib, nZ_ix]
    by_cases q : k = 12
    · subst q
      rw [br_p (by omega)]
      exact ⟨_, c, rfl, Fr.rf _ _, K⟩
    · rw [br_n (by omega)]
      by_cases b : bt L k = false
      · rw [br_p ((tb0 (by omega)).mpr b)]
        exact ih (k + 1) c (by omega) (by omega) fc fun i hi bi => by
          by_cases e : i = k
          · rw [e, b] at bi; cases bi
          · exact K i (by omega) bi
      · have b' : bt L k = true := by simpa using b
        have Pc : RP c := RP_sm (fc.sm rfl) P
        have hk' : k < nH c := by
          have : nH c = nH h := by unfold nH; rw [fc.I 12 0 8 rfl]
          rw [this]
          exact hL k (by omega) b'
        rw [br_n fun z => b ((tb0 (by omega)).mp z), bd_s (fav_t Pc hk' b' fun j hj bj => hw c fc k j (by omega) hj b' bj), gd_p (by omega)]
        have f1 : Fr [36] c (sI c 36 0 k (nZ (fvo w L k))) := Fr_I _ _ _ _ _ rfl
        obtain ⟨r, c', e1, e2, e3⟩ := ih (k + 1) (sI c 36 0 k (nZ (fvo w L k))) (by omega) (by omega) (fc.tr (f1.wk rfl)) fun i hi bi => by
          rw [gI_a]
          by_cases e : i = k
          · rw [if_pos e, e]
          · rw [if_neg e]
            exact K i (by omega) bi
        exact ⟨r, c', e1, f1.tr e2, e3⟩
theorem ring_L {c : Hp} {F : Nat → Nat} {L : Int32} (hF : ∀ i, i < 12 → bt L i = true → bt L (F i) = true ∧ F i < 12) (e : ∀ i, i < 12 → bt L i = true → gI c 36 0 i = nZ (F i)) {i : Nat} (hi : i < 12) : ∀ n k v, k ≤ 12 → 12 - k < n → v < 12 → bt L v = true → ∃ a, fX6_isInRing_L9 n (nZ i) (nZ v) (nZ k) c = some ((nZ (cho F i (12 - k) v), a), c) ∧ cho F i (12 - k) v < 12 := by
  intro n
  induction n with
  | zero => intro k v _ q; omega
  | succ n ih =>
    intro k v hk hn hv bv
    rw [fX6_isInRing_L9]
    simp (disch := omega) only [lb_e, nZ_12, nZ_le, nZ_suc, nZ_ib, nZ_ix, nZ_eq]
    by_cases q : k = 12
    · subst q
      rw [br_p (by omega)]
      exact ⟨_, rfl, hv⟩
    · rw [br_n (by omega), show 12 - k = (12 - (k + 1)) + 1 by omega, cho]
      by_cases z : v = i
      · rw [br_p z, if_pos z]
        exact ⟨_, rfl, hv⟩
      · rw [br_n z, if_neg z, gd_p hv, e v hv bv]
        exact ih (k + 1) (F v) (by omega) (by omega) (hF v hv bv).2 (hF v hv bv).1
theorem ring_t {c : Hp} {F : Nat → Nat} {L : Int32} (hF : ∀ i, i < 12 → bt L i = true → bt L (F i) = true ∧ F i < 12) (e : ∀ i, i < 12 → bt L i = true → gI c 36 0 i = nZ (F i)) {i : Nat} (hi : i < 12) (bi : bt L i = true) : fX6_isInRing (nZ i) c = some (if rgB F L i = true then 1 else 0, c) := by
  unfold fX6_isInRing
  obtain ⟨a, e1, e2⟩ := ring_L hF e hi FU 0 (F i) (by omega) (by show _ < 100000; omega) (hF i hi bi).2 (hF i hi bi).1
  simp (disch := omega) only [lb_e, nZ_ib, nZ_ix]
  rw [gd_p hi, e i hi bi, bd_s (show fX6_isInRing_L9 FU (nZ i) (nZ (F i)) 0 c = _ from e1)]
  show br (nZ (cho F i 12 (F i)) = nZ i) _ _ = _
  have e2' : cho F i 12 (F i) < 12 := e2
  simp (disch := omega) only [nZ_eq]
  unfold rgB
  rw [bi, Bool.true_and]
  by_cases z : cho F i 12 (F i) = i
  · rw [br_p z, if_pos (by simpa using z)]
  · rw [br_n z, if_neg (by simpa using z)]
theorem ringed_L {c : Hp} {F : Nat → Nat} {L : Int32} (hF : ∀ i, i < 12 → bt L i = true → bt L (F i) = true ∧ F i < 12) (e : ∀ i, i < 12 → bt L i = true → gI c 36 0 i = nZ (F i)) : ∀ n k r, k ≤ 12 → 12 - k < n → (∀ i, i < 32 → bt r i = (rgB F L i && decide (i < k))) → ∃ a r', fX6_ringed_L4 n L r (nZ k) c = some ((r', a), c) ∧ ∀ i, i < 32 → bt r' i = (rgB F L i && decide (i < 12)) := by
  intro n
  induction n with
  | zero => intro k v _ q; omega
  | succ n ih =>
    intro k r hk hn K
    rw [fX6_ringed_L4]
    simp (disch := omega) only [lb_e, nZ_12, nZ_le, nZ_suc]
    by_cases q : k = 12
    · subst q
      rw [br_p (by omega)]
      exact ⟨_, r, rfl, K⟩
    · rw [br_n (by omega)]
      have same : rgB F L k = false → ∀ i, i < 32 → bt r i = (rgB F L i && decide (i < k + 1)) := fun z i hi => by
        rw [K i hi]
        by_cases e : i = k
        · rw [e, z]; rfl
        · have : (i < k) ↔ (i < k + 1) := by omega
          simp [this]
      by_cases b : bt L k = false
      · rw [br_p ((tb0 (by omega)).mpr b)]
        exact ih (k + 1) r (by omega) (by omega) (same (by unfold rgB; rw [b]; rfl))
      · have b' : bt L k = true := by simpa using b
        rw [br_n fun z => b ((tb0 (by omega)).mp z), bd_s (ring_t hF e (by omega) b')]
        by_cases g : rgB F L k = true
        · rw [if_pos g, br_n (by decide)]
          refine ih (k + 1) _ (by omega) (by omega) fun i hi => ?_
          rw [tb1 (by omega) hi, K i hi]
          by_cases e : i = k
          · rw [e, g]; simp
          · have : (i < k) ↔ (i < k + 1) := by omega
            simp [this, e]
        · rw [if_neg g, br_p rfl]
          exact ih (k + 1) r (by omega) (by omega) (same (by simpa using g))
theorem ringed_t {c : Hp} {F : Nat → Nat} {L : Int32} (hF : ∀ i, i < 12 → bt L i = true → bt L (F i) = true ∧ F i < 12) (e : ∀ i, i < 12 → bt L i = true → gI c 36 0 i = nZ (F i)) : ∃ r, fX6_ringed L c = some (r, c) ∧ ∀ i, i < 32 → bt r i = (rgB F L i && decide (i < 12)) := by
  obtain ⟨a, r, e1, e2⟩ := ringed_L hF e FU 0 0 (by omega) (by show _ < 100000; omega) fun i hi => by rw [b_0]; simp
  refine ⟨r, ?_, e2⟩
  unfold fX6_ringed
  rw [bd_s (show fX6_ringed_L4 FU L 0 0 c = _ from e1)]
  rfl
def moB (F : Nat → Nat) (L : Int32) (i : Nat) : Bool := rgB F L i && decide (F i ≠ i)
theorem letgo_L {F : Nat → Nat} {L r : Int32} (hF : ∀ i, i < 12 → bt L i = true → bt L (F i) = true ∧ F i < 12) (hr : ∀ i, i < 12 → bt r i = rgB F L i) : ∀ n k c, k ≤ 12 → 12 - k < n → (∀ i, i < 12 → bt L i = true → gI c 36 0 i = nZ (F i)) → ∃ a c', fX6_letGo_L4 n r (nZ (cnt (moB F L) k)) (nZ k) c = some ((nZ (cnt (moB F L) 12), a), c') ∧ Fr [37] c c' ∧ ∀ i, gI c' 37 0 i = if k ≤ i ∧ i < 12 ∧ rgB F L i = true then nZ (F i) else gI c 37 0 i := by
  intro n
  induction n with
  | zero => intro k c _ q; omega
  | succ n ih =>
    intro k c hk hn e
    rw [fX6_letGo_L4]
    simp (disch := omega) only [lb_e, nZ_12, nZ_le, nZ_suc, nZ_ib, nZ_ix]
    by_cases q : k = 12
    · subst q
      rw [br_p (by omega)]
      exact ⟨_, c, rfl, Fr.rf _ _, fun i => by rw [if_neg (by omega)]⟩
    · rw [br_n (by omega)]
      by_cases b : rgB F L k = true
      · have bL : bt L k = true := by
          unfold rgB at b
          rw [Bool.and_eq_true] at b
          exact b.1
        have hk12 : k < 12 := by omega
        rw [br_n fun z => by rw [tb0 (by omega), hr k hk12, b] at z; cases z]
        rw [gd_p hk12, gd_p hk12, gd_p hk12, gI_q, e k hk12 bL]
        have f1 : Fr [37] c (sI c 37 0 k (nZ (F k))) := Fr_I _ _ _ _ _ rfl
        obtain ⟨a, c', e1, e2, e3⟩ := ih (k + 1) (sI c 37 0 k (nZ (F k))) (by omega) (by omega) fun i hi bi => by rw [f1.A 36 0 i rfl]; exact e i hi bi
        refine ⟨a, c', ?_, f1.tr e2, fun i => ?_⟩
        · have hFk := (hF k hk12 bL).2
          simp (disch := omega) only [nZ_eq]
          by_cases z : F k = k
          · rw [br_p z, show nZ (cnt (moB F L) k) + 0 = nZ (cnt (moB F L) (k + 1)) by
              rw [cnt_f (by unfold moB; rw [z]; simp)]
              exact nZ_add _ 0]
            exact e1
          · rw [br_n z]
            rw [cnt_t (show moB F L k = true by unfold moB; rw [b]; simp [z])] at e1
            exact e1
        · rw [e3 i, gI_a]
          by_cases z : i = k
          · rw [if_neg (by omega), if_pos z, if_pos ⟨by omega, by omega, by rw [z]; exact b⟩, z]
          · rw [if_neg z]
            have : (k + 1 ≤ i ∧ i < 12 ∧ rgB F L i = true) ↔ (k ≤ i ∧ i < 12 ∧ rgB F L i = true) := ⟨fun y => ⟨by omega, y.2⟩, fun y => ⟨by omega, y.2⟩⟩
            simp only [this]
      · have b' : rgB F L k = false := by simpa using b
        rw [br_p ((tb0 (by omega)).mpr ((hr k (by omega)).trans b'))]
        obtain ⟨a, c', e1, e2, e3⟩ := ih (k + 1) c (by omega) (by omega) e
        refine ⟨a, c', ?_, e2, fun i => ?_⟩
        · rw [cnt_f (show ¬ moB F L k = true by unfold moB; rw [b']; simp)] at e1
          exact e1
        · rw [e3 i]
          have : (k + 1 ≤ i ∧ i < 12 ∧ rgB F L i = true) ↔ (k ≤ i ∧ i < 12 ∧ rgB F L i = true) := ⟨fun y => ⟨by omega, y.2⟩, fun y => ⟨by
            by_cases z : i = k
            · rw [z, b'] at y; cases y.2.2
            · omega, y.2⟩⟩
          simp only [this]
