/-! ===== level 2: knock: the class's table of those ahead, and the prices ===== -/
theorem sxo_dn : ∀ S, S < 256 → ∀ l, l < 8 → S.testBit l = true → sxo S l < S := by decide +kernel
theorem An_0 (v : Nat → Nat) (n : Nat) (a : Nat → Nat) : An v n a 0 = a 0 := by
  rw [An_e]
  have : mxf (gA v a 0) n ≤ 0 := mxf_le fun l _ => by
    unfold gA
    rw [if_neg fun z => by simp at z]
    exact Nat.le_refl _
  omega
theorem aa15_L {V : Nat → Nat → Nat} {n i S : Nat} {a : Nat → Nat} (hi : i < 12) (hS : S < 2 ^ n) (ha : ∀ S, a S ≤ 120000) : ∀ (f l : Nat) (c : Hp), Of V n c → (∀ x, x < S → gI c 19 0 x = nZ (a x)) → gI c 19 0 S = nZ (max (a S) (mxf (gA (V i) a S) l)) → l ≤ n → n - l < f → Wp (fX0_addAhead_L15 f (nZ i) (nZ S) (nZ l) c) (fun _ c' => Fr [19] c c' ∧ ∀ x, gI c' 19 0 x = if x = S then nZ (An (V i) n a S) else gI c 19 0 x) := by
  intro f
  induction f with
  | zero => intro l c _ _ _ _ q; omega
  | succ f ih =>
    intro l c O T e hl hf
    have O' := O
    obtain ⟨o1, o2, o3, o4⟩ := O'
    have h2 := p2b o2
    rw [fX0_addAhead_L15, o1]
    by_cases q : l = n
    · rw [br_p (by rw [nZ_le (by omega) (by omega)]; omega), wp_some]
      refine ⟨Fr.rf _ _, fun x => ?_⟩
      by_cases z : x = S
      · rw [if_pos z, z, e, q]
        rfl
      · rw [if_neg z]
    · have h3 := sxo_lt hS (by omega : l < n)
      have b1 : mxf (gA (V i) a S) l ≤ 120000 + 10000 := mxf_le fun l _ => gA_b (o3 i) ha S l
      have b3 := ha S
      have b4 := ha (sxo S l)
      have b5 := o3 i l
      rw [nZ_sxo (by omega : l < 32)]
      simp (disch := omega) only [nZ_le, nZ_suc, nZ_12x, nZ_add, nZ_ib, nZ_ix, lb_e]
      rw [br_n (by omega), gd_p (by omega), o4 l i (by omega) hi]
      have sk : gA (V i) a S l = 0 → gI c 19 0 S = nZ (max (a S) (mxf (gA (V i) a S) (l + 1))) := fun y => by
        rw [mxf, y, Nat.max_eq_left (Nat.zero_le (mxf (gA (V i) a S) l))]
        exact e
      by_cases z : 0 < V i l
      · rw [br_n (by rw [nZ_le0 (by omega)]; omega)]
        by_cases w : S.testBit l = true
        · have h4 := sxo_dn S (by omega) l (by omega) w
          rw [br_n (by rw [tbS (by omega), w]; decide), gd_p (by omega), gd_p (by omega), gd_p (by omega), e, T _ h4, nZ_add, mxI_nn (by omega) (by omega)]
          have f1 : Fr [19] c (sI c 19 0 S (nZ (max (max (a S) (mxf (gA (V i) a S) l)) (V i l + a (sxo S l))))) := Fr_I _ _ _ _ _ rfl
          refine wp_mono (ih (l + 1) _ (Of_sm (f1.sm rfl) O) (fun x hx => ?_) ?_ (by omega) (by omega)) fun _ c' k => ⟨f1.tr k.1, fun x => ?_⟩
          · rw [gI_a, if_neg (by omega)]
            exact T x hx
          · rw [gI_q, mxf, show gA (V i) a S l = V i l + a (sxo S l) from if_pos ⟨w, z⟩, Nat.max_assoc]
          · rw [k.2 x, gI_a]
            by_cases y : x = S
            · rw [if_pos y, if_pos y]
            · rw [if_neg y, if_neg y, if_neg y]
        · rw [br_p (by rw [tbS (by omega)]; cases y : S.testBit l with | true => exact absurd y w | false => rfl)]
          exact ih (l + 1) c O T (sk (if_neg fun y => w y.1)) (by omega) (by omega)
      · rw [br_p (by rw [nZ_le0 (by omega)]; omega)]
        exact ih (l + 1) c O T (sk (if_neg fun y => z y.2)) (by omega) (by omega)
theorem aa9_L {V : Nat → Nat → Nat} {n i : Nat} {a : Nat → Nat} (hi : i < 12) (ha : ∀ S, a S ≤ 120000) : ∀ (f S : Nat) (c : Hp), Of V n c → S < 2 ^ n → S < f → (∀ x, x ≤ S → gI c 19 0 x = nZ (a x)) → Wp (fX0_addAhead_L9 f (nZ i) (nZ S) c) (fun _ c' => Fr [19] c c' ∧ ∀ x, gI c' 19 0 x = if x ≤ S then nZ (An (V i) n a x) else gI c 19 0 x) := by
  intro f
  induction f with
  | zero => intro S c _ _ q; omega
  | succ f ih =>
    intro S c O hS hf T
    have h2 := p2b O.2.1
    rw [fX0_addAhead_L9]
    cases S with
    | zero =>
      rw [br_p (by decide), wp_some]
      refine ⟨Fr.rf _ _, fun x => ?_⟩
      by_cases z : x ≤ 0
      · obtain rfl : x = 0 := by omega
        rw [if_pos (Nat.le_refl _), An_0]
        exact T 0 (Nat.le_refl _)
      · rw [if_neg z]
    | succ S =>
      rw [br_n (by rw [nZ_le0 (by omega)]; omega), nZ_dn (by omega) (by omega), Nat.add_sub_cancel]
      refine wp_call (show Wp (fX0_addAhead_L15 FU (nZ i) (nZ (S + 1)) (nZ 0) c) _ from aa15_L hi hS ha FU 0 c O (fun x hx => T x (by omega)) ?_ (by omega) (by have := O.2.1; show _ < 100000; omega)) fun _ c1 k1 => ?_
      · rw [T (S + 1) (Nat.le_refl _), mxf, Nat.max_eq_left (Nat.zero_le _)]
      · rw [lb_e]
        refine wp_mono (ih S c1 (Of_sm (k1.1.sm rfl) O) (by omega) (by omega) fun x hx => ?_) fun _ c' k => ⟨k1.1.tr k.1, fun x => ?_⟩
        · rw [k1.2, if_neg (by omega)]
          exact T x (by omega)
        · rw [k.2 x]
          by_cases z : x ≤ S
          · rw [if_pos z, if_pos (by omega)]
          · rw [if_neg z, k1.2]
            by_cases y : x = S + 1
            · rw [if_pos y, if_pos (by omega), y]
            · rw [if_neg y, if_neg (by omega)]
/-- the class's table of those ahead -/
def Ah (V : Nat → Nat → Nat) (n i : Nat) (c : Hp) : Prop := ∀ S, S < 2 ^ n → gI c 19 0 S = nZ (Aa V n i S)
theorem Ah_sm {V : Nat → Nat → Nat} {n i : Nat} {c c' : Hp} (e : Sm [19] c c') (R : Ah V n i c) : Ah V n i c' := fun S h => by
  rw [e.A 19 0 _ (by decide)]
  exact R S h
theorem Aa_b12 {V : Nat → Nat → Nat} (hV : ∀ i l, V i l ≤ 10000) (n : Nat) {j : Nat} (hj : j ≤ 12) (S : Nat) : Aa V n j S ≤ 120000 := Nat.le_trans (Aa_b hV n j S) (by omega)
theorem addAhead_t {V : Nat → Nat → Nat} {n i : Nat} {c : Hp} (O : Of V n c) (A : Ah V n i c) (hi : i < 12) : Wp (fX0_addAhead (nZ i) c) (fun _ c' => Fr [19] c c' ∧ Ah V n (i + 1) c') := by
  have h2 := p2b O.2.1
  have hp : 0 < 2 ^ n := Nat.pos_of_ne_zero (by simp)
  unfold fX0_addAhead
  rw [O.1, p2Z n O.2.1, nZ_pre (by omega) (by omega), lb_e]
  refine wp_call (aa9_L (a := Aa V n i) hi (Aa_b12 O.2.2.1 n (by omega)) FU (2 ^ n - 1) c O (by omega) (by show _ < 100000; omega) fun x hx => A x (by omega)) fun _ c' k => wp_some.mpr ⟨k.1, fun S hS => ?_⟩
  rw [k.2 S, if_pos (by omega)]
  rfl
theorem bw_L {V : Nat → Nat → Nat} {n i : Nat} {c : Hp} (O : Of V n c) (T : Tb V n c) (A : Ah V n i c) (hi : i < 12) : ∀ f s, s ≤ 2 ^ n → 2 ^ n - s < f → fX0_bestWithout_L4 f (nZ i) (nZ (mxf (fun S => Aa V n i S + Db V n (11 - i) S) s)) (nZ s) c = some ((nZ (MX n (Aa V n i) (Db V n (11 - i))), nZ (2 ^ n)), c) := by
  obtain ⟨o1, o2, o3, o4⟩ := O
  have h2 := p2b o2
  intro f
  induction f with
  | zero => intro s _ q; omega
  | succ f ih =>
    intro s hs hf
    rw [fX0_bestWithout_L4, o1, p2Z n o2]
    simp (disch := omega) only [nZ_suc, nZ_le, nZ_256x, nZ_add, nZ_ib, nZ_ix, lb_e]
    by_cases q : s = 2 ^ n
    · rw [br_p (by omega), q]
      rfl
    · have b1 := Aa_b12 o3 n (by omega : i ≤ 12) s
      have b2' := Db_b12 o3 n (by omega : 11 - i ≤ 12) s
      have b3 : mxf (fun S => Aa V n i S + Db V n (11 - i) S) s ≤ 240000 := mxf_le fun S _ => by
        have := Aa_b12 o3 n (by omega : i ≤ 12) S
        have := Db_b12 o3 n (by omega : 11 - i ≤ 12) S
        omega
      rw [br_n (by omega), gd_p (by omega), gd_p (by omega), A s (by omega), T (i + 1) s (by omega) (by omega), show 12 - (i + 1) = 11 - i by omega, nZ_add, mxI_nn (by omega) (by omega)]
      exact ih (s + 1) (by omega) (by omega)
theorem bestWithout_t {V : Nat → Nat → Nat} {n i : Nat} {c : Hp} (O : Of V n c) (T : Tb V n c) (A : Ah V n i c) (hi : i < 12) : fX0_bestWithout (nZ i) c = some (nZ (Db (but V i) n 12 0), c) := by
  have h2 := p2b O.2.1
  unfold fX0_bestWithout
  rw [bd_s (show fX0_bestWithout_L4 FU (nZ i) 0 0 c = _ from bw_L O T A hi FU 0 (Nat.zero_le _) (by show _ < 100000; omega)), sums_but V n hi]
  rfl
def pC (V : Nat → Nat → Nat) (n i : Nat) : Int32 := if kW V n i < n then nZ (Db (but V i) n 12 0) - (nZ (Db V n 12 0) - nZ (V i (kW V n i))) else 0
theorem fp_L {V : Nat → Nat → Nat} {n : Nat} : ∀ (f i : Nat) (c : Hp), Of V n c → Tb V n c → Ah V n i c → gI c 0 0 12 = nZ (Db V n 12 0) → (∀ j, j < 12 → gI c 20 0 j = wz n (kW V n j)) → i ≤ 12 → 12 - i < f → (∀ j, j < i → gI c 21 0 j = wz n (kW V n j) ∧ gI c 22 0 j = pC V n j) → Wp (fX0_findPrices_L20 f (nZ i) c) (fun _ c' => Fr [19, 21, 22] c c' ∧ ∀ j, j < 12 → gI c' 21 0 j = wz n (kW V n j) ∧ gI c' 22 0 j = pC V n j) := by
  intro f
  induction f with
  | zero => intro i c _ _ _ _ _ _ q; omega
  | succ f ih =>
    intro i c O T A e12 e20 hi hf K
    have h8 := O.2.1
    rw [fX0_findPrices_L20]
    simp (disch := omega) only [le12, nZ_suc, nZ_ib, nZ_ix, lb_e]
    by_cases q : i = 12
    · subst q
      rw [br_p (by omega), wp_some]
      exact ⟨Fr.rf _ _, K⟩
    · have hlt : i < 12 := by omega
      rw [br_n (by omega)]
      simp only [gd_p hlt]
      rw [e20 i hlt]
      have f1 : Fr [21] c (sI c 21 0 i (wz n (kW V n i))) := Fr_I _ _ _ _ _ rfl
      have fin : ∀ p : Int32, p = pC V n i → Wp (bd (fX0_addAhead (nZ i) (sI (sI c 21 0 i (wz n (kW V n i))) 22 0 i p)) fun _ h14 => fX0_findPrices_L20 f (nZ (i + 1)) h14) (fun _ c' => Fr [19, 21, 22] c c' ∧ ∀ j, j < 12 → gI c' 21 0 j = wz n (kW V n j) ∧ gI c' 22 0 j = pC V n j) := by
        intro p ep
        have f2 : Fr [21, 22] c (sI (sI c 21 0 i (wz n (kW V n i))) 22 0 i p) := (f1.wk rfl).tr (Fr_I _ _ _ _ _ rfl)
        refine wp_call (addAhead_t (Of_sm (f2.sm rfl) O) (Ah_sm (f2.sm rfl) A) hlt) fun _ c2 k2 => ?_
        have f3 : Fr [19, 21, 22] c c2 := (f2.wk rfl).tr (k2.1.wk rfl)
        refine wp_mono (ih (i + 1) c2 (Of_sm (f3.sm rfl) O) (Tb_sm (f3.sm rfl) T) k2.2 (by rw [f3.I 0 0 12 rfl]; exact e12) (fun j hj => by rw [f3.A 20 0 j rfl]; exact e20 j hj) (by omega) (by omega) fun j hj => ?_) fun _ c' k => ⟨f3.tr k.1, k.2⟩
        rw [k2.1.A 21 0 j rfl, k2.1.A 22 0 j rfl, gI_o (by decide), gI_a, gI_a, gI_o (by decide)]
        by_cases z : j = i
        · rw [if_pos z, if_pos z, z]
          exact ⟨rfl, ep⟩
        · rw [if_neg z, if_neg z]
          exact K j (by omega)
      by_cases z : kW V n i < n
      · have ew : wz n (kW V n i) = nZ (kW V n i) := if_pos z
        rw [br_n fun w => (wz_m h8).mp w z, bd_s (bestWithout_t (Of_sm (f1.sm rfl) O) (Tb_sm (f1.sm rfl) T) (Ah_sm (f1.sm rfl) A) hlt), f1.I 0 0 12 rfl, e12]
        have ei : wz n (kW V n i) * 12 + nZ i = nZ (12 * kW V n i + i) := by rw [ew, nZ_12x, nZ_add]
        rw [ei, nZ_ix (by omega), gd_p (by rw [nZ_ib (by omega)]; omega), f1.A 17 0 _ rfl, O.2.2.2 _ _ z hlt]
        exact fin _ (if_pos z).symm
      · rw [br_p ((wz_m h8).mpr z)]
        exact fin _ (if_neg z).symm
theorem findPrices_t {V : Nat → Nat → Nat} {n : Nat} {c : Hp} (O : Of V n c) (T : Tb V n c) (e20 : ∀ j, j < 12 → gI c 20 0 j = wz n (kW V n j)) : Wp (fX0_findPrices c) (fun _ c' => Fr [19, 21, 22, 1009, 1012] c c' ∧ gI c' 0 0 12 = nZ (Db V n 12 0) ∧ gI c' 0 0 9 = 1 ∧ ∀ j, j < 12 → gI c' 21 0 j = wz n (kW V n j) ∧ gI c' 22 0 j = pC V n j) := by
  have h2 := p2b O.2.1
  unfold fX0_findPrices
  have f1 : Fr [19] c (flI c 19 0 0 256 0) := Fr_flI _ _ _ _ _ _ (by omega) rfl
  have hp : 0 < 2 ^ n := Nat.pos_of_ne_zero (by simp)
  have e0 : gI (flI c 19 0 0 256 0) 18 0 (ix 0) = nZ (Db V n 12 0) := by
    rw [f1.A 18 0 _ rfl]
    exact T 0 0 (by omega) hp
  rw [lb_e, lb_e, e0]
  have f2 : Fr [19, 1012] c (sI (flI c 19 0 0 256 0) 0 0 12 (nZ (Db V n 12 0))) := (f1.wk rfl).tr (Fr_I _ _ _ _ _ rfl)
  refine wp_call (show Wp (fX0_findPrices_L20 FU (nZ 0) _) _ from fp_L FU 0 _ (Of_sm (f2.sm rfl) O) (Tb_sm (f2.sm rfl) T) (fun S hS => ?_) (by rw [gI_q]) (fun j hj => by rw [f2.A 20 0 j rfl]; exact e20 j hj) (by omega) (by show _ < 100000; omega) fun j hj => by omega) fun _ c2 k2 => ?_
  · rw [gI_o (by decide), gI_flI, if_pos ⟨rfl, rfl, Nat.zero_le _, by omega⟩]
    rfl
  · rw [lb_e, wp_some]
    have f3 : Fr [1009] c2 (sI c2 0 0 9 1) := Fr_I _ _ _ _ _ rfl
    refine ⟨((f2.wk rfl).tr (k2.1.wk rfl)).tr (f3.wk rfl), ?_, gI_q, fun j hj => ?_⟩
    · rw [f3.I 0 0 12 rfl, k2.1.I 0 0 12 rfl, gI_q]
    · rw [f3.A 21 0 j rfl, f3.A 22 0 j rfl]
      exact k2.2 j hj
def sJs (p : Nat → Int32) : Nat → Int64
  | 0 => 0
  | i + 1 => sJs p i + (p i).toInt64
theorem inc_L {p : Nat → Int32} {c : Hp} (K : ∀ j, j < 12 → gI c 22 0 j = p j) : ∀ f i, i ≤ 12 → 12 - i < f → fX0_income_L4 f (sJs p i) (nZ i) c = some ((sJs p 12, nZ 12), c) := by
  intro f
  induction f with
  | zero => intro i _ q; omega
  | succ f ih =>
    intro i hi hf
    rw [fX0_income_L4]
    simp (disch := omega) only [le12, nZ_suc, nZ_ib, nZ_ix, lb_e]
    by_cases q : i = 12
    · rw [br_p (by omega), q]
    · rw [br_n (by omega), gd_p (by omega), K i (by omega)]
      exact ih (i + 1) (by omega) (by omega)
theorem income_t {p : Nat → Int32} {c : Hp} (K : ∀ j, j < 12 → gI c 22 0 j = p j) : fX0_income c = some (sJs p 12, c) := by
  unfold fX0_income
  rw [bd_s (show fX0_income_L4 FU 0 0 c = _ from inc_L K FU 0 (by omega) (by show _ < 100000; omega))]
  rfl
