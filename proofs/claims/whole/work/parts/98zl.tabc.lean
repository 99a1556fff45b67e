/-! ===== level 2: knock: the class's table of those behind, and the winners ===== -/
def mz (a : Int32) (x : Nat) : Prop := (a = m1 ∧ x = 0) ∨ a = nZ x
theorem mxI_nn {a b : Nat} (ha : a < 2147483648) (hb : b < 2147483648) : mxI (nZ a) (nZ b) = nZ (max a b) := by
  unfold mxI
  by_cases z : nZ a < nZ b
  · rw [if_pos z]
    rw [nZ_lt ha hb] at z
    rw [Nat.max_eq_right (by omega)]
  · rw [if_neg z]
    rw [nZ_lt ha hb] at z
    rw [Nat.max_eq_left (by omega)]
theorem mxI_n1 {a : Nat} (ha : a < 2147483648) : mxI (nZ a) m1 = nZ a := by
  unfold mxI
  rw [if_neg fun z => (nZ_lt_m1 ha).mp z]
theorem mxI_1n {a : Nat} (ha : a < 2147483648) : mxI m1 (nZ a) = nZ a := by
  unfold mxI
  rw [if_pos ((m1_lt ha).mpr trivial)]
theorem mz_max {a b : Int32} {x y : Nat} (hx : x < 2147483648) (hy : y < 2147483648) (p : mz a x) (q : mz b y) : mz (mxI a b) (max x y) := by
  rcases p with ⟨rfl, rfl⟩ | rfl
  · rcases q with ⟨rfl, rfl⟩ | rfl
    · exact Or.inl ⟨by decide, rfl⟩
    · rw [mxI_1n hy, Nat.max_eq_right (Nat.zero_le _)]
      exact Or.inr rfl
  · rcases q with ⟨rfl, rfl⟩ | rfl
    · rw [mxI_n1 hx, Nat.max_eq_left (Nat.zero_le _)]
      exact Or.inr rfl
    · rw [mxI_nn hx hy]
      exact Or.inr rfl
theorem mz_z {b : Int32} {x y : Nat} (hx : x < 2147483648) (hy : y < 2147483648) (q : mz b y) : mxI (nZ x) b = nZ (max x y) := by
  rcases q with ⟨rfl, rfl⟩ | rfl
  · rw [mxI_n1 hx, Nat.max_eq_left (Nat.zero_le _)]
  · exact mxI_nn hx hy
def gD (v d : Nat → Nat) (S l : Nat) : Nat := if S.testBit l = false ∧ 0 < v l then v l + d (sad S l) else 0
def gA (v a : Nat → Nat) (S l : Nat) : Nat := if S.testBit l = true ∧ 0 < v l then v l + a (sxo S l) else 0
theorem Dn_e (v : Nat → Nat) (n : Nat) (d : Nat → Nat) (S : Nat) : Dn v n d S = max (d S) (mxf (gD v d S) n) := rfl
theorem An_e (v : Nat → Nat) (n : Nat) (a : Nat → Nat) (S : Nat) : An v n a S = max (a S) (mxf (gA v a S) n) := rfl
theorem gD_b {v d : Nat → Nat} {b : Nat} (hv : ∀ l, v l ≤ 10000) (hd : ∀ S, d S ≤ b) (S l : Nat) : gD v d S l ≤ b + 10000 := by
  unfold gD
  have := hv l
  have := hd (sad S l)
  split <;> omega
theorem gA_b {v d : Nat → Nat} {b : Nat} (hv : ∀ l, v l ≤ 10000) (hd : ∀ S, d S ≤ b) (S l : Nat) : gA v d S l ≤ b + 10000 := by
  unfold gA
  have := hv l
  have := hd (sxo S l)
  split <;> omega
theorem Dn_b {v d : Nat → Nat} {n b : Nat} (hv : ∀ l, v l ≤ 10000) (hd : ∀ S, d S ≤ b) (S : Nat) : Dn v n d S ≤ b + 10000 := by
  rw [Dn_e]
  exact Nat.max_le.mpr ⟨Nat.le_trans (hd S) (by omega), mxf_le fun l _ => gD_b hv hd S l⟩
theorem An_b {v d : Nat → Nat} {n b : Nat} (hv : ∀ l, v l ≤ 10000) (hd : ∀ S, d S ≤ b) (S : Nat) : An v n d S ≤ b + 10000 := by
  rw [An_e]
  exact Nat.max_le.mpr ⟨Nat.le_trans (hd S) (by omega), mxf_le fun l _ => gA_b hv hd S l⟩
theorem Db_b {V : Nat → Nat → Nat} (hV : ∀ i l, V i l ≤ 10000) (n : Nat) : ∀ j S, Db V n j S ≤ 10000 * j := by
  intro j
  induction j with
  | zero => intro S; exact Nat.zero_le _
  | succ j ih =>
    intro S
    have := Dn_b (n := n) (hV (11 - j)) ih S
    show Dn _ _ _ S ≤ _
    omega
theorem Aa_b {V : Nat → Nat → Nat} (hV : ∀ i l, V i l ≤ 10000) (n : Nat) : ∀ j S, Aa V n j S ≤ 10000 * j := by
  intro j
  induction j with
  | zero => intro S; exact Nat.zero_le _
  | succ j ih =>
    intro S
    have := An_b (n := n) (hV j) ih S
    show An _ _ _ S ≤ _
    omega
theorem Db_r (V : Nat → Nat → Nat) (n : Nat) {i : Nat} (hi : i < 12) (S : Nat) : Db V n (12 - i) S = Dn (V i) n (Db V n (11 - i)) S := by
  rw [show 12 - i = (11 - i) + 1 by omega]
  show Dn (V (11 - (11 - i))) n _ S = _
  rw [show 11 - (11 - i) = i by omega]
/-- the class's lots and offers -/
def Of (V : Nat → Nat → Nat) (n : Nat) (c : Hp) : Prop := gI c 0 0 0 = nZ n ∧ n ≤ 8 ∧ (∀ i l, V i l ≤ 10000) ∧ ∀ l i, l < n → i < 12 → gI c 17 0 (12 * l + i) = nZ (V i l)
theorem Of_sm {V : Nat → Nat → Nat} {n : Nat} {c c' : Hp} (e : Sm [1000, 17] c c') (R : Of V n c) : Of V n c' := by
  unfold Of at R ⊢
  simp (disch := decide) only [e.A, e.I]
  exact R
theorem p2b {n : Nat} (h : n ≤ 8) : 2 ^ n ≤ 256 := Nat.pow_le_pow_right (n := 2) (by omega) h
theorem nZ_256x (a : Nat) : nZ a * 256 = nZ (256 * a) := by rw [Nat.mul_comm]; exact nZ_mul a 256
theorem nZ_x256 (a : Nat) : (256 : Int32) * nZ a = nZ (256 * a) := nZ_mul 256 a
theorem nZ_le0 {a : Nat} (ha : a < 2147483648) : (nZ a ≤ 0) ↔ a = 0 := by
  show nZ a ≤ nZ 0 ↔ _
  rw [nZ_le ha (by omega)]
  omega
theorem sumLot_t {V : Nat → Nat → Nat} {n : Nat} {c : Hp} (O : Of V n c) {i l S : Nat} {d : Nat → Nat} (hi : i < 12) (hl : l < n) (hS : S < 2 ^ n) (T : ∀ S, S < 2 ^ n → gI c 18 0 (256 * (i + 1) + S) = nZ (d S)) : fX0_sumWithLot (nZ i) (nZ l) (nZ S) c = some (if S.testBit l = false ∧ 0 < V i l then nZ (V i l + d (sad S l)) else m1, c) := by
  obtain ⟨o1, o2, o3, o4⟩ := O
  have h1 := sad_lt hS hl
  have h2 := p2b o2
  have hv := o3 i l
  unfold fX0_sumWithLot
  rw [nZ_sad (by omega : l < 32), nZ_suc]
  simp (disch := omega) only [nZ_12x, nZ_256x, nZ_add, nZ_ib, nZ_ix, lb_e]
  rw [gd_p (by omega), o4 l i hl hi]
  by_cases z : 0 < V i l
  · rw [br_n (by rw [nZ_le0 (by omega)]; omega)]
    by_cases w : S.testBit l = false
    · rw [br_p ((tbS (by omega)).mpr w), gd_p (by omega), T _ h1, nZ_add, if_pos ⟨w, z⟩]
    · rw [br_n fun q => w ((tbS (by omega)).mp q), if_neg fun q => w q.1]
      rfl
  · rw [br_p (by rw [nZ_le0 (by omega)]; omega), if_neg fun q => z q.2]
    rfl
theorem bwl_L {V : Nat → Nat → Nat} {n : Nat} {c : Hp} (O : Of V n c) {i S : Nat} {d : Nat → Nat} (hi : i < 12) (hS : S < 2 ^ n) (hd : ∀ S, d S ≤ 120000) (T : ∀ S, S < 2 ^ n → gI c 18 0 (256 * (i + 1) + S) = nZ (d S)) : ∀ f l a, l ≤ n → n - l < f → mz a (mxf (gD (V i) d S) l) → ∃ a', fX0_bestWithLot_L5 f (nZ i) (nZ S) a (nZ l) c = some ((a', nZ n), c) ∧ mz a' (mxf (gD (V i) d S) n) := by
  have O' := O
  obtain ⟨o1, o2, o3, o4⟩ := O'
  intro f
  induction f with
  | zero => intro l a _ q; omega
  | succ f ih =>
    intro l a hl hf ha
    rw [fX0_bestWithLot_L5, o1]
    simp (disch := omega) only [nZ_le, nZ_suc, lb_e]
    by_cases q : l = n
    · subst q
      rw [br_p (Nat.le_refl _)]
      exact ⟨a, rfl, ha⟩
    · rw [br_n (by omega), bd_s (sumLot_t O hi (by omega) hS T)]
      refine ih (l + 1) _ (by omega) (by omega) ?_
      rw [mxf]
      have b1 : mxf (gD (V i) d S) l ≤ 120000 + 10000 := mxf_le fun l _ => gD_b (o3 i) hd S l
      have b2' := gD_b (o3 i) hd S l
      refine mz_max (by omega) (by omega) ha ?_
      unfold gD
      by_cases z : S.testBit l = false ∧ 0 < V i l
      · rw [if_pos z, if_pos z]
        exact Or.inr rfl
      · rw [if_neg z, if_neg z]
        exact Or.inl ⟨rfl, rfl⟩
theorem bwl_t {V : Nat → Nat → Nat} {n : Nat} {c : Hp} (O : Of V n c) {i S : Nat} {d : Nat → Nat} (hi : i < 12) (hS : S < 2 ^ n) (hd : ∀ S, d S ≤ 120000) (T : ∀ S, S < 2 ^ n → gI c 18 0 (256 * (i + 1) + S) = nZ (d S)) : ∃ a', fX0_bestWithLot (nZ i) (nZ S) c = some (a', c) ∧ mz a' (mxf (gD (V i) d S) n) := by
  have h8 := O.2.1
  obtain ⟨a', e, k⟩ := bwl_L O hi hS hd T FU 0 (-1) (by omega) (by show _ < 100000; omega) (Or.inl ⟨rfl, rfl⟩)
  refine ⟨a', ?_, k⟩
  unfold fX0_bestWithLot
  rw [bd_s (show fX0_bestWithLot_L5 FU (nZ i) (nZ S) (-1) 0 c = _ from e)]
  rfl
theorem fb25_L {V : Nat → Nat → Nat} {n i : Nat} {d : Nat → Nat} (hi : i < 12) (hd : ∀ S, d S ≤ 120000) : ∀ (f s : Nat) (c : Hp), Of V n c → (∀ S, S < 2 ^ n → gI c 18 0 (256 * (i + 1) + S) = nZ (d S)) → s ≤ 2 ^ n → 2 ^ n - s < f → Wp (fX0_fillBest_L25 f (nZ i) (nZ s) c) (fun _ c' => Fr [18] c c' ∧ ∀ x, gI c' 18 0 x = if 256 * i + s ≤ x ∧ x < 256 * i + 2 ^ n then nZ (Dn (V i) n d (x - 256 * i)) else gI c 18 0 x) := by
  intro f
  induction f with
  | zero => intro s c _ _ _ q; omega
  | succ f ih =>
    intro s c O T hs hf
    have O' := O
    obtain ⟨o1, o2, o3, o4⟩ := O'
    have h2 := p2b o2
    rw [fX0_fillBest_L25, o1, p2Z n o2]
    simp (disch := omega) only [nZ_suc, nZ_le, nZ_256x, nZ_add, nZ_ib, nZ_ix, lb_e]
    by_cases q : s = 2 ^ n
    · rw [br_p (by omega), wp_some]
      refine ⟨Fr.rf _ _, fun x => ?_⟩
      rw [if_neg (by omega)]
    · obtain ⟨a', e, k⟩ := bwl_t O hi (by omega : s < 2 ^ n) hd T
      have b1 : mxf (gD (V i) d s) n ≤ 120000 + 10000 := mxf_le fun l _ => gD_b (o3 i) hd s l
      have b3 := hd s
      rw [br_n (by omega), gd_p (by omega), bd_s e, gd_p (by omega), T s (by omega), mz_z (by omega) (by omega) k]
      have f1 : Fr [18] c (sI c 18 0 (256 * i + s) (nZ (max (d s) (mxf (gD (V i) d s) n)))) := Fr_I _ _ _ _ _ rfl
      refine wp_mono (ih (s + 1) _ (Of_sm (f1.sm rfl) O) (fun S hS => ?_) (by omega) (by omega)) fun _ c' k => ⟨f1.tr k.1, fun x => ?_⟩
      · rw [gI_a, if_neg (by omega)]
        exact T S hS
      · rw [k.2 x, gI_a]
        by_cases z : x = 256 * i + s
        · rw [if_neg (by omega), if_pos z, if_pos (by omega), z, Nat.add_sub_cancel_left]
          rfl
        · by_cases z2 : 256 * i + (s + 1) ≤ x ∧ x < 256 * i + 2 ^ n
          · rw [if_pos z2, if_pos (by omega)]
          · rw [if_neg z2, if_neg z, if_neg (by omega)]
def dz : Nat → Int32
  | 0 => m1
  | k + 1 => nZ k
theorem dz_d {k : Nat} (hk : k < 1000) : nZ k + (-1) = dz k := by
  cases k with
  | zero => exact nZ_01
  | succ k => exact nZ_dn (by omega) (by omega)
/-- the class's table of those behind -/
def Tb (V : Nat → Nat → Nat) (n : Nat) (c : Hp) : Prop := ∀ j S, j ≤ 12 → S < 2 ^ n → gI c 18 0 (256 * j + S) = nZ (Db V n (12 - j) S)
theorem Tb_sm {V : Nat → Nat → Nat} {n : Nat} {c c' : Hp} (e : Sm [18] c c') (R : Tb V n c) : Tb V n c' := fun j S h1 h2 => by
  rw [e.A 18 0 _ (by decide)]
  exact R j S h1 h2
theorem Db_b12 {V : Nat → Nat → Nat} (hV : ∀ i l, V i l ≤ 10000) (n : Nat) {j : Nat} (hj : j ≤ 12) (S : Nat) : Db V n j S ≤ 120000 := Nat.le_trans (Db_b hV n j S) (by omega)
theorem fb19_L {V : Nat → Nat → Nat} {n : Nat} : ∀ (f k : Nat) (c : Hp), Of V n c → k ≤ 12 → k < f → (∀ j S, k ≤ j → j ≤ 12 → S < 2 ^ n → gI c 18 0 (256 * j + S) = nZ (Db V n (12 - j) S)) → Wp (fX0_fillBest_L19 f (dz k) c) (fun _ c' => Fr [18] c c' ∧ Tb V n c') := by
  intro f
  induction f with
  | zero => intro k c _ _ q; omega
  | succ f ih =>
    intro k c O hk hf T
    have h2 := p2b O.2.1
    rw [fX0_fillBest_L19]
    cases k with
    | zero =>
      rw [br_p (by decide), wp_some]
      exact ⟨Fr.rf _ _, fun j S h1 h2 => T j S (by omega) h1 h2⟩
    | succ k =>
      show Wp (br (nZ k < 0) _ (bd (fX0_fillBest_L25 FU (nZ k) 0 c) fun v12 h10 => lb (nZ k + (-1)) fun v13 => fX0_fillBest_L19 f v13 h10)) _
      rw [br_n (by rw [nZ_neg (by omega)]; exact id), dz_d (by omega)]
      refine wp_call (fb25_L (d := Db V n (11 - k)) (by omega) (Db_b12 O.2.2.1 n (by omega)) FU 0 c O (fun S hS => ?_) (Nat.zero_le _) (by show _ < 100000; omega)) fun _ c1 k1 => ?_
      · rw [T (k + 1) S (by omega) (by omega) hS, show 12 - (k + 1) = 11 - k by omega]
      · rw [lb_e]
        refine wp_mono (ih k c1 (Of_sm (k1.1.sm rfl) O) (by omega) (by omega) fun j S h3 h4 h5 => ?_) fun _ c' w => ⟨k1.1.tr w.1, w.2⟩
        rw [k1.2]
        by_cases z : j = k
        · subst z
          rw [if_pos (by omega), Nat.add_sub_cancel_left, Db_r V n (by omega)]
        · rw [if_neg (by omega)]
          exact T j S (by omega) h4 h5
theorem fillBest_t {V : Nat → Nat → Nat} {n : Nat} {c : Hp} (O : Of V n c) : Wp (fX0_fillBest c) (fun _ c' => Fr [18] c c' ∧ Tb V n c') := by
  have h2 := p2b O.2.1
  unfold fX0_fillBest
  rw [gd_p (by decide), lb_e]
  have f1 : Fr [18] c (flI c 18 0 (ix 3072) (ix (Int32.ofNat 3328)) 0) := Fr_flI _ _ _ _ _ _ (by omega) rfl
  refine wp_call (show Wp (fX0_fillBest_L19 FU (dz 12) _) _ from fb19_L FU 12 _ (Of_sm (f1.sm rfl) O) (by omega) (by show _ < 100000; omega) fun j S h3 h4 h5 => ?_) fun _ c' k => wp_some.mpr ⟨f1.tr k.1, k.2⟩
  obtain rfl : j = 12 := by omega
  rw [gI_flI, if_pos ⟨rfl, rfl, by show 3072 ≤ _; omega, by show _ < 3328; omega⟩]
  rfl
/-- the least lot of those that keep the greatest sum -/
def pW (V : Nat → Nat → Nat) (n i S l : Nat) : Bool := decide ((S.testBit l = false ∧ 0 < V i l) ∧ V i l + Db V n (11 - i) (sad S l) = Db V n (12 - i) S)
def fN (p : Nat → Bool) (n : Nat) : Nat → Nat
  | 0 => n
  | k + 1 => if p (n - (k + 1)) = true then n - (k + 1) else fN p n k
theorem fN_s {p : Nat → Bool} {n l : Nat} (h : l < n) : fN p n (n - l) = if p l = true then l else fN p n (n - (l + 1)) := by
  rw [show n - l = (n - (l + 1)) + 1 by omega, fN, show n - (n - (l + 1) + 1) = l by omega]
theorem fN_0 (p : Nat → Bool) (n : Nat) : fN p n (n - n) = n := by
  rw [Nat.sub_self]
  rfl
def wz (n x : Nat) : Int32 := if x < n then nZ x else m1
theorem ll_L {V : Nat → Nat → Nat} {n i S : Nat} {c : Hp} (O : Of V n c) (T : Tb V n c) (hi : i < 12) (hS : S < 2 ^ n) : ∀ f l, l ≤ n → n - l < f → fX0_leastLot_L2 f (nZ i) (nZ S) (nZ l) c = some (if fN (pW V n i S) n (n - l) < n then .inl (nZ (fN (pW V n i S) n (n - l))) else .inr (nZ n), c) := by
  have O' := O
  obtain ⟨o1, o2, o3, o4⟩ := O'
  have h2 := p2b o2
  intro f
  induction f with
  | zero => intro l _ q; omega
  | succ f ih =>
    intro l hl hf
    rw [fX0_leastLot_L2, o1]
    simp (disch := omega) only [nZ_le, nZ_suc, nZ_256x, nZ_add, nZ_ib, nZ_ix, lb_e]
    by_cases q : l = n
    · subst q
      rw [br_p (Nat.le_refl _), fN_0, if_neg (Nat.lt_irrefl _)]
    · have T1 : ∀ S, S < 2 ^ n → gI c 18 0 (256 * (i + 1) + S) = nZ (Db V n (11 - i) S) := fun S hS => by
        rw [T (i + 1) S (by omega) hS, show 12 - (i + 1) = 11 - i by omega]
      have e : ((if S.testBit l = false ∧ 0 < V i l then nZ (V i l + Db V n (11 - i) (sad S l)) else m1) = gI c 18 0 (256 * i + S)) ↔ pW V n i S l = true := by
        have b1 := Db_b12 o3 n (by omega : 11 - i ≤ 12) (sad S l)
        have b3 := Db_b12 o3 n (by omega : 12 - i ≤ 12) S
        have b4 := o3 i l
        rw [T i S (by omega) hS]
        unfold pW
        rw [decide_eq_true_iff]
        by_cases z : S.testBit l = false ∧ 0 < V i l
        · rw [if_pos z, nZ_eq (by omega) (by omega)]
          exact ⟨fun w => ⟨z, w⟩, fun w => w.2⟩
        · rw [if_neg z, m1_nZ (by omega)]
          exact ⟨fun w => w.elim, fun w => z w.1⟩
      rw [br_n (by omega), bd_s (sumLot_t O hi (by omega) hS T1), gd_p (by omega), fN_s (by omega)]
      by_cases z : pW V n i S l = true
      · rw [br_p (e.mpr z), if_pos z, if_pos (by omega)]
      · rw [br_n fun w => z (e.mp w), if_neg z]
        exact ih (l + 1) (by omega) (by omega)
theorem ll_t {V : Nat → Nat → Nat} {n i S : Nat} {c : Hp} (O : Of V n c) (T : Tb V n c) (hi : i < 12) (hS : S < 2 ^ n) : fX0_leastLot (nZ i) (nZ S) c = some (wz n (fN (pW V n i S) n n), c) := by
  have h8 := O.2.1
  unfold fX0_leastLot
  rw [bd_s (show fX0_leastLot_L2 FU (nZ i) (nZ S) 0 c = _ from ll_L O T hi hS FU 0 (by omega) (by show _ < 100000; omega)), Nat.sub_zero]
  unfold wz
  by_cases z : fN (pW V n i S) n n < n
  · rw [if_pos z, if_pos z, ms_l]
  · rw [if_neg z, if_neg z, ms_r]
    rfl
def kS (V : Nat → Nat → Nat) (n : Nat) : Nat → Nat
  | 0 => 0
  | i + 1 => if fN (pW V n i (kS V n i)) n n < n then sad (kS V n i) (fN (pW V n i (kS V n i)) n n) else kS V n i
def kW (V : Nat → Nat → Nat) (n i : Nat) : Nat := fN (pW V n i (kS V n i)) n n
def kK (V : Nat → Nat → Nat) (n : Nat) : Nat → Nat
  | 0 => 0
  | i + 1 => if kW V n i < n then kK V n i + 1 else kK V n i
theorem kS_s (V : Nat → Nat → Nat) (n i : Nat) : kS V n (i + 1) = if kW V n i < n then sad (kS V n i) (kW V n i) else kS V n i := rfl
theorem kK_s (V : Nat → Nat → Nat) (n i : Nat) : kK V n (i + 1) = if kW V n i < n then kK V n i + 1 else kK V n i := rfl
theorem kS_lt (V : Nat → Nat → Nat) (n : Nat) : ∀ i, kS V n i < 2 ^ n := by
  intro i
  induction i with
  | zero => exact Nat.pos_of_ne_zero (by simp)
  | succ i ih =>
    rw [kS_s]
    by_cases z : kW V n i < n
    · rw [if_pos z]
      exact sad_lt ih z
    · rw [if_neg z]
      exact ih
theorem kK_le (V : Nat → Nat → Nat) (n : Nat) : ∀ i, kK V n i ≤ i := by
  intro i
  induction i with
  | zero => exact Nat.le_refl _
  | succ i ih =>
    rw [kK_s]
    split <;> omega
theorem kK_mono (V : Nat → Nat → Nat) (n : Nat) {a b : Nat} (h : a ≤ b) : kK V n a ≤ kK V n b := by
  induction b with
  | zero =>
    obtain rfl : a = 0 := by omega
    exact Nat.le_refl _
  | succ b ih =>
    by_cases z : a = b + 1
    · rw [z]
      exact Nat.le_refl _
    · have := ih (by omega)
      rw [kK_s]
      split <;> omega
theorem wz_m {n x : Nat} (hn : n ≤ 8) : (wz n x = -1) ↔ ¬ x < n := by
  unfold wz
  by_cases z : x < n
  · rw [if_pos z]
    exact iff_of_false (fun w => (nZ_m1 (by omega)).mp w) (not_not_intro z)
  · rw [if_neg z]
    exact iff_of_true rfl z
theorem fw_L {V : Nat → Nat → Nat} {n : Nat} : ∀ (f i : Nat) (c : Hp), Of V n c → Tb V n c → i ≤ 12 → 12 - i < f → (∀ j, j < i → gI c 20 0 j = wz n (kW V n j)) → Wp (fX0_findWinners_L10 f (nZ (kS V n i)) (nZ (kK V n i)) (nZ i) c) (fun t c' => t.2.1 = nZ (kK V n 12) ∧ Fr [20] c c' ∧ ∀ j, j < 12 → gI c' 20 0 j = wz n (kW V n j)) := by
  intro f
  induction f with
  | zero => intro i c _ _ _ q; omega
  | succ f ih =>
    intro i c O T hi hf K
    have h8 := O.2.1
    rw [fX0_findWinners_L10]
    simp (disch := omega) only [le12, nZ_suc, nZ_ib, nZ_ix, lb_e]
    by_cases q : i = 12
    · subst q
      rw [br_p (by omega), wp_some]
      exact ⟨rfl, Fr.rf _ _, K⟩
    · rw [br_n (by omega), bd_s (ll_t O T (by omega) (kS_lt V n i)), gd_p (by omega), gd_p (by omega)]
      show Wp (br (gI (sI c 20 0 i (wz n (kW V n i))) 20 0 i = -1) _ _) _
      have f1 : Fr [20] c (sI c 20 0 i (wz n (kW V n i))) := Fr_I _ _ _ _ _ rfl
      have K1 : ∀ j, j < i + 1 → gI (sI c 20 0 i (wz n (kW V n i))) 20 0 j = wz n (kW V n j) := fun j hj => by
        rw [gI_a]
        by_cases z : j = i
        · rw [if_pos z, z]
        · rw [if_neg z]
          exact K j (by omega)
      have nx := ih (i + 1) _ (Of_sm (f1.sm rfl) O) (Tb_sm (f1.sm rfl) T) (by omega) (by omega) K1
      rw [kS_s, kK_s] at nx
      rw [gI_q]
      by_cases z : kW V n i < n
      · rw [if_pos z, if_pos z] at nx
        rw [br_n fun w => (wz_m h8).mp w z, gd_p (by omega)]
        have ew : wz n (kW V n i) = nZ (kW V n i) := if_pos z
        rw [show gI (sI c 20 0 i (wz n (fN (pW V n i (kS V n i)) n n))) 20 0 i = nZ (kW V n i) from gI_q.trans ew, nZ_sad (by omega)]
        exact wp_mono nx fun t c' k => ⟨k.1, f1.tr k.2.1, k.2.2⟩
      · rw [if_neg z, if_neg z] at nx
        rw [br_p ((wz_m h8).mpr z)]
        exact wp_mono nx fun t c' k => ⟨k.1, f1.tr k.2.1, k.2.2⟩
theorem findWinners_t {V : Nat → Nat → Nat} {n : Nat} {c : Hp} (O : Of V n c) : Wp (fX0_findWinners c) (fun r c' => r = nZ (kK V n 12) ∧ Fr [18, 20] c c' ∧ Tb V n c' ∧ ∀ j, j < 12 → gI c' 20 0 j = wz n (kW V n j)) := by
  unfold fX0_findWinners
  refine wp_call (fillBest_t O) fun _ c1 k1 => ?_
  refine wp_call (show Wp (fX0_findWinners_L10 FU (nZ (kS V n 0)) (nZ (kK V n 0)) (nZ 0) c1) _ from fw_L FU 0 c1 (Of_sm (k1.1.sm rfl) O) k1.2 (by omega) (by show _ < 100000; omega) fun j hj => by omega) fun t c2 k2 => ?_
  simp only [lb_e]
  rw [wp_some]
  exact ⟨k2.1, (k1.1.wk rfl).tr (k2.2.1.wk rfl), Tb_sm (k2.2.1.sm rfl) k1.2, k2.2.2⟩
