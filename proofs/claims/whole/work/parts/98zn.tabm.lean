/-! ===== level 2: knock: the reference's tables and winners ===== -/
def nJ (a : Nat) : Int64 := (nZ a).toInt64
theorem nJ_t {a : Nat} (h : a < 2147483648) : (nJ a).toInt = (a : Int) := by unfold nJ; rw [to64, nZ_t h]
theorem nJ_add {a b : Nat} (h : a + b < 2147483648) : nJ a + nJ b = nJ (a + b) := by
  rw [i64_eq, add64 (by rw [nJ_t (by omega), nJ_t (by omega)]; omega) (by rw [nJ_t (by omega), nJ_t (by omega)]; omega), nJ_t (by omega), nJ_t (by omega), nJ_t (by omega)]
  omega
theorem nJ_le0 {a : Nat} (h : a < 2147483648) : (nJ a ≤ (0 : Int64)) ↔ a = 0 := by
  rw [i64_le, nJ_t h, z0J]
  omega
theorem nJ_eq {a b : Nat} (ha : a < 2147483648) (hb : b < 2147483648) : (nJ a = nJ b) ↔ a = b := by
  rw [i64_eq, nJ_t ha, nJ_t hb]
  omega
theorem mxJ_nn {a b : Nat} (ha : a < 2147483648) (hb : b < 2147483648) : mxJ (nJ a) (nJ b) = nJ (max a b) := by
  unfold mxJ
  by_cases z : nJ b < nJ a
  · rw [if_pos z]
    rw [i64_lt, nJ_t ha, nJ_t hb] at z
    rw [Nat.max_eq_left (by omega)]
  · rw [if_neg z]
    rw [i64_lt, nJ_t ha, nJ_t hb] at z
    rw [Nat.max_eq_right (by omega)]
/-- the reference's lots, households and offers -/
def Om (V : Nat → Nat → Nat) (n H : Nat) (m : Hp) : Prop := gI m 12 0 10 = nZ n ∧ n ≤ 8 ∧ gI m 12 0 8 = nZ H ∧ H ≤ 12 ∧ (∀ i l, V i l ≤ 10000) ∧ (∀ i l, H ≤ i → V i l = 0) ∧ ∀ l i, l < n → i < 12 → (if gI m 68 0 i = 0 then gI m 87 0 (12 * l + i) else 0) = nZ (V i l)
theorem Om_sm {V : Nat → Nat → Nat} {n H : Nat} {m m' : Hp} (e : Sm [13010, 13008, 68, 87] m m') (R : Om V n H m) : Om V n H m' := by
  unfold Om at R ⊢
  simp (disch := decide) only [e.A, e.I]
  exact R
theorem offered_t {V : Nat → Nat → Nat} {n H : Nat} {m : Hp} (O : Om V n H m) {l i : Nat} (hl : l < n) (hi : i < 12) : fX12_offered (nZ l) (nZ i) m = some (nJ (V i l), m) := by
  obtain ⟨o1, o2, o3, o4, o5, o6, o7⟩ := O
  have := o7 l i hl hi
  unfold fX12_offered
  simp (disch := omega) only [nZ_x12, nZ_add, nZ_ib, nZ_ix]
  rw [gd_p hi]
  by_cases z : gI m 68 0 i = 0
  · rw [if_pos z] at this
    rw [br_p z, gd_p (by omega), this]
    rfl
  · rw [if_neg z] at this
    rw [br_n z]
    unfold nJ
    rw [← this]
    rfl
theorem sb2_L {H : Nat} (hH : H ≤ 12) (a1 : Int32) : ∀ (f s : Nat) (m : Hp), gI m 12 0 8 = nZ H → s ≤ 256 → 256 - s < f → Wp (fX12_sumsBut_L2 f a1 (nZ s) m) (fun _ m' => Fr [95] m m' ∧ ∀ x, gJ m' 95 0 x = if 256 * H + s ≤ x ∧ x < 256 * H + 256 then 0 else gJ m 95 0 x) := by
  intro f
  induction f with
  | zero => intro s m _ _ q; omega
  | succ f ih =>
    intro s m e hs hf
    rw [fX12_sumsBut_L2, e]
    have l256 : ((256 : Int32) ≤ nZ s) ↔ 256 ≤ s := nZ_le (a := 256) (by omega) (by omega)
    simp (disch := omega) only [l256, nZ_suc, nZ_x256, nZ_add, nZ_ib, nZ_ix, lb_e]
    by_cases q : s = 256
    · rw [br_p (by omega), wp_some]
      refine ⟨Fr.rf _ _, fun x => ?_⟩
      rw [if_neg (by omega)]
    · rw [br_n (by omega), gd_p (by omega)]
      have f1 : Fr [95] m (sJ m 95 0 (256 * H + s) 0) := Fr_J _ _ _ _ _ rfl
      refine wp_mono (ih (s + 1) _ (by rw [f1.I 12 0 8 rfl]; exact e) (by omega) (by omega)) fun _ m' k => ⟨f1.tr k.1, fun x => ?_⟩
      rw [k.2 x, gJ_a]
      by_cases z : x = 256 * H + s
      · rw [if_neg (by omega), if_pos z, if_pos (by omega)]
      · by_cases z2 : 256 * H + (s + 1) ≤ x ∧ x < 256 * H + 256
        · rw [if_pos z2, if_pos (by omega)]
        · rw [if_neg z2, if_neg z, if_neg (by omega)]
theorem sb73_L {V : Nat → Nat → Nat} {n H : Nat} {m : Hp} (O : Om V n H m) {a1 : Int32} {i S : Nat} {d : Nat → Nat} (hi : i < 12) (hne : ¬ nZ i = a1) (hS : S < 2 ^ n) (hd : ∀ S, d S ≤ 120000) (T : ∀ S, S < 2 ^ n → gJ m 95 0 (256 * (i + 1) + S) = nJ (d S)) {x : Nat} (hx : x ≤ 130000) : ∀ f l, l ≤ n → n - l < f → ∃ v, fX12_sumsBut_L73 f a1 (nZ i) (nZ S) (nJ (max x (mxf (gD (V i) d S) l))) (nZ l) m = some ((nJ (max x (mxf (gD (V i) d S) n)), v), m) := by
  have O' := O
  obtain ⟨o1, o2, o3, o4, o5, o6, o7⟩ := O'
  have h2 := p2b o2
  intro f
  induction f with
  | zero => intro l _ q; omega
  | succ f ih =>
    intro l hl hf
    rw [fX12_sumsBut_L73, o1]
    by_cases q : l = n
    · rw [br_p (by rw [nZ_le (by omega) (by omega)]; omega), q]
      exact ⟨_, rfl⟩
    · have h3 := sad_lt hS (by omega : l < n)
      have b1 : mxf (gD (V i) d S) l ≤ 120000 + 10000 := mxf_le fun l _ => gD_b (o5 i) hd S l
      have b4 := hd (sad S l)
      have b5 := o5 i l
      rw [nZ_sad (by omega : l < 32)]
      simp (disch := omega) only [nZ_le, nZ_suc, nZ_x256, nZ_add, nZ_ib, nZ_ix, lb_e]
      rw [br_n (by omega), br_n hne]
      have sk : gD (V i) d S l = 0 → max x (mxf (gD (V i) d S) l) = max x (mxf (gD (V i) d S) (l + 1)) := fun y => by
        rw [mxf, y, Nat.max_eq_left (Nat.zero_le (mxf (gD (V i) d S) l))]
      by_cases w : S.testBit l = false
      · rw [br_p ((tbS (by omega)).mpr w), bd_s (offered_t O (by omega) hi)]
        by_cases z : 0 < V i l
        · rw [br_n (by rw [nJ_le0 (by omega)]; omega), bd_s (offered_t O (by omega) hi), gd_p (by omega), T _ h3, nJ_add (by omega), mxJ_nn (by omega) (by omega)]
          have e : max (max x (mxf (gD (V i) d S) l)) (V i l + d (sad S l)) = max x (mxf (gD (V i) d S) (l + 1)) := by
            rw [mxf, show gD (V i) d S l = V i l + d (sad S l) from if_pos ⟨w, z⟩, Nat.max_assoc]
          rw [e]
          exact ih (l + 1) (by omega) (by omega)
        · rw [br_p (by rw [nJ_le0 (by omega)]; omega), sk (if_neg fun y => z y.2)]
          exact ih (l + 1) (by omega) (by omega)
      · rw [br_n fun y => w ((tbS (by omega)).mp y), sk (if_neg fun y => w y.1)]
        exact ih (l + 1) (by omega) (by omega)
theorem sb73_t {V : Nat → Nat → Nat} {n H : Nat} {m : Hp} (O : Om V n H m) {a1 : Int32} {ex : Nat} (hx : ∀ i, i < 12 → (nZ i = a1 ↔ i = ex)) {i S : Nat} {d : Nat → Nat} (hi : i < 12) (hS : S < 2 ^ n) (hd : ∀ S, d S ≤ 120000) (T : ∀ S, S < 2 ^ n → gJ m 95 0 (256 * (i + 1) + S) = nJ (d S)) : ∃ v, fX12_sumsBut_L73 FU a1 (nZ i) (nZ S) (nJ (d S)) 0 m = some ((nJ (Dn (but V ex i) n d S), v), m) := by
  have h8 := O.2.1
  by_cases z : i = ex
  · rw [show FU = 99999 + 1 from rfl, fX12_sumsBut_L73, Dn_z (v := but V ex i) fun l => if_pos z]
    by_cases w : gI m 12 0 10 ≤ 0
    · rw [br_p w]
      exact ⟨_, rfl⟩
    · rw [br_n w, br_p ((hx i hi).mpr z)]
      exact ⟨_, rfl⟩
  · have b3 := hd S
    obtain ⟨v, e⟩ := sb73_L O hi (fun w => z ((hx i hi).mp w)) hS hd T (x := d S) (by omega) FU 0 (by omega) (by show _ < 100000; omega)
    rw [show max (d S) (mxf (gD (V i) d S) 0) = d S from Nat.max_eq_left (Nat.zero_le _)] at e
    refine ⟨v, ?_⟩
    rw [show but V ex i = V i from funext fun l => if_neg z, Dn_e]
    exact e
theorem sb44_L {V : Nat → Nat → Nat} {n H : Nat} {a1 : Int32} {ex : Nat} (hx : ∀ i, i < 12 → (nZ i = a1 ↔ i = ex)) {i : Nat} {d : Nat → Nat} (hi : i < 12) (hd : ∀ S, d S ≤ 120000) : ∀ (f s : Nat) (m : Hp), Om V n H m → (∀ S, S < 2 ^ n → gJ m 95 0 (256 * (i + 1) + S) = nJ (d S)) → s ≤ 2 ^ n → 2 ^ n - s < f → Wp (fX12_sumsBut_L44 f a1 (nZ i) (nZ s) m) (fun _ m' => Fr [95] m m' ∧ ∀ x, gJ m' 95 0 x = if 256 * i + s ≤ x ∧ x < 256 * i + 2 ^ n then nJ (Dn (but V ex i) n d (x - 256 * i)) else gJ m 95 0 x) := by
  intro f
  induction f with
  | zero => intro s m _ _ _ q; omega
  | succ f ih =>
    intro s m O T hs hf
    have O' := O
    obtain ⟨o1, o2, -⟩ := O'
    have h2 := p2b o2
    rw [fX12_sumsBut_L44, o1, p2Z n o2]
    simp (disch := omega) only [nZ_suc, nZ_le, nZ_x256, nZ_add, nZ_ib, nZ_ix, lb_e]
    by_cases q : s = 2 ^ n
    · rw [br_p (by omega), wp_some]
      refine ⟨Fr.rf _ _, fun x => ?_⟩
      rw [if_neg (by omega)]
    · obtain ⟨v, e⟩ := sb73_t O hx hi (by omega : s < 2 ^ n) hd T
      rw [br_n (by omega), gd_p (by omega), T s (by omega), bd_s e, gd_p (by omega)]
      have f1 : Fr [95] m (sJ m 95 0 (256 * i + s) (nJ (Dn (but V ex i) n d s))) := Fr_J _ _ _ _ _ rfl
      refine wp_mono (ih (s + 1) _ (Om_sm (f1.sm rfl) O) (fun S hS => ?_) (by omega) (by omega)) fun _ m' k => ⟨f1.tr k.1, fun x => ?_⟩
      · rw [gJ_a, if_neg (by omega)]
        exact T S hS
      · rw [k.2 x, gJ_a]
        by_cases z : x = 256 * i + s
        · rw [if_neg (by omega), if_pos z, if_pos (by omega), z, Nat.add_sub_cancel_left]
        · by_cases z2 : 256 * i + (s + 1) ≤ x ∧ x < 256 * i + 2 ^ n
          · rw [if_pos z2, if_pos (by omega)]
          · rw [if_neg z2, if_neg z, if_neg (by omega)]
/-- the reference's table of those behind -/
def Tm (V : Nat → Nat → Nat) (n H : Nat) (m : Hp) : Prop := ∀ j S, j ≤ H → S < 2 ^ n → gJ m 95 0 (256 * j + S) = nJ (Db V n (12 - j) S)
theorem Tm_sm {V : Nat → Nat → Nat} {n H : Nat} {m m' : Hp} (e : Sm [95] m m') (R : Tm V n H m) : Tm V n H m' := fun j S h1 h2 => by
  rw [e.AJ 95 0 _ (by decide)]
  exact R j S h1 h2
theorem but_b {V : Nat → Nat → Nat} (hV : ∀ i l, V i l ≤ 10000) (ex : Nat) : ∀ i l, but V ex i l ≤ 10000 := fun i l => by
  unfold but
  have := hV i l
  split <;> omega
theorem sb38_L {V : Nat → Nat → Nat} {n H : Nat} {a1 : Int32} {ex : Nat} (hx : ∀ i, i < 12 → (nZ i = a1 ↔ i = ex)) : ∀ (f k : Nat) (m : Hp), Om V n H m → k ≤ H → k < f → (∀ j S, k ≤ j → j ≤ H → S < 2 ^ n → gJ m 95 0 (256 * j + S) = nJ (Db (but V ex) n (12 - j) S)) → Wp (fX12_sumsBut_L38 f a1 (dz k) m) (fun _ m' => Fr [95] m m' ∧ Tm (but V ex) n H m') := by
  intro f
  induction f with
  | zero => intro k m _ _ q; omega
  | succ f ih =>
    intro k m O hk hf T
    have O' := O
    obtain ⟨o1, o2, o3, o4, o5, o6, o7⟩ := O'
    have h2 := p2b o2
    rw [fX12_sumsBut_L38]
    cases k with
    | zero =>
      rw [br_p (by decide), wp_some]
      exact ⟨Fr.rf _ _, fun j S h1 h2 => T j S (by omega) h1 h2⟩
    | succ k =>
      show Wp (br (nZ k < 0) _ (bd (fX12_sumsBut_L44 FU a1 (nZ k) 0 m) fun v28 h26 => lb (nZ k + (-1)) fun v29 => fX12_sumsBut_L38 f a1 v29 h26)) _
      rw [br_n (by rw [nZ_neg (by omega)]; exact id), dz_d (by omega)]
      refine wp_call (sb44_L (d := Db (but V ex) n (11 - k)) hx (by omega) (Db_b12 (but_b o5 ex) n (by omega)) FU 0 m O (fun S hS => ?_) (Nat.zero_le _) (by show _ < 100000; omega)) fun _ c1 k1 => ?_
      · rw [T (k + 1) S (by omega) (by omega) hS, show 12 - (k + 1) = 11 - k by omega]
      · rw [lb_e]
        refine wp_mono (ih k c1 (Om_sm (k1.1.sm rfl) O) (by omega) (by omega) fun j S h3 h4 h5 => ?_) fun _ c' w => ⟨k1.1.tr w.1, w.2⟩
        rw [k1.2]
        by_cases z : j = k
        · subst z
          rw [if_pos (by omega), Nat.add_sub_cancel_left, Db_r (but V ex) n (by omega)]
        · rw [if_neg (by omega)]
          exact T j S (by omega) h4 h5
theorem Db_z {V : Nat → Nat → Nat} {n : Nat} : ∀ j, j ≤ 12 → (∀ i l, 12 - j ≤ i → V i l = 0) → ∀ S, Db V n j S = 0 := by
  intro j
  induction j with
  | zero => intro _ _ S; rfl
  | succ j ih =>
    intro hj z S
    show Dn (V (11 - j)) n (Db V n j) S = 0
    rw [Dn_z fun l => z (11 - j) l (by omega)]
    exact ih (by omega) (fun i l h => z i l (by omega)) S
theorem dz_p {k : Nat} (hk : k < 1000) : nZ k - 1 = dz k := by
  cases k with
  | zero => decide
  | succ k => exact nZ_pre (by omega) (by omega)
theorem sumsBut_t {V : Nat → Nat → Nat} {n H : Nat} {a1 : Int32} {ex : Nat} {m : Hp} (O : Om V n H m) (hx : ∀ i, i < 12 → (nZ i = a1 ↔ i = ex)) : Wp (fX12_sumsBut a1 m) (fun r m' => r = nJ (Db (but V ex) n 12 0) ∧ Fr [95] m m' ∧ Tm (but V ex) n H m') := by
  have O' := O
  obtain ⟨o1, o2, o3, o4, o5, o6, o7⟩ := O'
  have h2 := p2b o2
  have hp : 0 < 2 ^ n := Nat.pos_of_ne_zero (by simp)
  unfold fX12_sumsBut
  refine wp_call (show Wp (fX12_sumsBut_L2 FU a1 (nZ 0) m) _ from sb2_L o4 a1 FU 0 m o3 (by omega) (by show _ < 100000; omega)) fun _ m1' k1 => ?_
  have eH : gI m1' 12 0 8 = nZ H := by rw [k1.1.I 12 0 8 rfl]; exact o3
  have e : gI m1' 12 0 8 - 1 = dz H := by
    rw [eH]
    exact dz_p (by omega)
  rw [lb_e, e]
  refine wp_call (sb38_L hx FU H m1' (Om_sm (k1.1.sm rfl) O) (Nat.le_refl _) (by show _ < 100000; omega) fun j S h3 h4 h5 => ?_) fun _ m2 k2 => ?_
  · obtain rfl : j = H := by omega
    rw [k1.2, if_pos (by omega), Db_z _ (by omega) fun i l hi => ?_]
    · rfl
    · unfold but
      rw [o6 i l (by omega)]
      split <;> rfl
  · rw [wp_some]
    refine ⟨?_, k1.1.tr k2.1, k2.2⟩
    exact k2.2 0 0 (by omega) hp
/-- the sum of all -/
theorem but_12 (V : Nat → Nat → Nat) (n : Nat) {j : Nat} (hj : j ≤ 12) : Db (but V 12) n j = Db V n j := Db_ext j hj fun i _ h2 => funext fun l => if_neg (by omega)
theorem sumsAll_t {V : Nat → Nat → Nat} {n H : Nat} {m : Hp} (O : Om V n H m) : Wp (fX12_sumsBut (-1) m) (fun r m' => r = nJ (Db V n 12 0) ∧ Fr [95] m m' ∧ Tm V n H m') := by
  have h12 := O.2.2.2.1
  refine wp_mono (sumsBut_t (ex := 12) O fun i hi => iff_of_false (fun w => (nZ_m1 (by omega)).mp w) (by omega)) fun r m' k => ⟨?_, k.2.1, fun j S h1 h2 => ?_⟩
  · rw [k.1, but_12 V n (by omega)]
  · rw [k.2.2 j S h1 h2, but_12 V n (by omega)]
theorem kn50_f {a1 : Int64} {a3 a4 a6 : Int32} {i : Nat} {m : Hp} (hi : i < 12) (e : ¬ gI m 97 0 i = -1) (f : Nat) : Wp (fX12_knock_L50 (f + 1) a1 a3 a4 (nZ i) a6 m) (fun _ m' => m' = m) := by
  rw [fX12_knock_L50]
  by_cases w : gI m 12 0 10 ≤ a6
  · rw [br_p w, wp_some]
  · rw [br_n w, nZ_ix (by omega), gd_p (by rw [nZ_ib (by omega)]; omega), br_n e, wp_some]
theorem kn50_L {V : Nat → Nat → Nat} {n H i S : Nat} {a1 : Int64} {a4 : Int32} (hi : i < H) (hS : S < 2 ^ n) : ∀ (f l : Nat) (m : Hp), Om V n H m → Tm V n H m → l ≤ n → n - l < f → gI m 97 0 i = -1 → Wp (fX12_knock_L50 f a1 (nZ S) a4 (nZ i) (nZ l) m) (fun _ m' => Fr [97] m m' ∧ ∀ j, gI m' 97 0 j = if j = i then wz n (fN (pW V n i S) n (n - l)) else gI m 97 0 j) := by
  intro f
  induction f with
  | zero => intro l m _ _ _ q; omega
  | succ f ih =>
    intro l m O T hl hf e
    have O' := O
    obtain ⟨o1, o2, o3, o4, o5, o6, o7⟩ := O'
    have h2 := p2b o2
    rw [fX12_knock_L50, o1]
    by_cases q : l = n
    · rw [br_p (by rw [nZ_le (by omega) (by omega)]; omega), wp_some]
      refine ⟨Fr.rf _ _, fun j => ?_⟩
      by_cases z : j = i
      · rw [if_pos z, z, e, q, fN_0]
        unfold wz
        rw [if_neg (Nat.lt_irrefl _)]
        rfl
      · rw [if_neg z]
    · have h3 := sad_lt hS (by omega : l < n)
      have b1 := Db_b12 o5 n (by omega : 11 - i ≤ 12) (sad S l)
      have b3 := Db_b12 o5 n (by omega : 12 - i ≤ 12) S
      have b4 := o5 i l
      have T1 : gJ m 95 0 (256 * (i + 1) + sad S l) = nJ (Db V n (11 - i) (sad S l)) := by
        rw [T (i + 1) _ (by omega) h3, show 12 - (i + 1) = 11 - i by omega]
      rw [nZ_sad (by omega : l < 32)]
      simp (disch := omega) only [nZ_le, nZ_suc, nZ_x256, nZ_add, nZ_ib, nZ_ix, lb_e]
      have h12 : i < 12 := by omega
      simp only [gd_p h12]
      rw [br_n (by omega), br_p e, fN_s (by omega : l < n)]
      have go : ¬ pW V n i S l = true → Wp (fX12_knock_L50 f a1 (nZ S) a4 (nZ i) (nZ (l + 1)) m) (fun _ m' => Fr [97] m m' ∧ ∀ j, gI m' 97 0 j = if j = i then wz n (if pW V n i S l = true then l else fN (pW V n i S) n (n - (l + 1))) else gI m 97 0 j) := fun y => by
        rw [if_neg y]
        exact ih (l + 1) m O T (by omega) (by omega) e
      by_cases w : S.testBit l = false
      · rw [br_p ((tbS (by omega)).mpr w), bd_s (offered_t O (by omega) h12)]
        by_cases z : 0 < V i l
        · rw [br_n (by rw [nJ_le0 (by omega)]; omega), bd_s (offered_t O (by omega) h12), gd_p (by omega), gd_p (by omega), T1, T i S (by omega) hS, nJ_add (by omega)]
          by_cases y : V i l + Db V n (11 - i) (sad S l) = Db V n (12 - i) S
          · have pw : pW V n i S l = true := decide_eq_true_iff.mpr ⟨⟨w, z⟩, y⟩
            rw [br_p ((nJ_eq (by omega) (by omega)).mpr y), if_pos pw]
            have f1 : Fr [97] m (sI m 97 0 i (nZ l)) := Fr_I _ _ _ _ _ rfl
            obtain ⟨f', rfl⟩ : ∃ f', f = f' + 1 := ⟨f - 1, by omega⟩
            refine wp_mono (kn50_f h12 (by rw [gI_q]; exact fun w => (nZ_m1 (by omega)).mp w) f') fun _ m' k => ?_
            rw [k]
            refine ⟨f1, fun j => ?_⟩
            rw [gI_a]
            by_cases x : j = i
            · rw [if_pos x, if_pos x]
              exact (if_pos (by omega)).symm
            · rw [if_neg x, if_neg x]
          · rw [br_n fun x => y ((nJ_eq (by omega) (by omega)).mp x)]
            exact go fun x => y (decide_eq_true_iff.mp x).2
        · rw [br_p (by rw [nJ_le0 (by omega)]; omega)]
          exact go fun x => z (decide_eq_true_iff.mp x).1.2
      · rw [br_n fun y => w ((tbS (by omega)).mp y)]
        exact go fun x => w (decide_eq_true_iff.mp x).1.1
theorem kn30_L {V : Nat → Nat → Nat} {n H : Nat} {a1 : Int64} : ∀ (f i : Nat) (m : Hp), Om V n H m → Tm V n H m → i ≤ H → H - i < f → (∀ j, j < i → gI m 97 0 j = wz n (kW V n j)) → Wp (fX12_knock_L30 f a1 (nZ (kS V n i)) (nZ (kK V n i)) (nZ i) m) (fun t m' => t.2.1 = nZ (kK V n H) ∧ Fr [97] m m' ∧ ∀ j, j < H → gI m' 97 0 j = wz n (kW V n j)) := by
  intro f
  induction f with
  | zero => intro i m _ _ _ q; omega
  | succ f ih =>
    intro i m O T hi hf K
    have O' := O
    obtain ⟨o1, o2, o3, o4, -⟩ := O'
    rw [fX12_knock_L30, o3]
    simp (disch := omega) only [nZ_le, nZ_suc, nZ_ib, nZ_ix, lb_e]
    by_cases q : i = H
    · subst q
      rw [br_p (by omega), wp_some]
      exact ⟨rfl, Fr.rf _ _, K⟩
    · have h12 : i < 12 := by omega
      rw [br_n (by omega)]
      simp only [gd_p h12]
      have f1 : Fr [97] m (sI m 97 0 i (-1)) := Fr_I _ _ _ _ _ rfl
      refine wp_call (show Wp (fX12_knock_L50 FU a1 (nZ (kS V n i)) (nZ (kK V n i)) (nZ i) (nZ 0) _) _ from kn50_L (by omega) (kS_lt V n i) FU 0 _ (Om_sm (f1.sm rfl) O) (Tm_sm (f1.sm rfl) T) (by omega) (by show _ < 100000; omega) (by rw [gI_q])) fun _ m2 k2 => ?_
      have f2 : Fr [97] m m2 := f1.tr k2.1
      have ei : gI m2 97 0 i = wz n (kW V n i) := by
        rw [k2.2 i, if_pos rfl]
        rfl
      have K1 : ∀ j, j < i + 1 → gI m2 97 0 j = wz n (kW V n j) := fun j hj => by
        by_cases z : j = i
        · rw [z]
          exact ei
        · rw [k2.2 j, if_neg z, gI_a, if_neg z]
          exact K j (by omega)
      have nx := ih (i + 1) m2 (Om_sm (f2.sm rfl) O) (Tm_sm (f2.sm rfl) T) (by omega) (by omega) K1
      rw [kS_s, kK_s] at nx
      rw [ei]
      by_cases z : kW V n i < n
      · rw [if_pos z, if_pos z] at nx
        have ew : wz n (kW V n i) = nZ (kW V n i) := if_pos z
        rw [br_n fun w => (wz_m o2).mp w z, ew, nZ_sad (by omega)]
        exact wp_mono nx fun t c' k => ⟨k.1, f2.tr k.2.1, k.2.2⟩
      · rw [if_neg z, if_neg z] at nx
        rw [br_p ((wz_m o2).mpr z)]
        exact wp_mono nx fun t c' k => ⟨k.1, f2.tr k.2.1, k.2.2⟩
/-- those that are not there win nothing -/
theorem fN_f {p : Nat → Bool} {n : Nat} (h : ∀ l, p l = false) : ∀ k, fN p n k = n := by
  intro k
  induction k with
  | zero => rfl
  | succ k ih =>
    rw [fN, h, if_neg (by decide)]
    exact ih
theorem kW_z {V : Nat → Nat → Nat} {n i : Nat} (h : ∀ l, V i l = 0) : kW V n i = n := fN_f (fun l => decide_eq_false_iff_not.mpr fun w => by have := w.1.2; rw [h l] at this; omega) n
theorem kK_z {V : Nat → Nat → Nat} {n H : Nat} (h : ∀ i l, H ≤ i → V i l = 0) : ∀ k, kK V n (H + k) = kK V n H := by
  intro k
  induction k with
  | zero => rfl
  | succ k ih =>
    rw [show H + (k + 1) = (H + k) + 1 by omega, kK_s, kW_z fun l => h (H + k) l (by omega), if_neg (Nat.lt_irrefl _)]
    exact ih
