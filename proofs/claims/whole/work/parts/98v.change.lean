/-! ===== level 2: change() ===== -/
theorem and_1t (x : Int32) : (x &&& 1 = 1) ↔ bt x 0 = true := by
  constructor
  · intro h
    have := b_and x 1 0
    rw [h, b_1 0 (by omega)] at this
    simpa using this.symm
  · intro h
    refine b_ext fun i hi => ?_
    rw [b_and, b_1 i hi]
    by_cases z : i = 0
    · rw [z, h]
      rfl
    · simp [z]
theorem tb0t {x : Int32} {i : Nat} (hi : i < 32) : (((x >>> (nZ i &&& 31)) &&& 1) = 1) ↔ bt x i = true := by
  rw [and_1t, b_sshr i hi x (by omega : 0 < 32), Nat.add_zero, if_pos hi]
theorem shU : ∀ H, H ≤ 12 → (((nZ H).toUInt32 &&& Int32.toUInt32 31).toNat % 32 = H) := by decide +kernel
theorem shJ : ∀ H, H ≤ 12 → (((1 : Int64) <<< ((nZ H).toInt64 &&& 63)) - 1).toInt = (2 : Int) ^ H - 1 := by decide +kernel
theorem setU (a : Int32) {H : Nat} (hH : H ≤ 12) : ((a.toUInt32 >>> ((nZ H).toUInt32 &&& Int32.toUInt32 31)).toInt32 = 0) ↔ (0 ≤ a.toInt ∧ a.toInt ≤ (2 : Int) ^ H - 1) := by
  have p1 : (2 : Nat) ^ H ≤ 2 ^ 12 := Nat.pow_le_pow_right (by omega) hH
  have p2 : 0 < (2 : Nat) ^ H := Nat.pos_of_ne_zero (by simp)
  have p3 : ((2 ^ H : Nat) : Int) = (2 : Int) ^ H := by simp
  have e1 : ((a.toUInt32 >>> ((nZ H).toUInt32 &&& Int32.toUInt32 31)).toInt32 = 0) ↔ (a.toUInt32 >>> ((nZ H).toUInt32 &&& Int32.toUInt32 31)) = 0 := by
    constructor
    · intro h
      have := congrArg Int32.toUInt32 h
      exact Eq.trans (b := Int32.toUInt32 0) (by simpa using this) rfl
    · intro h
      rw [h]
      rfl
  have e2 : (a.toUInt32 >>> ((nZ H).toUInt32 &&& Int32.toUInt32 31)).toNat = a.toUInt32.toNat / 2 ^ H := by
    rw [UInt32.toNat_shiftRight, shU H hH, Nat.shiftRight_eq_div_pow]
  have e3 : a.toInt = if a.toUInt32.toNat < 2147483648 then (a.toUInt32.toNat : Int) else (a.toUInt32.toNat : Int) - 4294967296 := by
    show a.toBitVec.toInt = if a.toBitVec.toNat < 2147483648 then (a.toBitVec.toNat : Int) else (a.toBitVec.toNat : Int) - 4294967296
    rw [BitVec.toInt_eq_toNat_cond]
    split <;> split <;> omega
  have e4 := a.toUInt32.toNat_lt
  rw [e1, ← UInt32.toNat_inj, e2]
  show a.toUInt32.toNat / 2 ^ H = 0 ↔ _
  rw [Nat.div_eq_zero_iff, e3, ← p3]
  have p4 : (2 : Nat) ^ 12 = 4096 := rfl
  generalize (2 : Nat) ^ H = q at *
  split <;> omega
/-- who is left at the start -/
def lfB (h : Hp) (a : Int32) (y i : Nat) : Bool := bt a i && (decide (i < nH h ∧ gI h 68 0 i = 0) && decide (¬ gI h 88 0 (200 * i + (y - 1)) = -1))
theorem t13_L {h : Hp} (P : RP h) {a : Int32} {s : Nat} (hs : SeatOk h s) (hst : ∀ i, i < 12 → ((gI h 41 s i = -1) ↔ (gI h 88 0 (200 * i + (s - 1)) = -1))) {c : Hp} (fc : Fr [37] h c) : ∀ n k L, k ≤ 12 → 12 - k < n → (∀ i, i < 32 → bt L i = (lfB h a s i && decide (i < k))) → ∃ x L', fX6_turn_L13 n a s L (nZ k) c = some ((L', x), c) ∧ ∀ i, i < 32 → bt L' i = (lfB h a s i && decide (i < 12)) := by
  intro n
  induction n with
  | zero => intro k v _ q; omega
  | succ n ih =>
    intro k L hk hn K
    have hH := P.2.2.1
    have Pc : RP c := RP_sm (fc.sm rfl) P
    have nHc : nH c = nH h := by unfold nH; rw [fc.I 12 0 8 rfl]
    have sc : SeatOk c s := ⟨by rw [fc.R 8 _ 0 rfl]; exact hs.1, by rw [fc.R 8 _ 1 rfl]; exact hs.2.1, by rw [fc.R 8 _ 2 rfl]; exact hs.2.2.1, by rw [fc.R 8 _ 3 rfl]; exact hs.2.2.2⟩
    rw [fX6_turn_L13]
    simp (disch := omega) only [lb_e, nZ_12, nZ_le, nZ_suc]
    by_cases q : k = 12
    · subst q
      rw [br_p (by omega)]
      exact ⟨_, L, rfl, K⟩
    · rw [br_n (by omega)]
      have same : lfB h a s k = false → ∃ x L', fX6_turn_L13 n a s L (nZ (k + 1)) c = some ((L', x), c) ∧ ∀ i, i < 32 → bt L' i = (lfB h a s i && decide (i < 12)) := fun z => ih (k + 1) L (by omega) (by omega) fun i hi => by
        rw [K i hi]
        by_cases e : i = k
        · rw [e, z]; rfl
        · have : (i < k) ↔ (i < k + 1) := by omega
          simp [this]
      by_cases b : bt a k = false
      · rw [br_p ((tb0 (by omega)).mpr b)]
        exact same (by unfold lfB; rw [b]; rfl)
      · have b' : bt a k = true := by simpa using b
        rw [br_n fun z => b ((tb0 (by omega)).mp z)]
        by_cases t : isT c (nZ k)
        · have t1 := t.1.2
          have t2 := t.2
          rw [nZ_t (by omega), nHc] at t1
          rw [nZ_ix (by omega), fc.A 68 0 k rfl] at t2
          rw [bd_s (stay_t Pc t), br_n (by decide), bd_s (sit_t sc (by omega)), fc.A 41 s k rfl]
          by_cases y : gI h 41 s k = -1
          · rw [if_pos y, br_p rfl]
            exact same (by unfold lfB; simp [(hst k (by omega)).mp y])
          · rw [if_neg y, br_n (by decide)]
            refine ih (k + 1) _ (by omega) (by omega) fun i hi => ?_
            rw [tb1 (by omega) hi, K i hi]
            by_cases e : i = k
            · have : lfB h a s k = true := by
                unfold lfB
                rw [b', Bool.true_and, Bool.and_eq_true, decide_eq_true_iff, decide_eq_true_iff]
                exact ⟨⟨by omega, t2⟩, fun w => y ((hst k (by omega)).mpr w)⟩
              rw [e, this]
              simp
            · have : (i < k) ↔ (i < k + 1) := by omega
              simp [this, e]
        · rw [bd_s (stay_f Pc t), br_p rfl]
          refine same ?_
          unfold lfB
          rw [show decide (k < nH h ∧ gI h 68 0 k = 0) = false from decide_eq_false fun w => t ⟨by rw [nZ_t (by omega), nHc]; omega, by rw [nZ_ix (by omega), fc.A 68 0 k rfl]; exact w.2⟩]
          simp
theorem l43_L {h : Hp} (P : RP h) {a : Int32} {y : Nat} (hy : 1 ≤ y ∧ y ≤ 199) {g : Hp} (fg : Fr [13000, 36, 37, 93, 94] h g) (e5 : gI h 12 0 5 = nZ y) : ∀ n k m, k ≤ nH h → nH h - k < n → Fr [109, 110] g m → (∀ i, i < k → (gI m 110 0 i = 0 ↔ lfB h a y i = false) ∧ gI m 109 0 i = -1) → ∃ x m', fX12_change_L43 n a (nZ (cnt (lfB h a y) k)) (nZ k) m = some ((nZ (cnt (lfB h a y) (nH h)), x), m') ∧ Fr [109, 110] g m' ∧ ∀ i, i < nH h → (gI m' 110 0 i = 0 ↔ lfB h a y i = false) ∧ gI m' 109 0 i = -1 := by
  have hH := P.2.2.1
  have e8 := P.1
  intro n
  induction n with
  | zero => intro k m _ q; omega
  | succ n ih =>
    intro k m hk hn fm K
    have fhm : Fr [13000, 36, 37, 93, 94, 109, 110] h m := (fg.wk rfl).tr (fm.wk rfl)
    have f1 : Fr [109, 110] m (sI m 109 0 k (-1)) := Fr_I _ _ _ _ _ rfl
    have fh1 : Fr [13000, 36, 37, 93, 94, 109, 110] h (sI m 109 0 k (-1)) := fhm.tr (f1.wk rfl)
    rw [fX12_change_L43]
    simp (disch := omega) only [lb_e, fhm.I 12 0 8 rfl, e8, nZ_le, nZ_suc, nZ_ib, nZ_ix, fh1.I 12 0 5 rfl, e5, nZ_x200, nZ_add, nZ_pre]
    by_cases q : k = nH h
    · subst q
      rw [br_p (by omega)]
      exact ⟨_, m, rfl, fm, K⟩
    · rw [br_n (by omega), gd_p (by omega), gd_p (by omega), fh1.A 68 0 k rfl, fh1.A 88 0 _ rfl]
      have key : ∀ v : Int32, (v &&& 1 = 0 ↔ lfB h a y k = false) → ∃ x m', gd (k < 12) (gd (k < 12) (br (gI (sI (sI m 109 0 k (-1)) 110 0 k (v &&& 1)) 110 0 k = 0) (fX12_change_L43 n a (nZ (cnt (lfB h a y) k) + 0) (nZ (k + 1)) (sI (sI m 109 0 k (-1)) 110 0 k (v &&& 1))) (fX12_change_L43 n a (nZ (cnt (lfB h a y) k + 1)) (nZ (k + 1)) (sI (sI m 109 0 k (-1)) 110 0 k (v &&& 1))))) = some ((nZ (cnt (lfB h a y) (nH h)), x), m') ∧ Fr [109, 110] g m' ∧ ∀ i, i < nH h → (gI m' 110 0 i = 0 ↔ lfB h a y i = false) ∧ gI m' 109 0 i = -1 := fun v hv => by
        have f2 : Fr [109, 110] (sI m 109 0 k (-1)) (sI (sI m 109 0 k (-1)) 110 0 k (v &&& 1)) := Fr_I _ _ _ _ _ rfl
        have nx := ih (k + 1) (sI (sI m 109 0 k (-1)) 110 0 k (v &&& 1)) (by omega) (by omega) ((fm.tr f1).tr f2) fun i hi => by
          rw [gI_a, gI_o (by rfl), gI_o (by rfl), gI_a]
          by_cases e : i = k
          · rw [if_pos e, if_pos e, e]
            exact ⟨hv, rfl⟩
          · rw [if_neg e, if_neg e]
            exact K i (by omega)
        rw [gd_p (by omega), gd_p (by omega), gI_q]
        by_cases z : v &&& 1 = 0
        · rw [br_p z, show nZ (cnt (lfB h a y) k) + 0 = nZ (cnt (lfB h a y) (k + 1)) by
            rw [cnt_f (by rw [hv.mp z]; simp)]
            exact nZ_add _ 0]
          exact nx
        · rw [br_n z]
          rw [cnt_t (show lfB h a y k = true by
            cases w : lfB h a y k
            · exact absurd (hv.mpr w) z
            · rfl)] at nx
          exact nx
      by_cases b : bt a k = true
      · rw [br_p ((tb0t (by omega)).mpr b), gd_p (by omega)]
        by_cases t : gI h 68 0 k = 0
        · rw [br_p t, gd_p (by omega), show 200 * k + y - 1 = 200 * k + (y - 1) by omega]
          by_cases u : gI h 88 0 (200 * k + (y - 1)) = -1
          · rw [br_p u]
            have kk := key 0 (iff_of_true rfl (by unfold lfB; simp [u]))
            rw [gd_p (by omega)] at kk
            exact kk
          · rw [br_n u]
            exact key 1 (iff_of_false (by decide) (by unfold lfB; simp [u, b, t]; omega))
        · rw [br_n t]
          exact key 0 (iff_of_true rfl (by unfold lfB; simp [t]))
      · rw [br_n fun z => b ((tb0t (by omega)).mp z)]
        exact key 0 (iff_of_true rfl (by unfold lfB; simp [b]))
theorem l136_L (a2 : Int32) {H : Nat} : ∀ n k m, k ≤ 12 → 12 - k < n → ∃ x m', fX12_change_L136 n a2 (nZ k) m = some (x, m') ∧ Fr [109] m m' ∧ ∀ i, gI m' 109 0 i = if k ≤ i ∧ i < 12 then -1 else gI m 109 0 i := by
  intro n
  induction n with
  | zero => intro k m _ q; omega
  | succ n ih =>
    intro k m hk hn
    rw [fX12_change_L136]
    simp (disch := omega) only [lb_e, nZ_12, nZ_le, nZ_suc, nZ_ib, nZ_ix]
    by_cases q : k = 12
    · subst q
      rw [br_p (by omega)]
      exact ⟨_, m, rfl, Fr.rf _ _, fun i => by rw [if_neg (by omega)]⟩
    · rw [br_n (by omega), gd_p (by omega)]
      have f1 : Fr [109] m (sI m 109 0 k (-1)) := Fr_I _ _ _ _ _ rfl
      obtain ⟨x, m', e1, e2, e3⟩ := ih (k + 1) (sI m 109 0 k (-1)) (by omega) (by omega)
      refine ⟨x, m', e1, f1.tr e2, fun i => ?_⟩
      rw [e3 i, gI_a]
      by_cases z : i = k
      · rw [if_neg (by omega), if_pos z, if_pos (by omega)]
      · rw [if_neg z]
        have : (k + 1 ≤ i ∧ i < 12) ↔ (k ≤ i ∧ i < 12) := by omega
        simp only [this]
def wij (h : Hp) (y i j : Nat) : Int32 := if gI h 66 0 i ≤ gI h 90 0 (200 * j + (y - 1)) then wS h (ix (gI h 41 y j)) (ix (gI h 66 0 i)) (gI h 67 0 i) else -1
theorem RG_sm {h h' : Hp} (e : Sm [37, 13075, 109] h h') (G : RG h) : RG h' := fun i hi => by
  rw [e.A 37 0 i (by decide), e.I 12 0 75 (by decide), e.A 109 0 i (by decide)]
  exact G i hi
theorem s_change (a1 : Int32) (h : Hp) (R : RC h) (P : RP h) (Y : Ry h) (T : RHi (nH h) (yr h) (nB h) (un h) h h) (G : RG h) : Op [13000, 13075, 36, 37, 93, 94, 108, 109, 110, 111] (fX11_change a1) (fX12_change a1) h RG := by
  have hH := P.2.2.1
  obtain ⟨y1, y2, y3⟩ := Y.e
  have e8 := P.1
  have e4 := P.2.1
  have f0 : Fr [13000] h (sI h 12 0 0 0) := Fr_I _ _ _ _ _ rfl
  have hu : ∀ b, b < nB h → un h b ≤ 32 := fun b hb => (R.v.2.2.2 b hb).2.2.2
  have hB : nB h ≤ 8 := R.v.2.2.1
  have qi : (fX12_in a1.toInt64 0 (((1 : Int64) <<< ((gI (sI h 12 0 0 0) 12 0 8).toInt64 &&& 63)) - 1) (sI h 12 0 0 0) = 0) ↔ ¬ (0 ≤ a1.toInt ∧ a1.toInt ≤ (2 : Int) ^ (nH h) - 1) := by
    rw [in_0, f0.I 12 0 8 rfl, e8, shJ _ hH, to64, z0J]
  by_cases q : 0 ≤ a1.toInt ∧ a1.toInt ≤ (2 : Int) ^ (nH h) - 1
  · by_cases z : yr h = 0
    · refine Op_no (r := -9) rfl ?_ ?_ (RG_sm (f0.sm rfl) G)
      · unfold fX11_change fX11_latestSeating
        rw [e4, br_p ((setU a1 hH).mpr q), y2, bd_s (show bd (fX11_seatingOf (nZ (yr h) - 1) h) (fun r1 h2 => some (r1, h2)) = some (none, h) by rw [bd_s (seating_f (c := h) (y := yr h) y2 y3 (by rw [z]; decide))]), mt_n rfl]
      · unfold fX12_change
        rw [lb_e, br_n fun w => qi.mp w q, br_p (by rw [f0.I 12 0 5 rfl, y1, z]; rfl)]
    · obtain ⟨t1, t2, t3, t4, t5⟩ := T
      have so := t2 (yr h) (Nat.le_refl _)
      have sr' : ∀ i, i < 12 → sr (nB h) (un h) h h (yr h) (yr h - 1) i := fun i hi => by
        have := t4 (yr h - 1) i (by omega) hi
        rw [show yr h - 1 + 1 = yr h by omega] at this
        exact this
      -- the class
      obtain ⟨c0, ec0⟩ : ∃ x, x = flI h 37 0 0 12 (-1) := ⟨_, rfl⟩
      have fc0 : Fr [37] h c0 := by rw [ec0]; exact Fr_flI _ _ _ _ _ _ (by omega) rfl
      obtain ⟨x1, L0, d1, k1⟩ := t13_L (a := a1) P so (fun i hi => sr_sit hB hu (sr' i hi)) fc0 FU 0 0 (by omega) (by show _ < 100000; omega) fun i hi => by rw [b_0]; simp
      have L0H : ∀ j, nH h ≤ j → j < 32 → bt L0 j = false := fun j h1 h2 => by
        rw [k1 j h2]
        unfold lfB
        simp [show ¬ j < nH h by omega]
      have L0s : ∀ j, j < 12 → bt L0 j = true → j < nH h ∧ ¬ gI h 88 0 (200 * j + (yr h - 1)) = -1 := fun j hj b => by
        rw [k1 j (by omega)] at b
        unfold lfB at b
        simp only [Bool.and_eq_true, decide_eq_true_iff] at b
        exact ⟨b.1.2.1.1, b.1.2.2⟩
      have Pc0 : RP c0 := RP_sm (fc0.sm rfl) P
      -- worth
      have vals : ∀ i j, i < 12 → j < 12 → bt L0 i = true → bt L0 j = true → ∃ b v w wi d, gI h 41 (yr h) j = nZ (32 * b + v) ∧ gI h 88 0 (200 * j + (yr h - 1)) = nZ b ∧ gI h 89 0 (200 * j + (yr h - 1)) = nZ v ∧ gI h 42 (yr h) j = nZ w ∧ gI h 90 0 (200 * j + (yr h - 1)) = nZ w ∧ b < nB h ∧ w ≤ 12 ∧ v + w ≤ un h b ∧ gI h 66 0 i = nZ wi ∧ 1 ≤ wi ∧ wi ≤ 12 ∧ gI h 67 0 i = d ∧ gI h 2 i 1 = nZ wi ∧ gI h 2 i 2 = d := fun i j hi hj bi bj => by
        have p5 := P.2.2.2.2.1 i (L0s i hi bi).1
        rcases sr' j hj with w | ⟨b, v, w, s1, s2, s3, s4, s5, s6, s7, s8, s9, s10, s11, s12⟩
        · exact absurd w.2 (L0s j hj bj).2
        · have p7 := p5.2.2.2.2.2.2.1
          have en := nZ_of (a := gI h 66 0 i) (by omega)
          refine ⟨b, v, w, ix (gI h 66 0 i), gI h 67 0 i, s1, s2, s3, s4, s5, s9, s11, s12, en, ?_, ?_, rfl, p5.2.2.1.trans en, p5.2.2.2.1⟩
          · unfold ix; omega
          · unfold ix; omega
      have hwc : ∀ c, Fr [36, 37] c0 c → ∀ i j, i < 12 → j < 12 → bt L0 i = true → bt L0 j = true → fX6_worthOfRun i (nZ j) (yr h) c = some (wij h (yr h) i j, c) := fun c fc i j hi hj bi bj => by
        obtain ⟨b, v, w, wi, d, s1, s2, s3, s4, s5, s6, s7, s8, s9, s10, s11, s12, s13, s14⟩ := vals i j hi hj bi bj
        have fhc : Fr [36, 37] h c := (fc0.wk rfl).tr fc
        have Rc' : RC c := RC_sm (fhc.sm rfl) R
        have b32 := hu b s6
        unfold fX6_worthOfRun wij
        simp (disch := omega) only [lb_e, fhc.R 8 _ 1 rfl, fhc.R 8 _ 0 rfl, so.1, so.2.1, mt_s rfl, nZ_ib, nZ_ix, fhc.I 2 _ 1 rfl, fhc.I 2 _ 2 rfl, fhc.A 41 _ _ rfl, fhc.A 42 _ _ rfl, s1, s4, s5, s9, s12, s13, s14, nZ_le]
        rw [gd_p hj, gd_p hj]
        by_cases g : wi ≤ w
        · rw [br_p g, if_pos g, bd_s (worth1 Rc' (b := b) (u := v) (w := wi) (by rw [nB_sm (fhc.sm rfl)]; exact s6) s10 (by rw [un_sm (fhc.sm rfl)]; omega) d), wS_sm (fhc.sm rfl)]
        · rw [br_n g, if_neg g]
      -- the reference
      have run : ∀ m0, Fr [13000, 36, 37] h m0 → ∃ r r' v c' m', fX6_turn_L69 FU (yr h) L0 0 0 c0 = some ((r, v, r'), c') ∧ (∃ m1 m2 m3 w1 w2 w3 x N, fX12_listens m0 = some (w1, m1) ∧ fX12_change_L43 FU a1 0 0 m1 = some ((N, w2), m2) ∧ fX12_change_L136 FU N (gI m2 12 0 8) m2 = some (w3, m3) ∧ fX12_change_L162 FU N 0 (sI m3 12 0 75 1) = some ((x, v), m')) ∧ Fr [36, 37] h c' ∧ Fr [13075, 93, 94, 108, 109, 110, 111] m0 m' ∧ gI m' 12 0 75 = 1 ∧ ∀ i, i < 12 → gI c' 37 0 i = gI m' 109 0 i := fun m0 f0' => by
        obtain ⟨w1, m1, g1, p1, R1, T1⟩ := listens_t (RC_sm (f0'.sm rfl) R)
        have f01 : Fr [13000, 36, 37, 93, 94] h m1 := (f0'.wk rfl).tr (p1.wk rfl)
        obtain ⟨w2, m2, g2, p2, j2⟩ := l43_L (a := a1) P ⟨by omega, y3⟩ f01 y1 FU 0 m1 (by omega) (by show _ < 100000; omega) (Fr.rf _ _) fun i hi => by omega
        have e82 : gI m2 12 0 8 = nZ (nH h) := by rw [p2.I 12 0 8 rfl, f01.I 12 0 8 rfl]; exact e8
        obtain ⟨w3, m3, g3, p3, j3⟩ := l136_L (H := nH h) (nZ (cnt (lfB h a1 (yr h)) (nH h))) FU (nH h) m2 hH (by show _ < 100000; omega)
        have p4 : Fr [13075] m3 (sI m3 12 0 75 1) := Fr_I _ _ _ _ _ rfl
        have p14 : Fr [13075, 109, 110] m1 (sI m3 12 0 75 1) := ((p2.wk rfl).tr (p3.wk rfl)).tr (p4.wk rfl)
        have f04 : Fr [13000, 13075, 36, 37, 93, 94, 109, 110] h (sI m3 12 0 75 1) := (f01.wk rfl).tr (p14.wk rfl)
        have hwm : ∀ m, Fr [108, 109, 110, 111] (sI m3 12 0 75 1) m → ∀ i j, i < nH h → j < nH h → bt L0 i = true → bt L0 j = true → fX12_likes (nZ i) (nZ j) m = some (wij h (yr h) i j, m) := fun m fm i j hi hj bi bj => by
          obtain ⟨b, v, w, wi, d, s1, s2, s3, s4, s5, s6, s7, s8, s9, s10, s11, s12, s13, s14⟩ := vals i j (by omega) (by omega) bi bj
          have f1m : Fr [13075, 108, 109, 110, 111] m1 m := (p14.wk rfl).tr (fm.wk rfl)
          have fhm : Fr [13000, 13075, 36, 37, 93, 94, 108, 109, 110, 111] h m := (f01.wk rfl).tr (f1m.wk rfl)
          have Rm : RC m := RC_sm (fhm.sm rfl) R
          have Tm : LT m := LT_sm (f1m.sm rfl) (f1m.sm rfl) T1
          have b32 := hu b s6
          unfold fX12_likes wij
          simp (disch := omega) only [lb_e, fhm.I 12 0 5 rfl, y1, nZ_x200, nZ_add, nZ_pre, nZ_ib, nZ_ix, fhm.A 66 _ _ rfl, fhm.A 67 _ _ rfl, fhm.A 88 _ _ rfl, fhm.A 89 _ _ rfl, fhm.A 90 _ _ rfl]
          rw [show 200 * j + yr h - 1 = 200 * j + (yr h - 1) by omega, s1, s2, s3, s5, s9, s12]
          simp (disch := omega) only [nZ_le, nZ_ix]
          rw [gd_p (by omega), gd_p (by omega)]
          by_cases g : wi ≤ w
          · rw [br_p g, if_pos g]
            repeat rw [gd_p (by omega)]
            rw [bd_s (worth12 Rm Tm (b := b) (u := v) (w := wi) (by rw [nB_sm (fhm.sm rfl)]; exact s6) (by rw [un_sm (fhm.sm rfl)]; omega) d), wS_sm (fhm.sm rfl)]
          · rw [br_n g, if_neg g]
        have cE : cnt (bt L0) (nH h) = cnt (lfB h a1 (yr h)) (nH h) := cnt_ext fun j hj => by
          rw [k1 j (by omega)]
          simp [show j < 12 by omega]
        have cL := cnt_le (bt L0) (nH h)
        have nHc0 : nH c0 = nH h := by unfold nH; rw [fc0.I 12 0 8 rfl]
        obtain ⟨r, r', v, c', m', b1, ⟨x, b2'⟩, b3, b4, b5⟩ := rounds_L (h := c0) (g := sI m3 12 0 75 1) (w := wij h (yr h)) (L0 := L0) Pc0 nHc0 (by rw [f04.I 12 0 8 rfl]; exact e8) hwc hwm L0H FU FU 0 L0 0 c0 (sI m3 12 0 75 1) (by show _ < 100000; omega) (by show 12 < 100000 + 0; omega) (by omega) (fun _ _ b => b) (Fr.rf _ _) (Fr.rf _ _) (fun j hj => by
          rw [p4.A 110 0 j rfl, p3.A 110 0 j rfl, (j2 j hj).1, k1 j (by omega)]
          simp [show j < 12 by omega]) (fun i hi => by
          rw [p4.A 109 0 i rfl, j3 i, ec0, gI_flI, if_pos ⟨rfl, rfl, by omega, hi⟩]
          by_cases y : nH h ≤ i
          · rw [if_pos ⟨y, hi⟩]
          · rw [if_neg fun w => y w.1, (j2 i (by omega)).2])
        rw [cE] at b2'
        refine ⟨r, r', v, c', m', b1, ⟨m1, m2, m3, w1, w2, w3, x, _, g1, g2, by rw [e82]; exact g3, b2'⟩, (fc0.wk rfl).tr b3, ((p1.wk rfl).tr (p14.wk rfl)).tr (b4.wk rfl), by rw [b4.I 12 0 75 rfl, gI_q], b5⟩
      obtain ⟨r, r', v, c', m', b1, x2, b3, x4, x5, x6⟩ := run h (Fr.rf _ _)
      have fz : Fr [13000] c' (sI c' 12 0 0 0) := Fr_I _ _ _ _ _ rfl
      obtain ⟨s, s', v', c2, m2', b1', ⟨m1, m2, m3, w1, w2, w3, x, N, g1, g2, g3, g4⟩, b3', fm, e75, e37⟩ := run (sI c' 12 0 0 0) ((b3.wk rfl).tr (fz.wk rfl))
      have ee := Prod.mk.inj (Option.some.inj (b1.symm.trans b1'))
      have ev : v = v' := (Prod.mk.inj (Prod.mk.inj ee.1).2).1
      have ec : c' = c2 := ee.2
      subst ev ec
      have fzm : Fr [13000, 13075, 93, 94, 108, 109, 110, 111] c' m2' := (fz.wk rfl).tr (fm.wk rfl)
      refine ⟨v, c', m2', ?_, ?_, b3.wk rfl, (b3.wk rfl).tr (fzm.wk rfl), fun i hi => ?_⟩
      · unfold fX11_change fX11_latestSeating
        have st := seating_t (c := h) (y := yr h) (t := yr h - 1) y2 y3 (by omega) (t3 _ (by omega))
        rw [show yr h - 1 + 1 = yr h by omega] at st
        rw [e4, br_p ((setU a1 hH).mpr q), y2, nZ_pre (by omega) (by omega), bd_s (show bd (fX11_seatingOf (nZ (yr h - 1)) h) (fun r1 h2 => some (r1, h2)) = some (some (yr h), h) by rw [bd_s st]), mt_s rfl]
        have tt : fX6_turn a1 (yr h) h = some (v, c') := by
          unfold fX6_turn
          rw [lb_e, ← ec0, bd_s (show fX6_turn_L13 FU a1 (yr h) 0 0 c0 = _ from d1), lb_e, lb_e, bd_s (show fX6_turn_L69 FU (yr h) L0 0 0 c0 = _ from b1)]
          rfl
        rw [bd_s tt]
      · unfold fX12_change
        have fhz : Fr [13000, 36, 37] h (sI c' 12 0 0 0) := (b3.wk rfl).tr (fz.wk rfl)
        have qi' : ¬ (fX12_in a1.toInt64 0 (((1 : Int64) <<< ((gI (sI c' 12 0 0 0) 12 0 8).toInt64 &&& 63)) - 1) (sI c' 12 0 0 0) = 0) := by
          rw [in_0, fhz.I 12 0 8 rfl, e8, shJ _ hH, to64, z0J]
          exact not_not_intro q
        rw [lb_e, br_n qi', br_n (by rw [fhz.I 12 0 5 rfl, y1, nZ_z (by omega)]; exact z), bd_s g1, bd_s g2]
        simp only [lb_e]
        rw [bd_s g3, bd_s g4]
      · rw [fzm.A 37 0 i rfl, e75, if_neg (by decide)]
        exact e37 i hi
  · refine Op_no (r := -2) rfl ?_ ?_ (RG_sm (f0.sm rfl) G)
    · unfold fX11_change
      rw [e4, br_n fun w => q ((setU a1 hH).mp w)]
    · unfold fX12_change
      rw [lb_e, br_p (qi.mpr q)]
