/-! ===== level 2: rings: the reference's side ===== -/
theorem i32_nle {a b : Int32} : (¬ a ≤ b) ↔ b < a := by rw [i32_le, i32_lt]; omega
def Lo (L : Int32) (H : Nat) (m : Hp) : Prop := ∀ j, j < H → (gI m 110 0 j = 0 ↔ bt L j = false)
theorem looks_L {h : Hp} {w : Nat → Int32} {L : Int32} {i H : Nat} (hH : H ≤ 12) (hi : i < H) (bi : bt L i = true) (hw : ∀ m, Fr [108, 109, 110, 111] h m → ∀ j, j < H → bt L j = true → fX12_likes (nZ i) (nZ j) m = some (w j, m)) (e8 : gI h 12 0 8 = nZ H) : ∀ n k m, k ≤ H → H - k < n → Fr [108, 109, 110, 111] h m → Lo L H m → gI m 108 0 i = nZ (fa w L i k).1 → ∃ r m', fX12_looks_L16 n (nZ i) (fa w L i k).2 (nZ k) m = some (r, m') ∧ Fr [108] m m' ∧ gI m' 108 0 i = nZ (fa w L i H).1 ∧ ∀ j, j ≠ i → gI m' 108 0 j = gI m 108 0 j := by
  intro n
  induction n with
  | zero => intro k m _ q; omega
  | succ n ih =>
    intro k m hk hn fm lo e
    rw [fX12_looks_L16]
    simp (disch := omega) only [lb_e, fm.I 12 0 8 rfl, e8, nZ_le, nZ_suc, nZ_ib, nZ_ix, nZ_eq]
    by_cases q : k = H
    · subst q
      rw [br_p (by omega)]
      exact ⟨_, m, rfl, Fr.rf _ _, e, fun _ _ => rfl⟩
    · rw [br_n (by omega), gd_p (by omega)]
      have skip : ¬ (bt L k = true ∧ ¬ w k ≤ (fa w L i k).2) → ∃ r m', fX12_looks_L16 n (nZ i) (fa w L i k).2 (nZ (k + 1)) m = some (r, m') ∧ Fr [108] m m' ∧ gI m' 108 0 i = nZ (fa w L i H).1 ∧ ∀ j, j ≠ i → gI m' 108 0 j = gI m 108 0 j := fun z => by
        have st := ih (k + 1) m (by omega) (by omega) fm lo (by rw [fa, if_neg z]; exact e)
        rw [fa, if_neg z] at st
        exact st
      by_cases b : bt L k = false
      · rw [br_p ((lo k (by omega)).mpr b)]
        exact skip fun z => by rw [b] at z; cases z.1
      · have b' : bt L k = true := by simpa using b
        rw [br_n fun z => b ((lo k (by omega)).mp z)]
        by_cases s : k = i
        · rw [br_p s]
          refine skip fun z => z.2 ?_
          rw [s]
          exact fa_ge w L i i
        · rw [br_n s, bd_s (hw m fm k (by omega) b')]
          by_cases g : w k ≤ (fa w L i k).2
          · rw [br_n fun z => i32_nle.mpr z g]
            exact skip fun z => z.2 g
          · rw [br_p (i32_nle.mp g), bd_s (hw m fm k (by omega) b'), gd_p (by omega)]
            have f1 : Fr [108] m (sI m 108 0 i (nZ k)) := Fr_I _ _ _ _ _ rfl
            obtain ⟨r, m', e1, e2, e3, e4⟩ := ih (k + 1) (sI m 108 0 i (nZ k)) (by omega) (by omega) (fm.tr (f1.wk rfl)) (fun j hj => by rw [f1.A 110 0 j rfl]; exact lo j hj) (by rw [fa, if_pos ⟨b', g⟩, gI_q])
            rw [fa, if_pos ⟨b', g⟩] at e1
            exact ⟨r, m', e1, f1.tr e2, e3, fun j hj => by rw [e4 j hj, gI_a, if_neg hj]⟩
theorem l169_L {h : Hp} {w : Nat → Nat → Int32} {L : Int32} {H : Nat} (hH : H ≤ 12) (hL : ∀ j, H ≤ j → j < 12 → bt L j = false) (hw : ∀ m, Fr [108, 109, 110, 111] h m → ∀ i j, i < H → j < H → bt L i = true → bt L j = true → fX12_likes (nZ i) (nZ j) m = some (w i j, m)) (e8 : gI h 12 0 8 = nZ H) (a2 a3 : Int32) : ∀ n k m, k ≤ H → H - k < n → Fr [108, 109, 110, 111] h m → Lo L H m → (∀ i, i < k → bt L i = true → gI m 108 0 i = nZ (fvo w L i)) → ∃ r m', fX12_change_L169 n a2 a3 (nZ k) m = some (r, m') ∧ Fr [108] m m' ∧ ∀ i, i < H → bt L i = true → gI m' 108 0 i = nZ (fvo w L i) := by
  intro n
  induction n with
  | zero => intro k m _ q; omega
  | succ n ih =>
    intro k m hk hn fm lo K
    rw [fX12_change_L169]
    simp (disch := omega) only [lb_e, fm.I 12 0 8 rfl, e8, nZ_le, nZ_suc, nZ_ib, nZ_ix]
    by_cases q : k = H
    · subst q
      rw [br_p (by omega)]
      exact ⟨_, m, rfl, Fr.rf _ _, K⟩
    · rw [br_n (by omega), gd_p (by omega)]
      by_cases b : bt L k = false
      · rw [br_p ((lo k (by omega)).mpr b)]
        exact ih (k + 1) m (by omega) (by omega) fm lo fun i hi bi => by
          by_cases e : i = k
          · rw [e, b] at bi; cases bi
          · exact K i (by omega) bi
      · have b' : bt L k = true := by simpa using b
        rw [br_n fun z => b ((lo k (by omega)).mp z)]
        have f1 : Fr [108] m (sI m 108 0 k (nZ k)) := Fr_I _ _ _ _ _ rfl
        have fm1 : Fr [108, 109, 110, 111] h (sI m 108 0 k (nZ k)) := fm.tr (f1.wk rfl)
        obtain ⟨r, m', e1, e2, e3, e4⟩ := looks_L (w := w k) (i := k) hH (by omega) b' (fun m fm j hj bj => hw m fm k j (by omega) hj b' bj) e8 FU 0 _ (by omega) (by show _ < 100000; omega) fm1 (fun j hj => by rw [f1.A 110 0 j rfl]; exact lo j hj) gI_q
        have el : ∃ r, fX12_looks (nZ k) m = some (r, m') := by
          unfold fX12_looks
          simp (disch := omega) only [lb_e, nZ_ib, nZ_ix]
          rw [gd_p (by omega), bd_s (hw _ fm1 k k (by omega) (by omega) b' b'), bd_s (show fX12_looks_L16 FU (nZ k) (w k k) 0 (sI m 108 0 k (nZ k)) = _ from e1)]
          exact ⟨_, rfl⟩
        obtain ⟨r', el⟩ := el
        rw [bd_s el]
        have f2 : Fr [108] m m' := f1.tr e2
        obtain ⟨r2, m2, g1, g2, g3⟩ := ih (k + 1) m' (by omega) (by omega) (fm.tr (f2.wk rfl)) (fun j hj => by rw [f2.A 110 0 j rfl]; exact lo j hj) fun i hi bi => by
          by_cases e : i = k
          · rw [e, e3]
            unfold fvo
            rw [fa_st (w k) L k hL 12 hH (Nat.le_refl _)]
          · rw [e4 i e, gI_a, if_neg e]
            exact K i (by omega) bi
        exact ⟨r2, m2, g1, f2.tr g2, g3⟩
theorem back_L {m : Hp} {F : Nat → Nat} {L : Int32} (hF : ∀ i, i < 12 → bt L i = true → bt L (F i) = true ∧ F i < 12) (e : ∀ i, i < 12 → bt L i = true → gI m 108 0 i = nZ (F i)) {i : Nat} (hi : i < 12) : ∀ n k v, k ≤ 12 → 12 - k < n → v < 12 → bt L v = true → ∃ a, fX12_comesBack_L9 n (nZ i) (nZ v) (nZ k) m = some ((nZ (cho F i (12 - k) v), a), m) ∧ cho F i (12 - k) v < 12 := by
  intro n
  induction n with
  | zero => intro k v _ q; omega
  | succ n ih =>
    intro k v hk hn hv bv
    rw [fX12_comesBack_L9]
    simp (disch := omega) only [lb_e, nZ_12, nZ_le, nZ_suc, nZ_ib, nZ_ix, nZ_eq]
    by_cases q : k = 12
    · subst q
      rw [br_p (by omega)]
      exact ⟨_, rfl, hv⟩
    · rw [br_n (by omega), show 12 - k = (12 - (k + 1)) + 1 by omega, cho]
      by_cases z : v = i
      · rw [br_p z, if_pos z]
        exact ⟨_, rfl, hv⟩
      · rw [br_n z, if_neg z, gd_p hv, e v hv bv]
        exact ih (k + 1) (F v) (by omega) (by omega) (hF v hv bv).2 (hF v hv bv).1
theorem back_t {m : Hp} {F : Nat → Nat} {L : Int32} (hF : ∀ i, i < 12 → bt L i = true → bt L (F i) = true ∧ F i < 12) (e : ∀ i, i < 12 → bt L i = true → gI m 108 0 i = nZ (F i)) {i : Nat} (hi : i < 12) (bi : bt L i = true) : fX12_comesBack (nZ i) m = some (if rgB F L i = true then 1 else 0, m) := by
  unfold fX12_comesBack
  obtain ⟨a, e1, e2⟩ := back_L hF e hi FU 0 (F i) (by omega) (by show _ < 100000; omega) (hF i hi bi).2 (hF i hi bi).1
  simp (disch := omega) only [lb_e, nZ_ib, nZ_ix]
  rw [gd_p hi, e i hi bi, bd_s (show fX12_comesBack_L9 FU (nZ i) (nZ (F i)) 0 m = _ from e1)]
  show br (nZ (cho F i 12 (F i)) = nZ i) _ _ = _
  have e2' : cho F i 12 (F i) < 12 := e2
  simp (disch := omega) only [nZ_eq]
  unfold rgB
  rw [bi, Bool.true_and]
  by_cases z : cho F i 12 (F i) = i
  · rw [br_p z, if_pos (by simpa using z)]
  · rw [br_n z, if_neg (by simpa using z)]
theorem l203_L {F : Nat → Nat} {L : Int32} {H : Nat} (hH : H ≤ 12) (hF : ∀ i, i < 12 → bt L i = true → bt L (F i) = true ∧ F i < 12) (a2 a3 : Int32) : ∀ n k m, k ≤ H → H - k < n → gI m 12 0 8 = nZ H → Lo L H m → (∀ i, i < 12 → bt L i = true → gI m 108 0 i = nZ (F i)) → (∀ i, i < k → gI m 111 0 i = if rgB F L i = true then 1 else 0) → ∃ r m', fX12_change_L203 n a2 a3 (nZ k) m = some (r, m') ∧ Fr [111] m m' ∧ ∀ i, i < H → gI m' 111 0 i = if rgB F L i = true then 1 else 0 := by
  intro n
  induction n with
  | zero => intro k m _ q; omega
  | succ n ih =>
    intro k m hk hn e8 lo e K
    rw [fX12_change_L203]
    simp (disch := omega) only [lb_e, e8, nZ_le, nZ_suc, nZ_ib, nZ_ix]
    by_cases q : k = H
    · subst q
      rw [br_p (by omega)]
      exact ⟨_, m, rfl, Fr.rf _ _, K⟩
    · rw [br_n (by omega), gd_p (by omega)]
      have go : ∀ v : Int32, v = (if rgB F L k = true then 1 else 0) → ∃ r m', gd (k < 12) (fX12_change_L203 n a2 a3 (nZ (k + 1)) (sI m 111 0 k v)) = some (r, m') ∧ Fr [111] m m' ∧ ∀ i, i < H → gI m' 111 0 i = if rgB F L i = true then 1 else 0 := fun v ev => by
        rw [gd_p (by omega)]
        have f1 : Fr [111] m (sI m 111 0 k v) := Fr_I _ _ _ _ _ rfl
        obtain ⟨r, m', g1, g2, g3⟩ := ih (k + 1) (sI m 111 0 k v) (by omega) (by omega) (by rw [f1.I 12 0 8 rfl]; exact e8) (fun j hj => by rw [f1.A 110 0 j rfl]; exact lo j hj) (fun i hi bi => by rw [f1.A 108 0 i rfl]; exact e i hi bi) fun i hi => by
          rw [gI_a]
          by_cases z : i = k
          · rw [if_pos z, ev, z]
          · rw [if_neg z]
            exact K i (by omega)
        exact ⟨r, m', g1, f1.tr g2, g3⟩
      by_cases b : bt L k = false
      · rw [br_p ((lo k (by omega)).mpr b)]
        exact go 0 (by rw [if_neg (by unfold rgB; rw [b]; simp)])
      · have b' : bt L k = true := by simpa using b
        rw [br_n fun z => b ((lo k (by omega)).mp z), bd_s (back_t hF e (by omega) b')]
        by_cases g : rgB F L k = true
        · rw [if_pos g, br_n (by decide)]
          exact go 1 (by rw [if_pos g])
        · rw [if_neg g, br_p rfl]
          exact go 0 (by rw [if_neg g])
theorem l252_L {F : Nat → Nat} {L : Int32} {H N A : Nat} (hH : H ≤ 12) (hN : cnt (rgB F L) H ≤ N) (hN' : N ≤ 12) (hF : ∀ i, i < 12 → bt L i = true → bt L (F i) = true ∧ F i < 12) : ∀ n k m, k ≤ H → H - k < n → gI m 12 0 8 = nZ H → (∀ i, i < 12 → bt L i = true → gI m 108 0 i = nZ (F i)) → (∀ i, i < H → gI m 111 0 i = if rgB F L i = true then 1 else 0) → ∃ r m', fX12_change_L252 n (nZ (N - cnt (rgB F L) k)) (nZ (A + cnt (moB F L) k)) (nZ k) m = some ((nZ (N - cnt (rgB F L) H), nZ (A + cnt (moB F L) H), r), m') ∧ Fr [109, 110] m m' ∧ ∀ i, (k ≤ i ∧ i < H ∧ rgB F L i = true → gI m' 109 0 i = nZ (F i) ∧ gI m' 110 0 i = 0) ∧ (¬ (k ≤ i ∧ i < H ∧ rgB F L i = true) → gI m' 109 0 i = gI m 109 0 i ∧ gI m' 110 0 i = gI m 110 0 i) := by
  intro n
  induction n with
  | zero => intro k m _ q; omega
  | succ n ih =>
    intro k m hk hn e8 e K
    rw [fX12_change_L252]
    simp (disch := omega) only [lb_e, e8, nZ_le, nZ_suc, nZ_ib, nZ_ix]
    by_cases q : k = H
    · subst q
      rw [br_p (by omega)]
      exact ⟨_, m, rfl, Fr.rf _ _, fun i => ⟨fun z => by omega, fun _ => ⟨rfl, rfl⟩⟩⟩
    · have hk12 : k < 12 := by omega
      rw [br_n (by omega), gd_p hk12, K k (by omega)]
      by_cases b : rgB F L k = true
      · have bL : bt L k = true := by
          unfold rgB at b
          rw [Bool.and_eq_true] at b
          exact b.1
        have hFk := (hF k hk12 bL).2
        rw [if_pos b, br_n (by decide), gd_p hk12, gd_p hk12, gd_p hk12]
        have f1 : Fr [109, 110] m (sI m 109 0 k (nZ (F k))) := Fr_I _ _ _ _ _ rfl
        have f2 : Fr [109, 110] (sI m 109 0 k (nZ (F k))) (sI (sI m 109 0 k (nZ (F k))) 110 0 k 0) := Fr_I _ _ _ _ _ rfl
        have f12 := f1.tr f2
        obtain ⟨r, m', e1, e2, e3⟩ := ih (k + 1) (sI (sI m 109 0 k (nZ (F k))) 110 0 k 0) (by omega) (by omega) (by rw [f12.I 12 0 8 rfl]; exact e8) (fun i hi bi => by rw [f12.A 108 0 i rfl]; exact e i hi bi) (fun i hi => by rw [f12.A 111 0 i rfl]; exact K i hi)
        have c1 := cnt_mono (rgB F L) (show k + 1 ≤ H by omega)
        rw [cnt_t b] at c1
        rw [e k hk12 bL, f1.A 108 0 k rfl, e k hk12 bL]
        have hN1 : nZ (N - cnt (rgB F L) k) + (-1) = nZ (N - cnt (rgB F L) (k + 1)) := by
          rw [nZ_dn (by omega) (by omega), cnt_t b]
          congr 1
        refine ⟨r, m', ?_, f12.tr e2, fun i => ⟨fun z => ?_, fun z => ?_⟩⟩
        · simp (disch := omega) only [nZ_eq]
          have h0 : ∀ x, x = nZ (A + cnt (moB F L) (k + 1)) → gd (k < 12) (fX12_change_L252 n (nZ (N - cnt (rgB F L) k) + (-1)) x (nZ (k + 1)) (sI (sI m 109 0 k (nZ (F k))) 110 0 k 0)) = some ((nZ (N - cnt (rgB F L) H), nZ (A + cnt (moB F L) H), r), m') := fun x ex => by
            rw [gd_p hk12, hN1, ex]
            exact e1
          by_cases z : F k = k
          · rw [br_p z]
            refine h0 _ ?_
            rw [cnt_f (show ¬ moB F L k = true by unfold moB; rw [z]; simp)]
            exact nZ_add _ 0
          · rw [br_n z]
            refine h0 _ ?_
            rw [cnt_t (show moB F L k = true by unfold moB; rw [b]; simp [z])]
            rfl
        · by_cases y : i = k
          · have := (e3 i).2 (by omega)
            rw [this.1, this.2, gI_o (by rfl), gI_a, if_pos y, gI_a, if_pos y, y]
            exact ⟨rfl, rfl⟩
          · exact (e3 i).1 ⟨by omega, z.2⟩
        · have y : ¬ i = k := fun y => z ⟨by omega, by omega, by rw [y]; exact b⟩
          have := (e3 i).2 fun x => z ⟨by omega, x.2⟩
          rw [this.1, this.2, gI_o (by rfl), gI_a, if_neg y, gI_a, if_neg y, gI_o (by rfl)]
          exact ⟨rfl, rfl⟩
      · rw [if_neg b, br_p rfl]
        obtain ⟨r, m', e1, e2, e3⟩ := ih (k + 1) m (by omega) (by omega) e8 e K
        rw [cnt_f b, cnt_f (show ¬ moB F L k = true by unfold moB; intro z; rw [Bool.and_eq_true] at z; exact b z.1)] at e1
        refine ⟨r, m', e1, e2, fun i => ⟨fun z => ?_, fun z => ?_⟩⟩
        · refine (e3 i).1 ⟨?_, z.2⟩
          by_cases y : i = k
          · rw [y] at z; exact absurd z.2.2 b
          · omega
        · exact (e3 i).2 fun x => z ⟨by omega, x.2⟩
