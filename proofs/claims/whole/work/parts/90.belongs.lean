/-! ===== level 2: belongs, judge; owners of all spots ===== -/
theorem bit1 : ∀ a : Fin 12, (((4095 : Int32) >>> (Int32.ofNat a.val &&& 31)) &&& 1) ≠ 0 := by decide +kernel
theorem bit2 : ∀ a b x : Fin 12, ((((((1 : Int32) <<< (Int32.ofNat a.val &&& 31)) ||| ((1 : Int32) <<< (Int32.ofNat b.val &&& 31))) >>> (Int32.ofNat x.val &&& 31)) &&& 1) = 0) ↔ ¬ (x = a ∨ x = b) := by decide +kernel
theorem years12 {h : Hp} (Y : Ry h) (a b : Int32) : (fX12_areYears a b h = 0) ↔ ¬ ((0 ≤ a.toInt ∧ a.toInt ≤ 199) ∧ (0 ≤ b.toInt ∧ b.toInt ≤ yr h)) := by
  obtain ⟨y1, y2, y3⟩ := Y.e
  unfold fX12_areYears
  rw [br_or, br01]
  simp only [in_0, to64, z0J, n199J, y1, nZ_t (by omega : yr h < 2147483648)]
  omega
def asked (h : Hp) (a1 a2 a3 a4 : Int32) : Prop := isU h a1 a2 ∧ (0 ≤ a3.toInt ∧ a3.toInt ≤ 199) ∧ (0 ≤ a4.toInt ∧ a4.toInt ≤ yr h)
theorem asked_t {h : Hp} (R : RC h) (Y : Ry h) {a1 a2 a3 a4 : Int32} (q : asked h a1 a2 a3 a4) : fX11_isAsked a1 a2 a3 a4 h = some (1, h) := by
  obtain ⟨y1, y2, y3⟩ := Y.e
  obtain ⟨q1, q2, q3⟩ := q
  unfold fX11_isAsked
  rw [bd_s (unit1_t R q1), br_n (by decide), br_n (by rw [year11]; omega), br_n (by rw [isWithin_0, y2, z0, nZ_t (by omega)]; omega)]
theorem asked_f {h : Hp} (R : RC h) (Y : Ry h) {a1 a2 a3 a4 : Int32} (q : ¬ asked h a1 a2 a3 a4) : fX11_isAsked a1 a2 a3 a4 h = some (0, h) := by
  obtain ⟨y1, y2, y3⟩ := Y.e
  unfold fX11_isAsked
  by_cases q1 : isU h a1 a2
  · rw [bd_s (unit1_t R q1), br_n (by decide), br_or, br_p]
    rw [year11, isWithin_0, y2, z0, nZ_t (by omega)]
    by_cases q2 : (0 ≤ a3.toInt ∧ a3.toInt ≤ 199)
    · by_cases q3 : (0 ≤ a4.toInt ∧ a4.toInt ≤ yr h)
      · exact absurd ⟨q1, q2, q3⟩ q
      · exact Or.inr q3
    · exact Or.inl q2
  · rw [bd_s (unit1_f R q1)]
    rfl
theorem RC.u32 {h : Hp} (R : RC h) : nB h ≤ 8 ∧ ∀ b, b < nB h → un h b ≤ 32 := by
  obtain ⟨v1, v2, v3, v4⟩ := R.v
  exact ⟨v3, fun b hb => (v4 b hb).2.2.2⟩
theorem s_belongs (a1 a2 a3 a4 a5 : Int32) (h : Hp) (R : RC h) (P : RP h) (Y : Ry h) (T : RR (nH h) (yr h) (nB h) (un h) h h) (L : RPl (nH h) h h) : Op [13000] (fX11_belongs a1 a2 a3 a4 a5) (fX12_belongs a1 a2 a3 a4 a5) h (fun _ => True) := by
  have R0 := RC_sm (thrown_sm rfl h) R
  have T0 : RR (nH h) (yr h) (nB h) (un h) (sI h 12 0 0 0) (sI h 12 0 0 0) := RR_m (thrown_sm rfl h) (RR_c (thrown_sm rfl h) T)
  have L0 : RPl (nH h) (sI h 12 0 0 0) (sI h 12 0 0 0) := RPl_sm (thrown_sm rfl h) (thrown_sm rfl h) L
  have Y0 : Ry (sI h 12 0 0 0) := Y
  have r3 := P.2.2.1
  obtain ⟨hB, hu⟩ := R.u32
  refine Op_ro rfl ?_ trivial
  by_cases q : asked h a1 a2 a3 a4
  · have ask := asked_t R Y q
    obtain ⟨q1, q2, q3⟩ := q
    have q1' : isU (sI h 12 0 0 0) a1 a2 := q1
    have yrs : ¬ fX12_areYears a3 a4 (sI h 12 0 0 0) = 0 := fun z => (years12 Y0 a3 a4).mp z ⟨q2, q3⟩
    by_cases q5 : 0 ≤ a5.toInt ∧ a5.toInt ≤ 1
    · obtain ⟨b, v, rfl, rfl, hb, hv⟩ := isU_ex R q1
      obtain ⟨y, rfl, ey, hy⟩ := nZ_ex q2.1
      obtain ⟨k, rfl, ek, hk⟩ := nZ_ex q3.1
      have y3 := Y.e.2.2
      have hv' := hu b hb
      have eb : fX3_bestFor (nZ b) (nZ v) (nZ y) (nZ k) 4095 h = some (enc (bR (PR h b v y k fun _ => true) (btr h) (nR h)), h) := bfor_t T L hB hu (by omega) (by omega) (by omega) (by omega) 4095 (fun _ => true) fun r hr hn => by
        obtain ⟨w1, w2⟩ := hol_b T L hr (by omega) hn
        obtain ⟨x, ex, ex2, -⟩ := nZ_ex w1
        rw [ex]
        exact iff_of_false (bit1 ⟨x, by omega⟩) (by decide)
      have em : fX12_bestRight (nZ b) (nZ v) (nZ y) (nZ k) (-1) (-1) (sI h 12 0 0 0) = some (enc (bR (PR h b v y k fun _ => true) (btr h) (nR h)), sI h 12 0 0 0) := brig_t T0 hB hu (by omega) (by omega) (by omega) (by omega) (-1) (-1) (fun _ => true) fun r _ _ => iff_of_true (Or.inl rfl) rfl
      have eo : fX12_ownerOf (nZ b) (nZ v) (nZ y) (nZ k) (sI h 12 0 0 0) = some (owS h b v y k, sI h 12 0 0 0) := owner_t T0 hB hu (b := b) (v := v) (y := y) (k := k) (by omega) (by omega) (by omega) (by omega)
      by_cases z : a5 = 1
      · refine ⟨enc (bR (PR h b v y k fun _ => true) (btr h) (nR h)), ?_, ?_⟩
        · unfold fX11_belongs
          rw [bd_s ask, br_n (by decide), br_n (by rw [isWithin_0, z0, o1]; omega), bd_s eb, br_p z]
        · unfold fX12_belongs
          rw [lb_e, bd_s (unit12_t R0 q1'), br_n (by decide), br_n yrs, br_n (by rw [in_0, to64, z0J, o1J]; omega), br_n (by rw [z]; decide), bd_s em]
      · have z0' : a5 = 0 := by
          rw [i32_eq, o1] at z
          rw [i32_eq, z0]
          omega
        refine ⟨owS h b v y k, ?_, ?_⟩
        · unfold fX11_belongs
          rw [bd_s ask, br_n (by decide), br_n (by rw [isWithin_0, z0, o1]; omega), bd_s eb, br_n z]
          unfold owS
          cases e : bR (PR h b v y k fun _ => true) (btr h) (nR h) with
          | none =>
            show bd (fX3_holderOf m1 _ h) _ = _
            rw [bd_s (holder_n T _)]
          | some r =>
            show bd (fX3_holderOf (nZ r) _ h) _ = _
            rw [bd_s (holder_t T L (bR_P e).2 (by omega))]
        · unfold fX12_belongs
          rw [lb_e, bd_s (unit12_t R0 q1'), br_n (by decide), br_n yrs, br_n (by rw [in_0, to64, z0J, o1J]; omega), br_p z0', bd_s eo]
    · refine ⟨-2, ?_, ?_⟩
      · unfold fX11_belongs
        rw [bd_s ask, br_n (by decide), br_p (by rw [isWithin_0, z0, o1]; exact q5)]
      · unfold fX12_belongs
        rw [lb_e, bd_s (unit12_t R0 q1'), br_n (by decide), br_n yrs, br_p (by rw [in_0, to64, z0J, o1J]; exact q5)]
  · refine ⟨-2, ?_, ?_⟩
    · unfold fX11_belongs
      rw [bd_s (asked_f R Y q)]
      rfl
    · unfold fX12_belongs
      rw [lb_e]
      by_cases q1 : isU h a1 a2
      · have q1' : isU (sI h 12 0 0 0) a1 a2 := q1
        rw [bd_s (unit12_t R0 q1'), br_n (by decide), br_p]
        exact (years12 Y0 a3 a4).mpr fun z => q ⟨q1, z⟩
      · have q1' : ¬ isU (sI h 12 0 0 0) a1 a2 := q1
        rw [bd_s (unit12_f R0 q1')]
        rfl
theorem s_judge (a1 a2 a3 a4 a5 a6 : Int32) (h : Hp) (R : RC h) (P : RP h) (Y : Ry h) (T : RR (nH h) (yr h) (nB h) (un h) h h) (L : RPl (nH h) h h) : Op [13000] (fX11_judge a1 a2 a3 a4 a5 a6) (fX12_judge a1 a2 a3 a4 a5 a6) h (fun _ => True) := by
  have R0 := RC_sm (thrown_sm rfl h) R
  have P0 := RP_sm (thrown_sm rfl h) P
  have T0 : RR (nH h) (yr h) (nB h) (un h) (sI h 12 0 0 0) (sI h 12 0 0 0) := RR_m (thrown_sm rfl h) (RR_c (thrown_sm rfl h) T)
  have Y0 : Ry (sI h 12 0 0 0) := Y
  have r3 := P.2.2.1
  obtain ⟨hB, hu⟩ := R.u32
  refine Op_ro rfl ?_ trivial
  unfold fX11_judge fX12_judge
  simp only [lb_e, house4 P, house12 P0, show nH (sI h 12 0 0 0) = nH h from rfl]
  by_cases c1 : 0 ≤ a1.toInt ∧ a1.toInt < nH h
  · by_cases c2 : 0 ≤ a2.toInt ∧ a2.toInt < nH h
    · by_cases c3 : a1 = a2
      · refine ⟨-2, ?_, ?_⟩
        · rw [br_n (not_not_intro c1), br_n (not_not_intro c2), br_p c3]
        · rw [br_n (not_not_intro c1), br_n (not_not_intro c2), br_p c3]
      · rw [br_n (not_not_intro c1), br_n (not_not_intro c2), br_n c3, br_n (not_not_intro c1), br_n (not_not_intro c2), br_n c3]
        by_cases q : asked h a3 a4 a5 a6
        · rw [bd_s (asked_t R Y q)]
          obtain ⟨q1, q2, q3⟩ := q
          have q1' : isU (sI h 12 0 0 0) a3 a4 := q1
          have yrs : ¬ fX12_areYears a5 a6 (sI h 12 0 0 0) = 0 := fun z => (years12 Y0 a5 a6).mp z ⟨q2, q3⟩
          rw [bd_s (unit12_t R0 q1'), br_n (by decide)]
          obtain ⟨i, rfl, hi⟩ := hs_ex P c1
          obtain ⟨j, rfl, hj⟩ := hs_ex P c2
          obtain ⟨b, v, rfl, rfl, hb, hv⟩ := isU_ex R q1
          obtain ⟨y, rfl, ey, hy⟩ := nZ_ex q2.1
          obtain ⟨k, rfl, ek, hk⟩ := nZ_ex q3.1
          have y3 := Y.e.2.2
          have hv' := hu b hb
          have eb : ∀ m : Hp, fX3_bestFor (nZ b) (nZ v) (nZ y) (nZ k) (((1 : Int32) <<< (nZ i &&& 31)) ||| ((1 : Int32) <<< (nZ j &&& 31))) h = some (enc (bR (PR h b v y k fun r => decide (hol h r y = nZ i ∨ hol h r y = nZ j)) (btr h) (nR h)), h) := fun _ => bfor_t T L hB hu (by omega) (by omega) (by omega) (by omega) _ _ fun r hr hn => by
            obtain ⟨w1, w2⟩ := hol_b T L hr (by omega) hn
            obtain ⟨x, ex, ex2, -⟩ := nZ_ex w1
            rw [ex, decide_eq_false_iff_not, nZ_eq (by omega) (by omega), nZ_eq (by omega) (by omega)]
            have := bit2 ⟨i, by omega⟩ ⟨j, by omega⟩ ⟨x, by omega⟩
            simp only [Fin.mk.injEq] at this
            exact this
          have em : ∀ x : Hp, fX12_bestRight (nZ b) (nZ v) (nZ y) (nZ k) (nZ i) (nZ j) (sI h 12 0 0 0) = some (enc (bR (PR h b v y k fun r => decide (hol h r y = nZ i ∨ hol h r y = nZ j)) (btr h) (nR h)), sI h 12 0 0 0) := fun _ => brig_t T0 hB hu (by omega) (by omega) (by omega) (by omega) (nZ i) (nZ j) (fun r => decide (hol h r y = nZ i ∨ hol h r y = nZ j)) fun r _ _ => by
            rw [decide_eq_true_iff]
            refine ⟨fun z => ?_, Or.inr⟩
            rcases z with z | z
            · exact absurd z fun w => (nZ_m1 (by omega)).mp w
            · exact z
          rw [bd_s (eb h), br_n (by decide), br_n yrs, bd_s (em h)]
          cases e : bR (PR h b v y k fun r => decide (hol h r y = nZ i ∨ hol h r y = nZ j)) (btr h) (nR h) with
          | none =>
            refine ⟨-1, ?_, rfl⟩
            show bd (fX3_holderOf m1 _ h) _ = _
            rw [bd_s (holder_n T _)]
          | some r =>
            obtain ⟨e1, e2⟩ := bR_P e
            have r3' := T.2.2.1
            refine ⟨hol h r y, ?_, ?_⟩
            · show bd (fX3_holderOf (nZ r) _ h) _ = _
              rw [bd_s (holder_t T L e2 (by omega))]
            · show br (nZ r = m1) _ _ = _
              rw [br_n (fun z => (nZ_m1 (by omega)).mp z)]
              show bd (fX12_whose (nZ r) _ _ _) _ = _
              rw [bd_s (whose_t T0 e2 (by omega) (by omega))]
              unfold PR at e1
              simp only [Bool.and_eq_true] at e1
              show some (wh h r y k, _) = _
              unfold wh
              rw [if_pos e1.1.1.2]
        · refine ⟨-2, ?_, ?_⟩
          · rw [bd_s (asked_f R Y q)]
            rfl
          · by_cases q1 : isU h a3 a4
            · have q1' : isU (sI h 12 0 0 0) a3 a4 := q1
              rw [bd_s (unit12_t R0 q1'), br_n (by decide), br_p]
              exact (years12 Y0 a5 a6).mpr fun z => q ⟨q1, z⟩
            · have q1' : ¬ isU (sI h 12 0 0 0) a3 a4 := q1
              rw [bd_s (unit12_f R0 q1')]
              rfl
    · refine ⟨-2, ?_, ?_⟩
      · rw [br_n (not_not_intro c1), br_p c2]
      · rw [br_n (not_not_intro c1), br_p c2]
  · refine ⟨-2, ?_, ?_⟩
    · rw [br_p c1]
    · rw [br_p c1]
