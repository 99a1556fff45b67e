/-! ===== level 2: seats by right, in step on both sides ===== -/
theorem QB_sm {g c : Hp} (e : Sm fRC g c) (op : Nat → Bool) (w : Nat) (a : Int32) : QB c op w a = QB g op w a := by
  funext s
  have : (runP c op w s ∧ galOk c a s) ↔ (runP g op w s ∧ galOk g a s) := by
    unfold runP galOk
    rw [nB_sm e, un_sm e, e.A 29 0 _ (by decide)]
  cases z : QB g op w a s with
  | true => exact QB_t.mpr (this.mpr (QB_t.mp z))
  | false => exact QB_f.mpr fun y => QB_f.mp z (this.mp y)
theorem opW_sm {g c : Hp} (e : Sm fRC g c) (ow : Nat → Int32) (x : Int32) : opW c ow x = opW g ow x := by
  funext s
  unfold opW uS
  rw [nB_sm e, un_sm e]
theorem sRC_w {g c : Hp} (e : Sm fRC g c) : Sm [30, 31] g c := ⟨fun k n i z => e.1 k n i (by
  unfold wf' at z ⊢
  rw [Bool.and_eq_true] at z ⊢
  exact ⟨by
    have := List.elem_iff.mp z.1
    refine List.elem_iff.mpr ?_
    simp [fRC] at this ⊢
    omega, z.2⟩), fun k z => by
  have := List.elem_iff.mp z
  simp at this
  omega⟩
theorem Sm.tr {F : List Nat} {a b c : Hp} (p : Sm F a b) (q : Sm F b c) : Sm F a c := ⟨fun k n i z => ⟨(q.1 k n i z).1.trans (p.1 k n i z).1, (q.1 k n i z).2.1.trans (p.1 k n i z).2.1, (q.1 k n i z).2.2.trans (p.1 k n i z).2.2⟩, fun k z => (q.2 k z).trans (p.2 k z)⟩
/-- whom a right seats where -/
noncomputable def brS (g : Hp) (ow : Nat → Int32) (i : Nat) : Int32 := (bst (QB g (opW g ow (nZ i)) (wd g i) 1) (fun s => wS g s (wd g i) (gI g 67 0 i)) (32 * nB g)).1
theorem brS_v {g : Hp} (R : RC g) (P : RP g) (ow : Nat → Int32) {i : Nat} (hi : i < nH g) : brS g ow i = m1 ∨ ∃ s, s < 32 * nB g ∧ brS g ow i = nZ s ∧ runP g (opW g ow (nZ i)) (wd g i) s := by
  obtain ⟨e66, p1, p2, e65, p3, p4, -⟩ := P.w hi
  unfold brS
  rcases bst_v (Q := QB g (opW g ow (nZ i)) (wd g i) 1) (V := fun s => wS g s (wd g i) (gI g 67 0 i)) (fun s hs => (wS_c R (QB_t.mp hs).1 p4).1) (32 * nB g) with z | ⟨s, h1, h2, h3⟩
  · exact Or.inl (by rw [z])
  · exact Or.inr ⟨s, h1, by rw [h3], (QB_t.mp h2).1⟩
def PutAt (st i : Nat) (a w v r : Int32) (c c' : Hp) : Prop := Fr [41, 42, 43, 44, 9004] c c' ∧ (∀ n j, gI c' 41 n j = if n = st ∧ j = i then a else gI c 41 n j) ∧ (∀ n j, gI c' 42 n j = if n = st ∧ j = i then w else gI c 42 n j) ∧ (∀ n j, gI c' 43 n j = if n = st ∧ j = i then v else gI c 43 n j) ∧ (∀ n j, gI c' 44 n j = if n = st ∧ j = i then r else gI c 44 n j) ∧ (∀ n, gI c' 8 n 4 = if n = st then gI c 8 st 4 + 1 else gI c 8 n 4)
theorem put_t {c : Hp} {st i : Nat} {a w v r : Int32} (S : SeatOk c st) (hi : i < 12) (hr : r = 0 ∨ r = 1) : ∃ c', fX8_put st (nZ i) a w v r c = some ((), c') ∧ PutAt st i a w v r c c' := by
  have hib : ib (nZ i) 12 := by rw [nZ_ib (by omega)]; omega
  obtain ⟨c', e⟩ : ∃ y, y = sI (sI (sI (sI (sI c 41 st i a) 42 st i w) 43 st i v) 44 st i r) 8 st 4 (gI c 8 st 4 + 1) := ⟨_, rfl⟩
  refine ⟨c', ?_, ?_, fun n j => ?_, fun n j => ?_, fun n j => ?_, fun n j => ?_, fun n => ?_⟩
  · unfold fX8_put
    simp only [lb_e, gR_sI, mt_s S.1, mt_s S.2.1, mt_s S.2.2.1, mt_s S.2.2.2, gd_p hib, nZ_ix (by omega : i < 2147483648), and1 hr]
    simp (disch := decide) only [gI_o]
    rw [← e]
  · rw [e]
    exact ((((Fr_I _ _ _ _ _ rfl).tr (Fr_I _ _ _ _ _ rfl)).tr (Fr_I _ _ _ _ _ rfl)).tr (Fr_I _ _ _ _ _ rfl)).tr (Fr_I _ _ _ _ _ rfl)
  · rw [e]
    simp (disch := decide) only [gI_o]
    rw [gI_sI]
    by_cases z : n = st ∧ j = i
    · rw [if_pos ⟨rfl, z.1, z.2⟩, if_pos z]
    · rw [if_neg fun y => z y.2, if_neg z]
  · rw [e]
    simp (disch := decide) only [gI_o]
    rw [gI_sI, gI_o (by decide)]
    by_cases z : n = st ∧ j = i
    · rw [if_pos ⟨rfl, z.1, z.2⟩, if_pos z]
    · rw [if_neg fun y => z y.2, if_neg z]
  · rw [e]
    simp (disch := decide) only [gI_o]
    rw [gI_sI, gI_o (by decide), gI_o (by decide)]
    by_cases z : n = st ∧ j = i
    · rw [if_pos ⟨rfl, z.1, z.2⟩, if_pos z]
    · rw [if_neg fun y => z y.2, if_neg z]
  · rw [e]
    rw [gI_o (by decide), gI_sI, gI_o (by decide), gI_o (by decide), gI_o (by decide)]
    by_cases z : n = st ∧ j = i
    · rw [if_pos ⟨rfl, z.1, z.2⟩, if_pos z]
    · rw [if_neg fun y => z y.2, if_neg z]
  · rw [e, gI_sI]
    by_cases z : n = st
    · rw [if_pos ⟨rfl, z, rfl⟩, if_pos z]
    · rw [if_neg fun y => z y.2.1, if_neg z]
      simp (disch := decide) only [gI_o]
/-- a seat, on both sides -/
def Sq (g c m : Hp) (st i : Nat) : Prop := (gI c 41 st i = -1 ∧ gI m 99 0 i = -1) ∨ ∃ b v, gI c 41 st i = nZ (32 * b + v) ∧ gI m 99 0 i = nZ b ∧ gI m 100 0 i = nZ v ∧ gI c 42 st i = nZ (wd g i) ∧ gI c 43 st i = gI m 101 0 i ∧ gI c 44 st i = gI m 104 0 i ∧ (gI m 104 0 i = 0 ∨ gI m 104 0 i = 1) ∧ b < nB g ∧ v + wd g i ≤ un g b
/-- both heaps have g's church and parish, and the owners ow -/
def Bo (g c m : Hp) (ow : Nat → Int32) (st : Nat) : Prop := Sm fRC g c ∧ Sm fRP g c ∧ Sm fRC g m ∧ Sm fRP g m ∧ LT m ∧ SeatOk c st ∧ (∀ s, s < 256 → gI c 53 0 s = ow s ∧ gI m 105 0 s = ow s)
theorem LT_sm {m m' : Hp} (e : Sm fRC m m') (e2 : Sm [93, 94] m m') (T : LT m) : LT m' := fun b u h1 h2 => by
  rw [nB_sm e] at h1
  rw [un_sm e] at h2
  rw [e2.A 93 0 _ (by decide), e2.A 94 0 _ (by decide), se_sm e, e.A 30 0 _ (by decide)]
  exact T b u h1 h2
def wR1 : List Nat := [48, 41, 42, 43, 44, 9004]
/-- what the class does for one household -/
theorem cR_t {g c : Hp} (R : RC g) (P : RP g) {ow : Nat → Int32} {st i : Nat} (hi : i < nH g) (s1 : Sm fRC g c) (s2 : Sm fRP g c) (S : SeatOk c st) (hO : ∀ s, s < 256 → gI c 53 0 s = ow s) : Wp (fX10_seatByRight st (nZ i) c) (fun r c' => (brS g ow i = m1 ∧ r = 0 ∧ Fr [48] c c') ∨ (brS g ow i ≠ m1 ∧ r = 1 ∧ ∃ c1, Fr [48] c c1 ∧ PutAt st i (brS g ow i) (nZ (wd g i)) (wS g (ix (brS g ow i)) (wd g i) (gI g 67 0 i)) 1 c1 c')) := by
  have Rc' := RC_sm s1 R
  have Pc := RP_sm s2 P
  have hH := P.2.2.1
  have eH := nH_sm s2
  obtain ⟨v1, v2, v3, v4⟩ := R.v
  have hw := Pc.w (i := i) (by rw [eH]; exact hi)
  have ewd : wd c i = wd g i := by unfold wd; rw [s2.A 66 0 i (by decide)]
  have e67 : gI c 67 0 i = gI g 67 0 i := s2.A 67 0 i (by decide)
  obtain ⟨e66, p1, p2, e65, p3, p4, q0, q1, q2⟩ := hw
  rw [ewd] at q1 p1 p2
  rw [e67] at q2 p4
  unfold fX10_seatByRight
  rw [bd_s (find4_t Pc (by rw [eH]; exact hi)), mt_s rfl]
  refine wp_call (open_t (g := g) Rc' (nB_sm s1) (un_sm s1) hO) fun _ c1 k => ?_
  have t1 : Sm fRC g c1 := s1.tr (k.1.sm rfl)
  have R1' := RC_sm t1 R
  have eB1 : nB c1 = nB g := nB_sm t1
  have bt := bestRun_t R1' (op := opW g ow (nZ i)) (fun s hs => by rw [← opW_sm t1] at hs; exact (of_decide_eq_true hs).1) (w := wd g i) p1 (by omega) (fun s hs => k.2 s (by rw [eB1] at hs; exact hs)) (gI g 67 0 i) 1
  have ebt : (bst (QB c1 (opW g ow (nZ i)) (wd g i) 1) (fun s => wS c1 s (wd g i) (gI g 67 0 i)) (32 * nB c1)).1 = brS g ow i := by
    unfold brS
    rw [QB_sm t1, eB1, show (fun s => wS c1 s (wd g i) (gI g 67 0 i)) = (fun s => wS g s (wd g i) (gI g 67 0 i)) from funext fun s => wS_sm (sRC_w t1) s _ _]
  rw [ebt] at bt
  rw [k.1.I 2 i 1 rfl, k.1.I 2 i 2 rfl, q1, q2, bd_s bt]
  by_cases z : brS g ow i = m1
  · rw [br_p (show brS g ow i = -1 from z), wp_some]
    exact Or.inl ⟨z, rfl, k.1⟩
  · rw [br_n (show ¬ brS g ow i = -1 from z), k.1.I 2 i 1 rfl, k.1.I 2 i 2 rfl, q1, q2]
    rcases brS_v R P ow hi with y | ⟨s, h1, h2, h3⟩
    · exact absurd y z
    · have ew := worth1 R1' (b := s / 32) (u := s % 32) (w := wd g i) (by rw [eB1]; exact h3.1) p1 (by rw [un_sm t1]; exact h3.2.1) (gI g 67 0 i)
      rw [show 32 * (s / 32) + s % 32 = s by omega, wS_sm (sRC_w t1)] at ew
      rw [h2, bd_s ew]
      obtain ⟨c2, e2, k2⟩ := put_t (c := c1) (st := st) (i := i) (a := nZ s) (w := nZ (wd g i)) (v := wS g s (wd g i) (gI g 67 0 i)) (r := 1) ⟨by rw [k.1.R 8 st 0 rfl]; exact S.1, by rw [k.1.R 8 st 1 rfl]; exact S.2.1, by rw [k.1.R 8 st 2 rfl]; exact S.2.2.1, by rw [k.1.R 8 st 3 rfl]; exact S.2.2.2⟩ (by omega) (Or.inr rfl)
      rw [bd_s e2, wp_some]
      refine Or.inr ⟨fun y => (nZ_m1 (by omega)).mp y, rfl, c1, k.1, ?_⟩
      rw [nZ_ix (by omega)]
      exact k2
/-- what the model does for one household -/
theorem mR_t {g m : Hp} (R : RC g) (P : RP g) {ow : Nat → Int32} {i : Nat} (hi : i < nH g) (s1 : Sm fRC g m) (s2 : Sm fRP g m) (T : LT m) (hO : ∀ s, s < 256 → gI m 105 0 s = ow s) (hS : ∀ s, s < 256 → ow s = nZ i → gI m 106 0 s = 0) : Wp (fX12_byRights (nZ i) m) (fun _ m' => (brS g ow i = m1 ∧ m' = m) ∨ (∃ s, s < 32 * nB g ∧ brS g ow i = nZ s ∧ runP g (opW g ow (nZ i)) (wd g i) s ∧ Fr wTk m m' ∧ (∀ j, gI m' 99 0 j = if j = i then nZ (s / 32) else gI m 99 0 j) ∧ (∀ j, gI m' 100 0 j = if j = i then nZ (s % 32) else gI m 100 0 j) ∧ (∀ j, gI m' 101 0 j = if j = i then wS g s (wd g i) (gI g 67 0 i) else gI m 101 0 j) ∧ (∀ j, gI m' 104 0 j = if j = i then 1 else gI m 104 0 j) ∧ ∀ t, gI m' 106 0 t = if s ≤ t ∧ t < s + wd g i then 1 else gI m 106 0 t)) := by
  have Rm := RC_sm s1 R
  have Pm := RP_sm s2 P
  have eB := nB_sm s1
  have hH := P.2.2.1
  have ewd : wd m i = wd g i := by unfold wd; rw [s2.A 66 0 i (by decide)]
  have e67 : gI m 67 0 i = gI g 67 0 i := s2.A 67 0 i (by decide)
  have him : i < nH m := by rw [nH_sm s2]; exact hi
  obtain ⟨v1, v2, v3, v4⟩ := R.v
  obtain ⟨a2, a3, x, e, k⟩ := by7_L Rm Pm T him FU 0 (-1) 0 (by omega) (by show _ < 100000; have := Rm.v.2.2.1; omega) ⟨rfl, fun z => absurd rfl z, fun _ => rfl⟩
  have eQ : bst (QB m (frM m (nZ i)) (wd m i) 1) (fun s => wS m s (wd m i) (gI m 67 0 i)) (32 * nB m) = bst (QB g (opW g ow (nZ i)) (wd g i) 1) (fun s => wS g s (wd g i) (gI g 67 0 i)) (32 * nB g) := by
    rw [ewd, e67, eB, QB_sm s1]
    refine bst_ext fun s hs => ⟨?_, fun _ => wS_sm (sRC_w s1) _ _ _⟩
    have : (runP g (frM m (nZ i)) (wd g i) s ∧ galOk g 1 s) ↔ (runP g (opW g ow (nZ i)) (wd g i) s ∧ galOk g 1 s) := by
      unfold runP
      refine ⟨fun y => ⟨⟨y.1.1, y.1.2.1, fun j hj => ?_⟩, y.2⟩, fun y => ⟨⟨y.1.1, y.1.2.1, fun j hj => ?_⟩, y.2⟩⟩
      · have w := of_decide_eq_true (y.1.2.2 j hj)
        have u32 := (v4 (s / 32) y.1.1).2.2.2
        have y2 := y.1.2.1
        refine decide_eq_true ⟨⟨?_, ?_⟩, ?_⟩
        · rw [show (s + j) / 32 = s / 32 by omega]
          exact y.1.1
        · rw [show (s + j) / 32 = s / 32 by omega]
          omega
        · rw [← hO (s + j) (by omega)]
          exact w.2
      · have w := of_decide_eq_true (y.1.2.2 j hj)
        have u32 := (v4 (s / 32) y.1.1).2.2.2
        have y2 := y.1.2.1
        exact decide_eq_true ⟨hS (s + j) (by omega) w.2, by rw [hO (s + j) (by omega)]; exact w.2⟩
    cases z : QB g (opW g ow (nZ i)) (wd g i) 1 s with
    | true => exact QB_t.mpr (this.mpr (QB_t.mp z))
    | false => exact QB_f.mpr fun y => QB_f.mp z (this.mp y)
  rw [eQ] at k
  unfold fX12_byRights
  rw [bd_s (show fX12_byRights_L7 FU (nZ i) (-1) 0 0 m = _ from e)]
  simp only [lb_e]
  have ea : a2 = brS g ow i := k.1
  rw [ea]
  rcases brS_v R P ow hi with y | ⟨s, h1, h2, h3⟩
  · rw [br_p (show brS g ow i = -1 from y), wp_some]
    exact Or.inl ⟨y, rfl⟩
  · rw [h2, br_n (show ¬ nZ s = -1 from fun y => (nZ_m1 (by omega)).mp y), nZ_d32 (by omega), nZ_m32 (by omega)]
    refine wp_call (takes_t Rm Pm T (Or.inr rfl) him (b := s / 32) (v := s % 32) (by rw [eB]; exact h3.1) (by rw [ewd, un_sm s1]; exact h3.2.1)) fun _ m' w => wp_some.mpr (Or.inr ⟨s, h1, rfl, h3, w.1, w.2.1, w.2.2.1, ?_, w.2.2.2.2.1, ?_⟩)
    · intro j
      rw [w.2.2.2.1 j, ewd, e67, wS_sm (sRC_w s1), show 32 * (s / 32) + s % 32 = s by omega]
    · intro t
      rw [w.2.2.2.2.2 t, ewd, show 32 * (s / 32) + s % 32 = s by omega]
