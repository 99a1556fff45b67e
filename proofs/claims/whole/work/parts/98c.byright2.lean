/-! ===== level 2: seats by right, all households ===== -/
noncomputable def nbB (g : Hp) (ow : Nat → Int32) (o : Nat → Nat) (j : Nat) : Bool := decide (brS g ow (o j) = m1)
/-- the other seatings are as in c0 -/
def Oth (st : Nat) (c0 c : Hp) : Prop := ∀ n, n ≠ st → (∀ j, gI c 41 n j = gI c0 41 n j) ∧ (∀ j, gI c 42 n j = gI c0 42 n j) ∧ (∀ j, gI c 43 n j = gI c0 43 n j) ∧ (∀ j, gI c 44 n j = gI c0 44 n j) ∧ gI c 8 n 4 = gI c0 8 n 4
theorem Oth_fr {st : Nat} {c0 c c' : Hp} (O : Oth st c0 c) (e : Sm [41, 42, 43, 44, 9004] c c') : Oth st c0 c' := fun n hn => by
  obtain ⟨o1, o2, o3, o4, o5⟩ := O n hn
  exact ⟨fun j => by rw [e.A 41 n j (by decide)]; exact o1 j, fun j => by rw [e.A 42 n j (by decide)]; exact o2 j, fun j => by rw [e.A 43 n j (by decide)]; exact o3 j, fun j => by rw [e.A 44 n j (by decide)]; exact o4 j, by rw [e.I 8 n 4 (by decide)]; exact o5⟩
theorem Oth_put {st i : Nat} {a w v r : Int32} {c0 c c' : Hp} (O : Oth st c0 c) (p : PutAt st i a w v r c c') : Oth st c0 c' := fun n hn => by
  obtain ⟨o1, o2, o3, o4, o5⟩ := O n hn
  obtain ⟨-, p1, p2, p3, p4, p5⟩ := p
  exact ⟨fun j => by rw [p1, if_neg fun z => hn z.1]; exact o1 j, fun j => by rw [p2, if_neg fun z => hn z.1]; exact o2 j, fun j => by rw [p3, if_neg fun z => hn z.1]; exact o3 j, fun j => by rw [p4, if_neg fun z => hn z.1]; exact o4 j, by rw [p5, if_neg hn]; exact o5⟩
/-- the seats of those that have had their turn, and of the others -/
def SqR (g : Hp) (ow : Nat → Int32) (st n : Nat) (o : Nat → Nat) (c m : Hp) (k : Nat) : Prop := (∀ i, i < 12 → (∀ j, j < k → o j ≠ i) → gI c 41 st i = -1 ∧ (i < nH g → gI m 99 0 i = -1)) ∧ (∀ j, j < k → (nbB g ow o j = true → gI c 41 st (o j) = -1 ∧ gI m 99 0 (o j) = -1) ∧ (nbB g ow o j = false → ∃ s, s < 32 * nB g ∧ brS g ow (o j) = nZ s ∧ gI c 41 st (o j) = nZ s ∧ gI m 99 0 (o j) = nZ (s / 32) ∧ gI m 100 0 (o j) = nZ (s % 32) ∧ gI c 42 st (o j) = nZ (wd g (o j)) ∧ gI c 43 st (o j) = gI m 101 0 (o j) ∧ gI c 44 st (o j) = 1 ∧ gI m 104 0 (o j) = 1 ∧ runP g (opW g ow (nZ (o j))) (wd g (o j)) s))
def CiR (g : Hp) (ow : Nat → Int32) (st n : Nat) (o : Nat → Nat) (c0 c m : Hp) (k : Nat) : Prop := Bo g c m ow st ∧ OrdS c m n (nH g) o ∧ gI c 10 0 5 = nZ (cnt (nbB g ow o) k) ∧ (∀ j, j < k → nbB g ow o j = true → gI c 50 0 (cnt (nbB g ow o) j) = nZ (o j)) ∧ SqR g ow st n o c m k ∧ (∀ s, s < 256 → gI m 106 0 s ≠ 0 → ∃ j, j < k ∧ ow s = nZ (o j)) ∧ gI c 8 st 4 = nZ (cnt (fun i => !decide (gI m 99 0 i = -1)) (nH g)) ∧ Oth st c0 c
theorem Bo_fr {g c c' m m' : Hp} {ow : Nat → Int32} {st : Nat} {W V : List Nat} (B : Bo g c m ow st) (f1 : Fr W c c') (f2 : Fr V m m') (h1 : fRC.all (fun c => !W.elem c) = true) (h2 : fRP.all (fun c => !W.elem c) = true) (h3 : fRC.all (fun c => !V.elem c) = true) (h4 : fRP.all (fun c => !V.elem c) = true) (h5 : [93, 94, 105].all (fun c => !V.elem c) = true) (h6 : [9000, 9001, 9002, 9003, 53].all (fun c => !W.elem c) = true) : Bo g c' m' ow st := by
  obtain ⟨b1, b2, b3, b4, b5, b6, b7⟩ := B
  have e5 : Sm [93, 94, 105] m m' := f2.sm h5
  have e6 : Sm [9000, 9001, 9002, 9003, 53] c c' := f1.sm h6
  refine ⟨b1.tr (f1.sm h1), b2.tr (f1.sm h2), b3.tr (f2.sm h3), b4.tr (f2.sm h4), fun b u q1 q2 => ?_, ⟨by rw [e6.R 8 st 0 (by decide)]; exact b6.1, by rw [e6.R 8 st 1 (by decide)]; exact b6.2.1, by rw [e6.R 8 st 2 (by decide)]; exact b6.2.2.1, by rw [e6.R 8 st 3 (by decide)]; exact b6.2.2.2⟩, fun s hs => ⟨by rw [e6.A 53 0 s (by decide)]; exact (b7 s hs).1, by rw [e5.A 105 0 s (by decide)]; exact (b7 s hs).2⟩⟩
  have s3 : Sm fRC m m' := f2.sm h3
  rw [nB_sm s3] at q1
  rw [un_sm s3] at q2
  rw [e5.A 93 0 _ (by decide), e5.A 94 0 _ (by decide), se_sm s3, s3.A 30 0 _ (by decide)]
  exact b5 b u q1 q2
theorem cnt_upd {p q : Nat → Bool} {i : Nat} : ∀ {n : Nat}, i < n → (∀ j, j ≠ i → q j = p j) → p i = false → q i = true → cnt q n = cnt p n + 1 := by
  intro n
  induction n with
  | zero => intro h; omega
  | succ n ih =>
    intro hi h hp hq
    by_cases z : i = n
    · subst z
      rw [cnt_t hq, cnt_f (by rw [hp]; decide), cnt_ext fun j hj => h j (by omega)]
    · rw [cnt, cnt, ih (by omega) h hp hq, h n (by omega)]
      omega
def wRc : List Nat := [48, 50, 11005, 41, 42, 43, 44, 9004]
theorem rt_L {g : Hp} (R : RC g) (P : RP g) {ow : Nat → Int32} {st n : Nat} {o : Nat → Nat} {c0 : Hp} (a3 : Int32) (hn : n ≤ nH g) : ∀ (f k : Nat) (c m : Hp), k ≤ n → n - k < f → CiR g ow st n o c0 c m k → ∃ v c' w m', fX10_seatAll_L25 f st a3 (nZ n) (nZ k) c = some (v, c') ∧ fX12_seats_L190 f (nZ n) (nZ k) m = some (w, m') ∧ CiR g ow st n o c0 c' m' n ∧ Fr wRc c c' ∧ Fr wTk m m' := by
  have hH := P.2.2.1
  obtain ⟨v1, v2, v3, v4⟩ := R.v
  intro f
  induction f with
  | zero => intro k c m _ q; omega
  | succ f ih =>
    intro k c m hk hf K
    obtain ⟨B, O, w5, w50, SQ, S6, s4, Ot⟩ := K
    obtain ⟨b1, b2, b3, b4, b5, b6, b7⟩ := id B
    rw [fX10_seatAll_L25, fX12_seats_L190]
    simp (disch := omega) only [lb_e, nZ_le, nZ_suc, nZ_ib, nZ_ix]
    by_cases q : k = n
    · subst q
      rw [br_p (by omega), br_p (by omega)]
      exact ⟨_, c, _, m, rfl, rfl, ⟨B, O, w5, w50, SQ, S6, s4, Ot⟩, Fr.rf _ _, Fr.rf _ _⟩
    · obtain ⟨o1, o2, o3, o4⟩ := O.1 k (by omega)
      simp only [gd_p (by omega : k < 12)]
      rw [br_n (by omega), br_n (by omega), o1, o2]
      obtain ⟨r, c1, ec, kc⟩ := cR_t R P (ow := ow) (st := st) o3 b1 b2 b6 (fun s hs => (b7 s hs).1)
      obtain ⟨rm, m1', em, km⟩ := mR_t R P (ow := ow) o3 b3 b4 b5 (fun s hs => (b7 s hs).2) (fun s hs hq => Classical.byContradiction fun z => by
        obtain ⟨j, hj, ej⟩ := S6 s hs z
        rw [hq] at ej
        have := (O.1 j (by omega)).2.2.1
        rw [nZ_eq (by omega) (by omega)] at ej
        have := O.2 k j (by omega) (by omega) ej
        omega)
      rw [bd_s ec, bd_s em]
      have fresh : ∀ j, j < k → o j ≠ o k := fun j hj e => by have := O.2 j k (by omega) (by omega) e; omega
      rcases kc with ⟨z1, z2, f1⟩ | ⟨z1, z2, cx, fx, pt⟩
      · -- no run by right
        have em1 : m1' = m := by
          rcases km with y | ⟨s, y1, y2, -⟩
          · exact y.2
          · rw [y2] at z1
            exact absurd z1 fun y => (nZ_m1 (by omega)).mp y
        have hnb : nbB g ow o k = true := decide_eq_true z1
        have hcl := cnt_le (nbB g ow o) k
        rw [z2, br_p rfl, f1.I 10 0 5 rfl, w5, f1.A 49 0 k rfl, o1, gI_o (by decide), f1.I 10 0 5 rfl, w5]
        simp (disch := omega) only [nZ_ib, nZ_ix, nZ_suc]
        rw [gd_p (by omega), em1]
        obtain ⟨c2, e2⟩ : ∃ y, y = sI (sI c1 50 0 (cnt (nbB g ow o) k) (nZ (o k))) 10 0 5 (nZ (cnt (nbB g ow o) k + 1)) := ⟨_, rfl⟩
        have f2 : Fr wRc c c2 := (f1.wk rfl).tr (by rw [e2]; exact (Fr_I _ _ _ _ _ rfl).tr (Fr_I _ _ _ _ _ rfl))
        have f2' : Fr [48, 50, 11005] c c2 := (f1.wk rfl).tr (by rw [e2]; exact (Fr_I _ _ _ _ _ rfl).tr (Fr_I _ _ _ _ _ rfl))
        rw [← e2]
        have K' : CiR g ow st n o c0 c2 m (k + 1) := by
          refine ⟨Bo_fr B f2' (Fr.rf [] m) rfl rfl rfl rfl rfl rfl, ⟨fun j hj => ?_, O.2⟩, ?_, fun j hj hnj => ?_, ⟨fun i hi hx => ?_, fun j hj => ?_⟩, fun s hs hq => ?_, ?_, Oth_fr Ot (f2'.sm rfl)⟩
          · rw [f2'.A 49 0 j rfl, f2'.A 68 0 _ rfl]
            exact O.1 j hj
          · rw [e2, gI_q, cnt_t hnb]
          · rw [e2, gI_o (by decide), gI_a]
            by_cases y : j = k
            · rw [y, if_pos rfl]
            · have lt : cnt (nbB g ow o) j < cnt (nbB g ow o) k := by
                have h1 := cnt_t (p := nbB g ow o) (n := j) hnj
                have h2 := cnt_mono (nbB g ow o) (a := j + 1) (b := k) (by omega)
                omega
              rw [if_neg (by omega), f1.A 50 0 _ rfl]
              exact w50 j (by omega) hnj
          · rw [f2'.A 41 st i rfl]
            exact SQ.1 i hi fun j hj => hx j (by omega)
          · rw [f2'.A 41 st _ rfl, f2'.A 42 st _ rfl, f2'.A 43 st _ rfl, f2'.A 44 st _ rfl]
            by_cases y : j = k
            · rw [y]
              refine ⟨fun _ => ?_, fun hf => by rw [hnb] at hf; cases hf⟩
              have := SQ.1 (o k) (by omega) fresh
              exact ⟨this.1, this.2 o3⟩
            · exact SQ.2 j (by omega)
          · obtain ⟨j, hj, ej⟩ := S6 s hs hq
            exact ⟨j, by omega, ej⟩
          · rw [f2'.I 8 st 4 rfl]
            exact s4
        obtain ⟨v, c', w, m', g1, g2, g3, g4, g5⟩ := ih (k + 1) c2 m (by omega) (by omega) K'
        exact ⟨v, c', w, m', g1, g2, g3, f2.tr g4, g5⟩
      · -- a run by right
        have hnb : nbB g ow o k = false := by
          unfold nbB
          rw [decide_eq_false_iff_not]
          exact z1
        rcases km with y | ⟨s, y1, y2, y3, fm, t99, t100, t101, t104, t106⟩
        · exact absurd y.1 z1
        · rw [z2, br_n (by decide)]
          rw [y2, nZ_ix (by omega)] at pt
          have f2 : Fr wR1 c c1 := (fx.wk rfl).tr (pt.1.wk rfl)
          obtain ⟨pf, p41, p42, p43, p44, p84⟩ := id pt
          have K' : CiR g ow st n o c0 c1 m1' (k + 1) := by
            refine ⟨Bo_fr B f2 fm rfl rfl rfl rfl rfl rfl, ⟨fun j hj => ?_, O.2⟩, ?_, fun j hj hnj => ?_, ⟨fun i hi hx => ?_, fun j hj => ?_⟩, fun t ht hq => ?_, ?_, Oth_put (Oth_fr Ot (fx.sm rfl)) pt⟩
            · rw [f2.A 49 0 j rfl, fm.A 102 0 j rfl, f2.A 68 0 _ rfl]
              exact O.1 j hj
            · rw [f2.I 10 0 5 rfl, w5, cnt_f (by rw [hnb]; decide)]
            · rw [f2.A 50 0 _ rfl]
              refine w50 j ?_ hnj
              by_cases y : j = k
              · rw [y, hnb] at hnj
                cases hnj
              · omega
            · have hxk := hx k (by omega)
              rw [p41, if_neg fun z => hxk z.2.symm, fx.A 41 st i rfl, t99, if_neg fun z => hxk z.symm]
              exact SQ.1 i hi fun j hj => hx j (by omega)
            · by_cases y : j = k
              · rw [y]
                refine ⟨fun hf => (by rw [hnb] at hf; cases hf), fun _ => ⟨s, y1, y2, ?_, ?_, ?_, ?_, ?_, ?_, ?_, y3⟩⟩
                · rw [p41, if_pos ⟨rfl, rfl⟩]
                · rw [t99, if_pos rfl]
                · rw [t100, if_pos rfl]
                · rw [p42, if_pos ⟨rfl, rfl⟩]
                · rw [p43, if_pos ⟨rfl, rfl⟩, t101, if_pos rfl]
                · rw [p44, if_pos ⟨rfl, rfl⟩]
                · rw [t104, if_pos rfl]
              · have hne := fresh j (by omega)
                rw [p41, if_neg fun z => hne z.2, p42, if_neg fun z => hne z.2, p43, if_neg fun z => hne z.2, p44, if_neg fun z => hne z.2, t99, if_neg hne, t100, if_neg hne, t101, if_neg hne, t104, if_neg hne, fx.A 41 st _ rfl, fx.A 42 st _ rfl, fx.A 43 st _ rfl, fx.A 44 st _ rfl]
                exact SQ.2 j (by omega)
            · rw [t106] at hq
              by_cases y : s ≤ t ∧ t < s + wd g (o k)
              · have := of_decide_eq_true (y3.2.2 (t - s) (by omega))
                rw [show s + (t - s) = t by omega] at this
                exact ⟨k, by omega, this.2⟩
              · rw [if_neg y] at hq
                obtain ⟨j, hj, ej⟩ := S6 t ht hq
                exact ⟨j, by omega, ej⟩
            · rw [p84, if_pos rfl, fx.I 8 st 4 rfl, s4, nZ_suc]
              congr 1
              refine (cnt_upd (i := o k) o3 (fun j hj => ?_) ?_ ?_).symm
              · rw [t99, if_neg hj]
              · rw [((SQ.1 (o k) (by omega) fresh).2 o3)]
                rfl
              · rw [t99, if_pos rfl]
                have : ¬ nZ (s / 32) = -1 := fun y => (nZ_m1 (by omega)).mp y
                simp [this]
          obtain ⟨v, c', w, m', g1, g2, g3, g4, g5⟩ := ih (k + 1) c1 m1' (by omega) (by omega) K'
          exact ⟨v, c', w, m', g1, g2, g3, (f2.wk rfl).tr g4, fm.tr g5⟩
theorem rest_L {g : Hp} (P : RP g) {ow : Nat → Int32} {n : Nat} {o : Nat → Nat} (hn : n ≤ nH g) : ∀ (f k : Nat) (m : Hp), k ≤ n → n - k < f → (∀ j, j < n → gI m 102 0 j = nZ (o j) ∧ o j < nH g ∧ (gI m 99 0 (o j) = -1 ↔ nbB g ow o j = true)) → (∀ j, j < k → nbB g ow o j = true → gI m 103 0 (cnt (nbB g ow o) j) = nZ (o j)) → ∃ v m', fX12_seats_L216 f (nZ n) (nZ (cnt (nbB g ow o) k)) (nZ k) m = some ((nZ (cnt (nbB g ow o) n), v), m') ∧ Fr [103] m m' ∧ ∀ j, j < n → nbB g ow o j = true → gI m' 103 0 (cnt (nbB g ow o) j) = nZ (o j) := by
  have hH := P.2.2.1
  intro f
  induction f with
  | zero => intro k m _ q; omega
  | succ f ih =>
    intro k m hk hf K J
    have hcl := cnt_le (nbB g ow o) k
    rw [fX12_seats_L216]
    simp (disch := omega) only [lb_e, nZ_le, nZ_suc, nZ_ib, nZ_ix]
    by_cases q : k = n
    · subst q
      rw [br_p (by omega)]
      exact ⟨_, m, rfl, Fr.rf _ _, J⟩
    · obtain ⟨k1, k2, k3⟩ := K k (by omega)
      simp only [gd_p (by omega : k < 12), k1, nZ_ix (by omega : o k < 2147483648), gd_p (by omega : cnt (nbB g ow o) k < 12)]
      rw [br_n (by omega), gd_p (by rw [nZ_ib (by omega)]; omega)]
      by_cases z : nbB g ow o k = true
      · rw [br_p (k3.mpr z)]
        have f1 : Fr [103] m (sI m 103 0 (cnt (nbB g ow o) k) (nZ (o k))) := Fr_I _ _ _ _ _ rfl
        obtain ⟨v, m', g1, g2, g3⟩ := ih (k + 1) _ (by omega) (by omega) (fun j hj => by rw [f1.A 102 0 j rfl, f1.A 99 0 _ rfl]; exact K j hj) (fun j hj hnj => by
          rw [gI_a]
          by_cases y : j = k
          · rw [y, if_pos rfl]
          · have lt : cnt (nbB g ow o) j < cnt (nbB g ow o) k := by
              have h1 := cnt_t (p := nbB g ow o) (n := j) hnj
              have h2 := cnt_mono (nbB g ow o) (a := j + 1) (b := k) (by omega)
              omega
            rw [if_neg (by omega)]
            exact J j (by omega) hnj)
        rw [cnt_t z] at g1
        exact ⟨v, m', g1, f1.tr g2, g3⟩
      · rw [br_n fun y => z (k3.mp y)]
        have := ih (k + 1) m (by omega) (by omega) K (fun j hj hnj => J j (by
          by_cases y : j = k
          · rw [y] at hnj; exact absurd hnj z
          · omega) hnj)
        rw [cnt_f z] at this
        exact this
