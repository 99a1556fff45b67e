/-! ===== level 2: rings: the rounds, in step ===== -/
theorem cnt_sub {p r : Nat → Bool} : ∀ {n : Nat}, (∀ j, j < n → r j = true → p j = true) → cnt (fun j => p j && !r j) n + cnt r n = cnt p n := by
  intro n
  induction n with
  | zero => intro _; rfl
  | succ n ih =>
    intro h
    have i1 := ih fun j hj => h j (by omega)
    by_cases a : r n = true
    · have b := h n (by omega) a
      rw [cnt_f (show ¬ (p n && !r n) = true by rw [a]; simp), cnt_t a, cnt_t b]
      omega
    · by_cases b : p n = true
      · rw [cnt_t (p := fun j => p j && !r j) (show (p n && !r n) = true by simp [a, b]), cnt_f a, cnt_t b]
        omega
      · rw [cnt_f (show ¬ (p n && !r n) = true by simp [b]), cnt_f a, cnt_f b]
        exact i1
theorem cnt_st {p : Nat → Bool} {H : Nat} : ∀ n, H ≤ n → (∀ j, H ≤ j → j < n → p j = false) → cnt p n = cnt p H := by
  intro n
  induction n with
  | zero => intro h _; rw [Nat.le_zero.mp h]
  | succ n ih =>
    intro h1 h2
    by_cases e : H = n + 1
    · rw [e]
    · rw [cnt_f (by rw [h2 n (by omega) (by omega)]; simp)]
      exact ih (by omega) fun j a b => h2 j a (by omega)
theorem cnt_pos {p : Nat → Bool} {i n : Nat} (hi : i < n) (h : p i = true) : 1 ≤ cnt p n := by
  have := cnt_mono p (show i + 1 ≤ n by omega)
  rw [cnt_t h] at this
  omega
theorem rounds_L {h g : Hp} {s H : Nat} {w : Nat → Nat → Int32} {L0 : Int32} (P : RP h) (eH : nH h = H) (e8 : gI g 12 0 8 = nZ H)
    (hwc : ∀ c, Fr [36, 37] h c → ∀ i j, i < 12 → j < 12 → bt L0 i = true → bt L0 j = true → fX6_worthOfRun i (nZ j) s c = some (w i j, c))
    (hwm : ∀ m, Fr [108, 109, 110, 111] g m → ∀ i j, i < H → j < H → bt L0 i = true → bt L0 j = true → fX12_likes (nZ i) (nZ j) m = some (w i j, m))
    (hL0 : ∀ j, H ≤ j → j < 32 → bt L0 j = false) :
    ∀ n n' k L A c m, 12 - k < n → 12 < n' + k → cnt (bt L) H + k ≤ 12 → (∀ j, j < 32 → bt L j = true → bt L0 j = true) → Fr [36, 37] h c → Fr [108, 109, 110, 111] g m → Lo L H m → (∀ i, i < 12 → gI c 37 0 i = gI m 109 0 i) →
    ∃ r r' v c' m', fX6_turn_L69 n s L (nZ A) (nZ k) c = some ((r, v, r'), c') ∧ (∃ x, fX12_change_L162 n' (nZ (cnt (bt L) H)) (nZ A) m = some ((x, v), m')) ∧ Fr [36, 37] h c' ∧ Fr [108, 109, 110, 111] g m' ∧ ∀ i, i < 12 → gI c' 37 0 i = gI m' 109 0 i := by
  have hH : H ≤ 12 := by rw [← eH]; exact P.2.2.1
  intro n
  induction n with
  | zero => intro n' k L A c m q; omega
  | succ n ih =>
    intro n' k L A c m hn hn' hc hL fc fm lo e
    obtain ⟨n', rfl⟩ : ∃ a, n' = a + 1 := ⟨n' - 1, by omega⟩
    have hL' : ∀ j, H ≤ j → j < 32 → bt L j = false := fun j a b => by
      cases z : bt L j
      · rfl
      · have := hL j b z
        rw [hL0 j a b] at this
        cases this
    rw [fX6_turn_L69, fX12_change_L162]
    simp (disch := omega) only [lb_e, nZ_12, nZ_le, nZ_suc, nZ_z, show (0 : Int32) = nZ 0 from rfl]
    by_cases z : L = nZ 0
    · have c0 : cnt (bt L) H = 0 := cnt_0 fun i _ => by rw [z]; exact b_0 i
      rw [br_p (show cnt (bt L) H ≤ 0 by omega)]
      refine ⟨L, nZ k, nZ A, c, m, ?_, ⟨_, rfl⟩, fc, fm, e⟩
      by_cases y : 12 ≤ k
      · rw [br_p y]
      · rw [br_n y, br_p z]
    · have ex : ∃ i, i < H ∧ bt L i = true := by
        refine Classical.byContradiction fun y => z (b_ext fun i hi => ?_)
        rw [show nZ 0 = 0 from rfl, b_0]
        cases x : bt L i
        · rfl
        · refine absurd ⟨i, ?_, x⟩ y
          refine Nat.lt_of_not_le fun a => ?_
          rw [hL' i a hi] at x
          cases x
      obtain ⟨i, hi, bi⟩ := ex
      have cp := cnt_pos hi bi
      rw [br_n (show ¬ 12 ≤ k by omega), br_n z, br_n (show ¬ cnt (bt L) H ≤ 0 by omega)]
      obtain ⟨F, eF⟩ : ∃ F, F = fvo w L := ⟨_, rfl⟩
      have hF : ∀ i, i < 12 → bt L i = true → bt L (F i) = true ∧ F i < 12 := fun i hi bi => by
        rw [eF]
        exact fa_in (w i) L i bi hi 12 (Nat.le_refl _)
      have lt : ∀ j, j < 12 → bt L j = true → j < H := fun j hj bj => Nat.lt_of_not_le fun a => by rw [hL' j a (by omega)] at bj; cases bj
      -- the class
      obtain ⟨x1, c1, d1, f1, k1⟩ := look_L (s := s) (w := w) (L := L) P (fun j hj bj => by rw [eH]; exact lt j hj bj) (fun c fc i j hi hj bi bj => hwc c fc i j hi hj (hL i (by omega) bi) (hL j (by omega) bj)) FU 0 c (by omega) (by show _ < 100000; omega) fc (fun i hi => by omega)
      rw [← eF] at k1
      have d1' : fX6_lookRound L s c = some ((), c1) := by
        unfold fX6_lookRound
        rw [bd_s (show fX6_lookRound_L2 FU L s 0 c = _ from d1)]
      obtain ⟨r, d2, k2⟩ := ringed_t hF k1
      obtain ⟨x3, c3, d3, f3, k3⟩ := letgo_L (r := r) hF (fun i hi => by rw [k2 i (by omega)]; simp [hi]) FU 0 c1 (by omega) (by show _ < 100000; omega) k1
      have d3' : fX6_letGo r c1 = some (nZ (cnt (moB F L) 12), c3) := by
        unfold fX6_letGo
        rw [bd_s (show fX6_letGo_L4 FU r 0 0 c1 = _ from d3)]
        rfl
      -- the reference
      obtain ⟨y1, m1', g1, q1, j1⟩ := l169_L (w := w) (L := L) hH (fun j a b => hL' j a (by omega)) (fun m fm i j hi hj bi bj => hwm m fm i j hi hj (hL i (by omega) bi) (hL j (by omega) bj)) e8 (nZ (cnt (bt L) H)) (nZ A) FU 0 m (by omega) (by show _ < 100000; omega) fm lo (fun i hi => by omega)
      rw [← eF] at j1
      have j1' : ∀ i, i < 12 → bt L i = true → gI m1' 108 0 i = nZ (F i) := fun i hi bi => j1 i (lt i hi bi) bi
      have fm1 : Fr [108, 109, 110, 111] g m1' := fm.tr (q1.wk rfl)
      obtain ⟨y2, m2, g2, q2, j2⟩ := l203_L (L := L) hH hF (nZ (cnt (bt L) H)) (nZ A) FU 0 m1' (by omega) (by show _ < 100000; omega) (by rw [fm1.I 12 0 8 rfl]; exact e8) (fun j hj => by rw [q1.A 110 0 j rfl]; exact lo j hj) j1' (fun i hi => by omega)
      have fm2 : Fr [108, 109, 110, 111] g m2 := fm1.tr (q2.wk rfl)
      have rL : ∀ j, rgB F L j = true → bt L j = true := fun j hj => by
        unfold rgB at hj
        rw [Bool.and_eq_true] at hj
        exact hj.1
      have cs := cnt_sub (p := bt L) (r := rgB F L) (n := H) fun j _ => rL j
      have cH := cnt_le (bt L) H
      obtain ⟨y3, m3, g3, q3, j3⟩ := l252_L (A := A) hH (show cnt (rgB F L) H ≤ cnt (bt L) H by omega) (by omega) hF FU 0 m2 (by omega) (by show _ < 100000; omega) (by rw [fm2.I 12 0 8 rfl]; exact e8) (fun i hi bi => by rw [q2.A 108 0 i rfl]; exact j1' i hi bi) j2
      have fm3 : Fr [108, 109, 110, 111] g m3 := fm2.tr (q3.wk rfl)
      have fc3 : Fr [36, 37] h c3 := (fc.tr (f1.wk rfl)).tr (f3.wk rfl)
      have bn : ∀ j, j < 32 → bt (L &&& (r ^^^ (-1))) j = (bt L j && !(rgB F L j && decide (j < 12))) := fun j hj => by rw [tbn hj, k2 j hj]
      have cn : cnt (bt (L &&& (r ^^^ (-1)))) H = cnt (bt L) H - cnt (rgB F L) H := by
        rw [show cnt (bt (L &&& (r ^^^ (-1)))) H = cnt (fun j => bt L j && !rgB F L j) H from cnt_ext fun j hj => by rw [bn j (by omega)]; simp [show j < 12 by omega]]
        omega
      have rp : 1 ≤ cnt (rgB F L) H := by
        obtain ⟨j, h1, h2⟩ := rng_ex hF (by omega : i < 12) bi
        exact cnt_pos (lt j h1 (rL j h2)) h2
      have cm : cnt (moB F L) 12 = cnt (moB F L) H := cnt_st 12 hH fun j a b => by
        unfold moB rgB
        rw [hL' j a (by omega)]
        rfl
      have lo3 : Lo (L &&& (r ^^^ (-1))) H m3 := fun j hj => by
        rw [bn j (by omega)]
        by_cases y : rgB F L j = true
        · rw [((j3 j).1 ⟨by omega, hj, y⟩).2, y]
          simp [show j < 12 by omega]
        · rw [((j3 j).2 fun x => y x.2.2).2, q2.A 110 0 j rfl, q1.A 110 0 j rfl, lo j hj]
          simp [y]
      obtain ⟨a1, a2, a3, c', m', b1, ⟨b2', b3⟩, b4, b5, b6⟩ := ih n' (k + 1) (L &&& (r ^^^ (-1))) (A + cnt (moB F L) H) c3 m3 (by omega) (by omega) (by omega) (fun j hj bj => by
        rw [bn j hj, Bool.and_eq_true] at bj
        exact hL j hj bj.1) fc3 fm3 lo3 (fun i hi => by
        rw [k3 i]
        by_cases y : rgB F L i = true
        · rw [if_pos ⟨by omega, hi, y⟩, ((j3 i).1 ⟨by omega, lt i hi (rL i y), y⟩).1]
        · rw [if_neg fun x => y x.2.2, ((j3 i).2 fun x => y x.2.2).1, f1.A 37 0 i rfl, e i hi, q2.A 109 0 i rfl, q1.A 109 0 i rfl])
      refine ⟨a1, a2, a3, c', m', ?_, ⟨b2', ?_⟩, b4, b5, b6⟩
      · rw [bd_s d1', bd_s d2, bd_s d3', cm, nZ_add]
        exact b1
      · rw [cn] at b3
        rw [bd_s (show fX12_change_L169 FU (nZ (cnt (bt L) H)) (nZ A) (nZ 0) m = _ from g1), bd_s (show fX12_change_L203 FU (nZ (cnt (bt L) H)) (nZ A) (nZ 0) m1' = _ from g2), bd_s (show fX12_change_L252 FU (nZ (cnt (bt L) H)) (nZ A) (nZ 0) m2 = _ from g3)]
        exact b3
