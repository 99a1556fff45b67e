/-! ===== level 2: sunday: one after the other ===== -/
/-- where one who comes sits, and what is taken by that -/
def Upd (w : Nat) (X : Int32) (c c' : Hp) : Prop := (X = m1 ∧ Fr [46, 48] c c' ∧ ∀ t, gI c' 46 0 t = gI c 46 0 t) ∨ (∃ s, X = nZ s ∧ s + w ≤ 256 ∧ s < 256 ∧ Fr [46, 48] c c' ∧ ∀ t, gI c' 46 0 t = if s ≤ t ∧ t < s + w then 1 else gI c 46 0 t)
theorem takeX {g c : Hp} {w : Nat} {X : Int32} (hw : 1 ≤ w) (hX : X = m1 ∨ ∃ s, X = nZ s ∧ s < 32 * nB g ∧ s + w ≤ 256) {c0 : Hp} (f : Fr [48] c0 c) : ∃ c', fX9_take X (nZ w) c = some (X, c') ∧ Upd w X c0 c' := by
  rcases hX with z | ⟨s, z1, z2, z3⟩
  · refine ⟨c, ?_, Or.inl ⟨z, f.wk rfl, fun t => f.A 46 0 t rfl⟩⟩
    unfold fX9_take
    rw [br_p (show X = -1 from z)]
  · obtain ⟨c', e, f1, k⟩ := take_t (a := s) (w := w) z3 c
    rw [z1]
    refine ⟨c', e, Or.inr ⟨s, rfl, z3, by omega, (f.wk rfl).tr (f1.wk rfl), fun t => ?_⟩⟩
    rw [k t, f.A 46 0 t rfl]
theorem strP {g c m : Hp} (R : RC g) {low : Int32} (K : Hs g c m low) {w : Nat} (hw : 1 ≤ w) (hw2 : w ≤ 12) {ah any : Int32} (ha : ah = 0 ↔ any ≠ 0) : ∃ X c', fX9_seatStranger (nZ w) ah c = some (X, c') ∧ Upd w X c c' ∧ fX12_bestRun (nZ w) 0 0 any m = some (X, m) := by
  obtain ⟨c1, X, e1, f1, e2, e3, hX⟩ := bestP R K hw hw2 (d := 0) (r := 0) ⟨by decide, by decide⟩ ha
  obtain ⟨c', e4, u⟩ := takeX (g := g) hw hX f1
  refine ⟨X, c', ?_, u, e3⟩
  unfold fX9_seatStranger
  rw [bd_s e1]
  simp only [lb_e]
  rw [f1.I 9 0 6 rfl, K.2.2.2.2.1]
  by_cases z : low ≤ 0
  · rw [if_pos z] at e2
    rw [br_p z, bd_s e2, bd_s e4]
  · rw [if_neg z] at e2
    rw [br_n z, bd_s e2, bd_s e4]
theorem hhP {g c m : Hp} (R : RC g) (P : RP g) (Y : Ry g) {low : Int32} (K : Hs g c m low) {i : Nat} (hi : i < nH g) {ah any : Int32} (ha : ah = 0 ↔ any ≠ 0) : ∃ X c', fX9_seatHousehold (nZ i) ah c = some (X, c') ∧ Upd (wd g i) X c c' ∧ ((ah = 0 ∧ fX12_bestRun (nZ (wd g i)) (nZ (rkN g i)) (gI g 67 0 i) any m = some (X, m)) ∨ (ah ≠ 0 ∧ ∃ A, fX12_ownRun (nZ i) m = some (A, m) ∧ ((A = -1 ∧ fX12_bestRun (nZ (wd g i)) (nZ (rkN g i)) (gI g 67 0 i) any m = some (X, m)) ∨ (A ≠ -1 ∧ X = A)))) := by
  have k1 := K.1
  have s2 : Sm fRP g c := k1.sm rfl
  have Pc := RP_sm s2 P
  have hH := P.2.2.1
  obtain ⟨e66, p1, p2, e65, p3, p4, -⟩ := P.w hi
  have ewd : wd c i = wd g i := by unfold wd; rw [s2.A 66 0 _ (by decide)]
  have erk : rkN c i = rkN g i := by unfold rkN; rw [s2.A 65 0 _ (by decide)]
  obtain ⟨-, -, -, -, -, -, q0, q1, q2⟩ := Pc.w (i := i) (by rw [nH_sm s2]; exact hi)
  rw [ewd] at q1
  rw [erk] at q0
  rw [s2.A 67 0 _ (by decide)] at q2
  obtain ⟨c1, X, e1, f1, e2, e3, hX⟩ := bestP R K p1 p2 (d := gI g 67 0 i) (r := nZ (rkN g i)) p4 ha
  obtain ⟨c', e4, u⟩ := takeX (g := g) p1 hX f1
  have rest : (bd (fX9_openSpots ah c) (fun r6 h7 => br ((gI h7 9 0 6) ≤ (gI h7 2 i 0)) (bd (fX10_bestRun (gI h7 2 i 1) (gI h7 2 i 2) 0 h7) (fun r13 h14 => bd (fX9_take r13 (gI h14 2 i 1) h14) (fun r15 h16 => some (r15, h16)))) (bd (fX10_bestRun (gI h7 2 i 1) (gI h7 2 i 2) 1 h7) (fun r13 h14 => bd (fX9_take r13 (gI h14 2 i 1) h14) (fun r15 h16 => some (r15, h16)))))) = some (X, c') := by
    rw [bd_s e1, f1.I 9 0 6 rfl, K.2.2.2.2.1, f1.I 2 i 0 rfl, f1.I 2 i 1 rfl, f1.I 2 i 2 rfl, q0, q1, q2]
    by_cases z : low ≤ nZ (rkN g i)
    · rw [if_pos z] at e2
      rw [br_p z, bd_s e2, f1.I 2 i 1 rfl, q1, bd_s e4]
    · rw [if_neg z] at e2
      rw [br_n z, bd_s e2, f1.I 2 i 1 rfl, q1, bd_s e4]
  unfold fX9_seatHousehold
  rw [bd_s (find4_t Pc (by rw [nH_sm s2]; exact hi)), mt_s rfl]
  simp only [lb_e]
  by_cases za : ah = 0
  · refine ⟨X, c', ?_, u, Or.inl ⟨za, e3⟩⟩
    rw [br_p za]
    exact rest
  · obtain ⟨x, ex, kx⟩ := ownP R P Y K hi
    rw [br_n za, q1, bd_s ex]
    rcases kx with ⟨z1, z2⟩ | ⟨z1, a, z2, z3, z4, z5, z6⟩
    · refine ⟨X, c', ?_, u, Or.inr ⟨za, -1, z2, Or.inl ⟨rfl, e3⟩⟩⟩
      rw [br_p z1]
      exact rest
    · obtain ⟨c2, e5, f5, k5⟩ := take_t (a := a) (w := wd g i) z2 c
      refine ⟨nZ a, c2, ?_, Or.inr ⟨a, rfl, z2, by omega, f5.wk rfl, k5⟩, Or.inr ⟨za, nZ a, z3, Or.inr ⟨fun y => (nZ_m1 (by omega)).mp y, rfl⟩⟩⟩
      rw [br_n z1, mt_s z4, mt_s z5.1, gd_p (by rw [nZ_ib (by omega)]; omega), nZ_ix (by omega), z6, q1, bd_s e5]
theorem Hs_upd {g c c' m m' : Hp} {low X : Int32} {w : Nat} (K : Hs g c m low) (U : Upd w X c c') (fm : Fr [106, 112] m m') (h6 : (X = m1 ∧ ∀ t, gI m' 106 0 t = gI m 106 0 t) ∨ (∃ s, X = nZ s ∧ s < 256 ∧ ∀ t, gI m' 106 0 t = if s ≤ t ∧ t < s + w then 1 else gI m 106 0 t)) : Hs g c' m' low := by
  obtain ⟨k1, k2, k3, k4, k5, k6, k7⟩ := K
  have fc : Fr [46, 48] c c' := by
    rcases U with ⟨-, f, -⟩ | ⟨s, -, -, -, f, -⟩
    · exact f
    · exact f
  refine ⟨k1.tr (fc.wk rfl), k2.tr (fm.wk rfl), LT_sm (fm.sm rfl) (fm.sm rfl) k3, Lat_fr k4 (fc.wk rfl), by rw [fc.I 9 0 6 rfl]; exact k5, by rw [fm.I 12 0 17 rfl]; exact k6, fun t ht => ⟨?_, ?_⟩⟩
  · rcases U with ⟨u1, -, u3⟩ | ⟨s, u1, u2, u3, -, u5⟩
    · rcases h6 with ⟨-, h⟩ | ⟨s', e, hs', -⟩
      · rw [u3, h]
        exact (k7 t ht).1
      · rw [u1] at e
        exact absurd e fun y => (m1_nZ (by omega)).mp y
    · rcases h6 with ⟨e, h⟩ | ⟨s', e, hs', h⟩
      · rw [u1] at e
        exact absurd e fun y => (nZ_m1 (by omega)).mp y
      · rw [u1, nZ_eq (by omega) (by omega)] at e
        rw [u5, h, e]
        by_cases z : s' ≤ t ∧ t < s' + w
        · rw [if_pos z, if_pos z]
        · rw [if_neg z, if_neg z]
          exact (k7 t ht).1
  · rw [fc.A 45 0 t rfl, fm.A 105 0 t rfl, fm.A 113 0 t rfl]
    exact (k7 t ht).2
theorem Hs_47 {g c m : Hp} {low : Int32} (K : Hs g c m low) (k : Nat) (v : Int32) : Hs g (sI c 47 0 k v) m low := by
  obtain ⟨k1, k2, k3, k4, k5, k6, k7⟩ := K
  have f : Fr [47] c (sI c 47 0 k v) := Fr_I _ _ _ _ _ rfl
  refine ⟨k1.tr (f.wk rfl), k2, k3, Lat_fr k4 (f.wk rfl), by rw [f.I 9 0 6 rfl]; exact k5, k6, fun t ht => ?_⟩
  rw [f.A 46 0 t rfl, f.A 45 0 t rfl]
  exact k7 t ht
/-- what both sides have written down of the first k -/
def Sat (c m : Hp) (k : Nat) : Prop := ∀ i, i < k → (gI c 47 0 i = -1 ∧ gI m 112 0 i = -1) ∨ ∃ s, s < 256 ∧ gI c 47 0 i = nZ s ∧ gI m 112 0 i = nZ (100 * (s / 32) + s % 32)
theorem nZ_x100 (a : Nat) : (100 : Int32) * nZ a = nZ (100 * a) := nZ_mul 100 a
theorem hold_L {g : Hp} (R : RC g) (P : RP g) (Y : Ry g) {low : Int32} {p n bl : Nat} (hp : p < 4) (hn : n ≤ 60) (hb : bl ≤ 60) (e39 : gI g 39 0 p = nZ n) (e55 : gI g 55 0 p = nZ n) (e38 : ∀ i, i < 60 → gJ g 38 0 (60 * p + i) = gJ g 56 0 (60 * p + i)) (V : ∀ j, j < n → VB g p j) : ∀ (f k N : Nat) (c m : Hp), k ≤ n → n - k < f → Hs g c m low → gI c 9 0 7 = nZ n → Sat c m k → N ≤ k → ∃ N' v c' v' m', fX9_hold_L15 f (nZ p) (nZ bl) (nZ N) (nZ k) c = some ((nZ N', v), c') ∧ fX12_sunday_L375 f (nZ p) (nZ bl) (nZ N) (nZ k) m = some ((nZ N', v'), m') ∧ Hs g c' m' low ∧ gI c' 9 0 7 = nZ n ∧ gI m' 12 0 77 = gI m 12 0 77 ∧ Sat c' m' n ∧ Fr [106, 112] m m' := by
  obtain ⟨v1, v2, v3, v4⟩ := R.v
  have hH := P.2.2.1
  intro f
  induction f with
  | zero => intro k N c m _ q; omega
  | succ f ih =>
    intro k N c m hk hf K e97 S hN
    obtain ⟨k1, k2, k3, k4, k5, k6, k7⟩ := id K
    rw [fX9_hold_L15, e97, fX12_sunday_L375]
    have m55 : gI m 55 0 p = nZ n := by rw [k2.A 55 0 p rfl]; exact e55
    have c39 : gI c 39 0 p = nZ n := by rw [k1.A 39 0 p rfl]; exact e39
    have o60 : Int32.ofNat 60 = nZ 60 := rfl
    rw [gd_p (by rw [nZ_ib (by omega)]; omega), nZ_ix (by omega : p < 2147483648), m55, o60, nZ_x60, nZ_add]
    have le1 : (nZ n ≤ nZ k) ↔ n ≤ k := nZ_le (by omega) (by omega)
    have le2 : (nZ 60 ≤ nZ k) ↔ 60 ≤ k := nZ_le (by omega) (by omega)
    by_cases q : k = n
    · subst q
      rw [br_p (le1.mpr (by omega)), br_p (le1.mpr (by omega))]
      exact ⟨N, _, c, _, m, rfl, rfl, K, e97, rfl, S, Fr.rf _ _⟩
    · have hib : ib (nZ k) 60 := by rw [nZ_ib (by omega)]; omega
      have hib2 : ib (nZ (60 * p + k)) 240 := by rw [nZ_ib (by omega)]; omega
      rw [br_n (fun y => by have := le1.mp y; omega), br_n (fun y => by have := le2.mp y; omega), br_n (fun y => by have := le1.mp y; omega), gd_p hib2, nZ_ix (by omega : 60 * p + k < 2147483648), bd_s (number7 hp hn (by omega) c39), if_pos (by omega), k1.AJ 38 0 _ rfl, e38 k (by omega), k2.AJ 56 0 _ rfl]
      have Vk := V k (by omega)
      have en : (gJ g 56 0 (60 * p + k)).toInt = nu g p k := rfl
      have rg : -12 ≤ nu g p k ∧ nu g p k < 12 := by
        refine ⟨Vk.1, ?_⟩
        rcases Vk.2 with y | y
        · omega
        · have := y.1; omega
      have bl1 : (nZ bl ≤ nZ k) ↔ bl ≤ k := nZ_le (by omega) (by omega)
      have bl2 : (nZ k < nZ bl) ↔ k < bl := nZ_lt (by omega) (by omega)
      -- what happens behind the seat
      have fin : ∀ (X : Int32) (w : Nat) (c1 : Hp), Upd w X c c1 → ∃ N' v c' v' m', (br (gI (sI c1 47 0 k X) 47 0 k = -1) (fX9_hold_L15 f (nZ p) (nZ bl) (nZ (N + 1)) (nZ (k + 1)) (sI c1 47 0 k X)) (fX9_hold_L15 f (nZ p) (nZ bl) (nZ N) (nZ (k + 1)) (sI c1 47 0 k X))) = some ((nZ N', v), c') ∧ (br (X = -1) (br (X = -1) (bd (fX12_sunday_L557 FU (nZ p) (nZ bl) (nZ (N + 1)) (nZ k) (nZ w) X 0 (sI m 112 0 k (-1))) (fun v98 h96 => fX12_sunday_L375 f (nZ p) (nZ bl) (nZ (N + 1)) (nZ (k + 1)) h96)) (bd (fX12_sunday_L557 FU (nZ p) (nZ bl) (nZ N) (nZ k) (nZ w) X 0 (sI m 112 0 k (-1))) (fun v98 h96 => fX12_sunday_L375 f (nZ p) (nZ bl) (nZ N) (nZ (k + 1)) h96))) (br (X = -1) (bd (fX12_sunday_L557 FU (nZ p) (nZ bl) (nZ (N + 1)) (nZ k) (nZ w) X 0 (sI m 112 0 k ((100 : Int32) * (X / 32) + (X - X / 32 * 32)))) (fun v98 h96 => fX12_sunday_L375 f (nZ p) (nZ bl) (nZ (N + 1)) (nZ (k + 1)) h96)) (bd (fX12_sunday_L557 FU (nZ p) (nZ bl) (nZ N) (nZ k) (nZ w) X 0 (sI m 112 0 k ((100 : Int32) * (X / 32) + (X - X / 32 * 32)))) (fun v98 h96 => fX12_sunday_L375 f (nZ p) (nZ bl) (nZ N) (nZ (k + 1)) h96)))) = some ((nZ N', v'), m') ∧ Hs g c' m' low ∧ gI c' 9 0 7 = nZ n ∧ gI m' 12 0 77 = gI m 12 0 77 ∧ Sat c' m' n ∧ Fr [106, 112] m m' := by
        intro X w c1 U
        rw [gI_q]
        have fc : Fr [46, 48] c c1 := by
          rcases U with ⟨-, f, -⟩ | ⟨s, -, -, -, f, -⟩
          · exact f
          · exact f
        have e97' : gI (sI c1 47 0 k X) 9 0 7 = nZ n := by rw [gI_o (by decide), fc.I 9 0 7 rfl]; exact e97
        rcases id U with ⟨u1, -, u3⟩ | ⟨s, u1, u2, u3, -, u5⟩
        · have u1' : X = -1 := u1
          simp only [br_p u1']
          have e557 : fX12_sunday_L557 FU (nZ p) (nZ bl) (nZ (N + 1)) (nZ k) (nZ w) X 0 (sI m 112 0 k (-1)) = some (0, sI m 112 0 k (-1)) := by
            rw [show FU = 99999 + 1 from rfl, fX12_sunday_L557, br_p u1']
          rw [bd_s e557]
          have fm : Fr [106, 112] m (sI m 112 0 k (-1)) := Fr_I _ _ _ _ _ rfl
          have K' := Hs_47 (Hs_upd K U fm (Or.inl ⟨u1, fun t => by rw [gI_o (by decide)]⟩)) k X
          obtain ⟨N', v, c', v', m', g1, g2, g3, g4, g5, g6, g7⟩ := ih (k + 1) (N + 1) _ _ (by omega) (by omega) K' e97' (fun i hi => by
            rw [gI_a, gI_a]
            by_cases e : i = k
            · rw [if_pos e, if_pos e]
              exact Or.inl ⟨u1', rfl⟩
            · rw [if_neg e, if_neg e, fc.A 47 0 i rfl]
              exact S i (by omega)) (by omega)
          exact ⟨N', v, c', v', m', g1, g2, g3, g4, by rw [g5, gI_o (by decide)], g6, fm.tr g7⟩
        · have ns : ¬ X = -1 := by rw [u1]; exact fun y => (nZ_m1 (by omega)).mp y
          simp only [br_n ns]
          have eS : (100 : Int32) * (X / 32) + (X - X / 32 * 32) = nZ (100 * (s / 32) + s % 32) := by rw [u1, nZ_d32 (by omega), nZ_m32 (by omega), nZ_x100, nZ_add]
          rw [eS, u1]
          obtain ⟨v9, m2, e2, f2, k2'⟩ := t557_L (a := s) (w := w) u2 (nZ p) (nZ bl) (nZ N) (nZ k) FU 0 (sI m 112 0 k (nZ (100 * (s / 32) + s % 32))) (by omega) (by show _ < 100000; omega)
          rw [bd_s (show fX12_sunday_L557 FU (nZ p) (nZ bl) (nZ N) (nZ k) (nZ w) (nZ s) 0 (sI m 112 0 k (nZ (100 * (s / 32) + s % 32))) = _ from e2)]
          have fm : Fr [106, 112] m m2 := (Fr_I (W := [106, 112]) m 112 0 k _ rfl).tr (f2.wk rfl)
          have K' := Hs_47 (Hs_upd K U fm (Or.inr ⟨s, u1, u3, fun t => by rw [k2' t, gI_o (by decide)]; rfl⟩)) k X
          rw [u1] at K'
          obtain ⟨N', v, c', v', m', g1, g2, g3, g4, g5, g6, g7⟩ := ih (k + 1) N _ _ (by omega) (by omega) K' (by rw [← u1]; exact e97') (fun i hi => by
            rw [gI_a, f2.A 112 0 i rfl, gI_a]
            by_cases e : i = k
            · rw [if_pos e, if_pos e]
              exact Or.inr ⟨s, u3, rfl, rfl⟩
            · rw [if_neg e, if_neg e, fc.A 47 0 i rfl]
              exact S i (by omega)) (by omega)
          exact ⟨N', v, c', v', m', g1, g2, g3, g4, by rw [g5, fm.I 12 0 77 rfl], g6, fm.tr g7⟩
      by_cases zn : 0 ≤ nu g p k
      · -- a household
        have hiH : (nu g p k).toNat < nH g := by
          rcases Vk.2 with y | y
          · omega
          · have := y.1; omega
        obtain ⟨i, ei⟩ : ∃ i, i = (nu g p k).toNat := ⟨_, rfl⟩
        rw [← ei] at hiH
        have ex : (gJ g 56 0 (60 * p + k)).toInt32 = nZ i := by rw [ei]; exact t32N (by rw [en]; omega)
        have h0 : (0 : Int32) ≤ nZ i := by rw [i32_le, z0, nZ_t (by omega)]; omega
        have hn0 : ¬ nZ i < 0 := by rw [i32_lt, z0, nZ_t (by omega)]; omega
        have hib12 : ib (nZ i) 12 := by rw [nZ_ib (by omega)]; omega
        obtain ⟨e66, p1, p2, e65, p3, p4, -⟩ := P.w hiH
        have m66 : gI m 66 0 i = nZ (wd g i) := by rw [k2.A 66 0 i rfl]; exact e66
        have m65 : gI m 65 0 i = nZ (rkN g i) := by rw [k2.A 65 0 i rfl]; exact e65
        have m67 : gI m 67 0 i = gI g 67 0 i := k2.A 67 0 i rfl
        rw [ex]
        simp only [lb_e, br_p h0, br_n hn0, gd_p hib, gd_p hib12, nZ_ix (by omega : k < 2147483648), nZ_ix (by omega : i < 2147483648), nZ_suc, nZ_p0, m66, m65, m67]
        by_cases zb : bl ≤ k
        · obtain ⟨X, c1, e1, U, ho⟩ := hhP R P Y K hiH (ah := 0) (any := 1) (iff_of_true rfl (by decide))
          simp only [br_p (bl1.mpr zb), br_n (fun y => by have := bl2.mp y; omega : ¬ nZ k < nZ bl), br_p trivial]
          rcases ho with ⟨-, eb⟩ | ⟨y, -⟩
          · rw [bd_s e1, bd_s eb]
            exact fin X (wd g i) c1 U
          · exact absurd rfl y
        · obtain ⟨X, c1, e1, U, ho⟩ := hhP R P Y K hiH (ah := 1) (any := 0) (iff_of_false (by decide) (by decide))
          have zb1 : ¬ nZ bl ≤ nZ k := fun y => zb (bl1.mp y)
          have zb2 : nZ k < nZ bl := bl2.mpr (by omega)
          simp only [br_n zb1, br_p zb2]
          rcases ho with ⟨y, -⟩ | ⟨-, A, eA, hA⟩
          · exact absurd y (by decide)
          · rw [bd_s e1, bd_s eA]
            rcases hA with ⟨a1, eb⟩ | ⟨a1, a2⟩
            · rw [br_p a1, bd_s eb]
              exact fin X (wd g i) c1 U
            · rw [br_n a1, ← a2]
              exact fin X (wd g i) c1 U
      · -- a stranger
        obtain ⟨w, ew⟩ : ∃ w, w = (-nu g p k).toNat := ⟨_, rfl⟩
        have hw1 : 1 ≤ w := by omega
        have hw2 : w ≤ 12 := by omega
        have tx : (gJ g 56 0 (60 * p + k)).toInt32.toInt = nu g p k := t32J (by rw [en]; exact rg)
        have ex : -((gJ g 56 0 (60 * p + k)).toInt32) = nZ w := by
          rw [i32_eq, neg32 (by rw [tx]; omega), tx, nZ_t (by omega)]
          omega
        have h0 : ¬ (0 : Int32) ≤ (gJ g 56 0 (60 * p + k)).toInt32 := by rw [i32_le, z0, tx]; omega
        have hn0 : (gJ g 56 0 (60 * p + k)).toInt32 < 0 := by rw [i32_lt, z0, tx]; omega
        simp only [lb_e, br_n h0, br_p hn0, gd_p hib, nZ_ix (by omega : k < 2147483648), nZ_suc, nZ_p0, ex, br_p trivial]
        by_cases zb : bl ≤ k
        · obtain ⟨X, c1, e1, U, eb⟩ := strP R K hw1 hw2 (ah := 0) (any := 1) (iff_of_true rfl (by decide))
          simp only [br_p (bl1.mpr zb), br_n (fun y => by have := bl2.mp y; omega : ¬ nZ k < nZ bl)]
          rw [bd_s e1, bd_s eb]
          exact fin X w c1 U
        · obtain ⟨X, c1, e1, U, eb⟩ := strP R K hw1 hw2 (ah := 1) (any := 0) (iff_of_false (by decide) (by decide))
          have zb1 : ¬ nZ bl ≤ nZ k := fun y => zb (bl1.mp y)
          have zb2 : nZ k < nZ bl := bl2.mpr (by omega)
          simp only [br_n zb1, br_p zb2]
          rw [bd_s e1, bd_s eb]
          exact fin X w c1 U
