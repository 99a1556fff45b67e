/-! ===== level 2: the order of the households, in step on both sides ===== -/
/-- two heaps with the same parish on the model's side -/
def PE (c m : Hp) : Prop := RP c ∧ gI m 12 0 8 = nZ (nH c) ∧ (∀ i, gI m 65 0 i = gI c 65 0 i) ∧ (∀ i, gI m 68 0 i = gI c 68 0 i)
theorem PE_sm {c c' m m' : Hp} (e1 : Sm fRP c c') (e2 : Sm fRP m m') (P : PE c m) : PE c' m' := by
  obtain ⟨p1, p2, p3, p4⟩ := P
  refine ⟨RP_sm e1 p1, ?_, fun i => ?_, fun i => ?_⟩
  · rw [e2.I 12 0 8 (by decide), nH_sm e1]
    exact p2
  · rw [e2.A 65 0 i (by decide), e1.A 65 0 i (by decide)]
    exact p3 i
  · rw [e2.A 68 0 i (by decide), e1.A 68 0 i (by decide)]
    exact p4 i
/-- places up to n hold o, but for the hole p -/
def Hole (c m : Hp) (n p x : Nat) (o : Nat → Nat) : Prop := (∀ k, k ≤ n → k ≠ p → gI c 49 0 k = nZ (o k) ∧ gI m 102 0 k = nZ (o k) ∧ o k < x ∧ gI c 68 0 (o k) = 0) ∧ ∀ k l, k ≤ n → l ≤ n → k ≠ p → l ≠ p → o k = o l → k = l
theorem le0 {j : Nat} (h : j < 2147483648) : (nZ j ≤ (0 : Int32)) ↔ j = 0 := by
  rw [show (0 : Int32) = nZ 0 from rfl, nZ_le h (by decide)]
  omega
theorem ins_L {x n : Nat} (a2 a2' : Int32) (hn : n < 12) : ∀ (f p : Nat) (o : Nat → Nat) (c m : Hp), PE c m → x < nH c → p ≤ n → p < f → Hole c m n p x o → ∃ p' o' c' m', fX4_fillOrder_L44 f a2 (nZ x) x (nZ p) c = some (nZ p', c') ∧ fX12_seats_L121 f a2' (nZ x) (nZ p) m = some (nZ p', m') ∧ p' ≤ n ∧ Hole c' m' n p' x o' ∧ Fr [49] c c' ∧ Fr [102] m m' := by
  intro f
  induction f with
  | zero => intro p o c m _ _ _ q; omega
  | succ f ih =>
    intro p o c m P hx hp hf K
    obtain ⟨p1, p2, p3, p4⟩ := id P
    have hH := p1.2.2.1
    rw [fX4_fillOrder_L44, fX12_seats_L121]
    simp (disch := omega) only [le0, lb_e]
    by_cases q : p = 0
    · rw [br_p q, br_p q]
      exact ⟨p, o, c, m, rfl, rfl, hp, K, Fr.rf _ _, Fr.rf _ _⟩
    · obtain ⟨k1, k2, k3, k4⟩ := K.1 (p - 1) (by omega) (by omega)
      rw [br_n q, br_n q]
      have ep : nZ p - 1 = nZ (p - 1) := nZ_pre (by omega) (by omega)
      have hib1 : ib (nZ (p - 1)) 12 := by rw [nZ_ib (by omega)]; omega
      have hib0 : ib (nZ p) 12 := by rw [nZ_ib (by omega)]; omega
      have hib2 : ib (nZ (o (p - 1))) 12 := by rw [nZ_ib (by omega)]; omega
      have hib3 : ib (nZ x) 12 := by rw [nZ_ib (by omega)]; omega
      simp only [ep, nZ_dn (by omega : 1 ≤ p) (by omega : p < 2147483648), gd_p hib1, gd_p hib0, nZ_ix (by omega : p - 1 < 2147483648), nZ_ix (by omega : p < 2147483648), nZ_ix (by omega : x < 2147483648), k1, k2, nZ_ix (by omega : o (p - 1) < 2147483648), gd_p hib2, gd_p hib3]
      have er : fX4_rankOf (nZ (o (p - 1))) c = some (gI c 65 0 (o (p - 1)), c) := by
        unfold fX4_rankOf
        rw [bd_s (find4_t p1 (by omega)), mt_s rfl, (p1.2.2.2.2.1 (o (p - 1)) (by omega)).2.1]
      rw [bd_s er, (p1.2.2.2.2.1 x hx).2.1, p3, p3]
      by_cases z : gI c 65 0 x ≤ gI c 65 0 (o (p - 1))
      · rw [br_p z, br_p z]
        exact ⟨p, o, c, m, rfl, rfl, hp, K, Fr.rf _ _, Fr.rf _ _⟩
      · rw [br_n z, br_n z, k1]
        have f1 : Fr [49] c (sI c 49 0 p (nZ (o (p - 1)))) := Fr_I _ _ _ _ _ rfl
        have f2 : Fr [102] m (sI m 102 0 p (nZ (o (p - 1)))) := Fr_I _ _ _ _ _ rfl
        obtain ⟨p', o', c', m', e1, e2, e3, e4, e5, e6⟩ := ih (p - 1) (fun k => if k = p then o (p - 1) else o k) _ _ (PE_sm (f1.sm rfl) (f2.sm rfl) P) (by rw [nH_sm (f1.sm rfl)]; exact hx) (by omega) (by omega) ⟨fun k hk hk2 => by
          rw [gI_a, gI_a]
          by_cases w : k = p
          · simp only [if_pos w]
            exact ⟨trivial, trivial, k3, by rw [f1.A 68 0 _ rfl]; exact k4⟩
          · simp only [if_neg w]
            rw [f1.A 68 0 _ rfl]
            exact K.1 k hk w, fun k l hk hl hk2 hl2 e => by
          by_cases w1 : k = p
          · by_cases w2 : l = p
            · omega
            · simp only [if_pos w1, if_neg w2] at e
              have := K.2 (p - 1) l (by omega) hl (by omega) w2 e
              omega
          · by_cases w2 : l = p
            · simp only [if_neg w1, if_pos w2] at e
              have := K.2 k (p - 1) hk (by omega) w1 (by omega) e
              omega
            · simp only [if_neg w1, if_neg w2] at e
              exact K.2 k l hk hl w1 w2 e⟩
        exact ⟨p', o', c', m', e1, e2, e3, e4, f1.tr e5, f2.tr e6⟩
def OrdS (c m : Hp) (n x : Nat) (o : Nat → Nat) : Prop := (∀ k, k < n → gI c 49 0 k = nZ (o k) ∧ gI m 102 0 k = nZ (o k) ∧ o k < x ∧ gI c 68 0 (o k) = 0) ∧ ∀ k l, k < n → l < n → o k = o l → k = l
theorem ord_L : ∀ (f x n : Nat) (o : Nat → Nat) (c m : Hp), PE c m → x ≤ nH c → n ≤ x → nH c - x < f → OrdS c m n x o → (∀ i, i < x → gI m 99 0 i = -1) → ∃ n' o' v c' w m', fX4_fillOrder_L4 f (nZ n) (nZ x) c = some ((nZ n', v), c') ∧ fX12_seats_L91 f (nZ n) (nZ x) m = some ((nZ n', w), m') ∧ n' ≤ nH c ∧ OrdS c' m' n' (nH c) o' ∧ (∀ i, i < nH c → gI m' 99 0 i = -1) ∧ Fr [49] c c' ∧ Fr [102, 99] m m' := by
  intro f
  induction f with
  | zero => intro x n o c m _ _ _ q; omega
  | succ f ih =>
    intro x n o c m P hx hn hf K S
    obtain ⟨p1, p2, p3, p4⟩ := id P
    obtain ⟨r1, r2, r3, r4, r5, r6⟩ := id p1
    rw [fX4_fillOrder_L4, fX12_seats_L91, r2, p2, of12]
    simp (disch := omega) only [nZ_le, nZ_suc, nZ_ib, nZ_ix, lb_e]
    by_cases q : x = nH c
    · rw [br_p (by omega), br_p (by omega)]
      rw [q] at K S
      exact ⟨n, o, _, c, _, m, rfl, rfl, by omega, K, S, Fr.rf _ _, Fr.rf _ _⟩
    · have hx' : x < nH c := by omega
      rw [br_n (by omega), br_n (by omega), br_n (by omega), bd_s (find4_t p1 hx'), mt_s rfl]
      simp only [gd_p (by omega : x < 12)]
      rw [(r5 x hx').2.2.2.2.1, gI_o (by decide), p4]
      have f0 : Fr [102, 99] m (sI m 99 0 x (-1)) := Fr_I _ _ _ _ _ rfl
      have P0 : PE c (sI m 99 0 x (-1)) := PE_sm (Fr.sm (Fr.rf [] _) rfl) (f0.sm rfl) P
      have S0 : ∀ i, i < x + 1 → gI (sI m 99 0 x (-1)) 99 0 i = -1 := fun i hi => by
        rw [gI_a]
        by_cases z : i = x
        · rw [if_pos z]
        · rw [if_neg z]
          exact S i (by omega)
      by_cases z : gI c 68 0 x = 0
      · rw [br_p z, br_p z]
        have H0 : Hole c (sI m 99 0 x (-1)) n n x o := ⟨fun k hk hk2 => by
          rw [gI_o (by decide)]
          exact K.1 k (by omega), fun k l hk hl hk2 hl2 e => K.2 k l (by omega) (by omega) e⟩
        obtain ⟨p', o', c1, m1', e1, e2, e3, e4, e5, e6⟩ := ins_L (nZ n) (nZ n) (by omega) FU n o c _ P0 hx' (Nat.le_refl _) (by show _ < 100000; omega) H0
        rw [bd_s e1, bd_s e2]
        simp (disch := omega) only [nZ_ib, nZ_ix]
        simp only [gd_p (by omega : p' < 12)]
        have f1 : Fr [49] c (sI c1 49 0 p' (nZ x)) := e5.tr (Fr_I _ _ _ _ _ rfl)
        have f2 : Fr [102, 99] m (sI m1' 102 0 p' (nZ x)) := (f0.tr (e6.wk rfl)).tr (Fr_I _ _ _ _ _ rfl)
        obtain ⟨n', oo, v, c', w, m', g1, g2, g3, g4, g5, g6, g7⟩ := ih (x + 1) (n + 1) (fun k => if k = p' then x else o' k) _ _ (PE_sm (f1.sm rfl) (f2.sm rfl) P) (by rw [nH_sm (f1.sm rfl)]; omega) (by omega) (by rw [nH_sm (f1.sm rfl)]; omega) ⟨fun k hk => by
          rw [gI_a, gI_a]
          by_cases w : k = p'
          · simp only [if_pos w]
            exact ⟨trivial, trivial, by omega, by rw [f1.A 68 0 _ rfl]; exact z⟩
          · simp only [if_neg w]
            obtain ⟨t1, t2, t3, t4⟩ := e4.1 k (by omega) w
            rw [e5.A 68 0 _ rfl] at t4
            exact ⟨t1, t2, by omega, by rw [f1.A 68 0 _ rfl]; exact t4⟩, fun k l hk hl e => by
          by_cases w1 : k = p'
          · by_cases w2 : l = p'
            · omega
            · simp only [if_pos w1, if_neg w2] at e
              have := (e4.1 l (by omega) w2).2.2.1
              omega
          · by_cases w2 : l = p'
            · simp only [if_neg w1, if_pos w2] at e
              have := (e4.1 k (by omega) w1).2.2.1
              omega
            · simp only [if_neg w1, if_neg w2] at e
              exact e4.2 k l (by omega) (by omega) w1 w2 e⟩ (fun i hi => by rw [gI_o (by decide), e6.A 99 0 i rfl]; exact S0 i hi)
        rw [nH_sm (f1.sm rfl)] at g3 g4 g5
        exact ⟨n', oo, v, c', w, m', g1, g2, g3, g4, g5, f1.tr g6, f2.tr g7⟩
      · rw [br_n z, br_n z]
        obtain ⟨n', oo, v, c', w, m', g1, g2, g3, g4, g5, g6, g7⟩ := ih (x + 1) n o c _ P0 (by omega) (by omega) (by omega) ⟨fun k hk => by
          obtain ⟨t1, t2, t3, t4⟩ := K.1 k hk
          rw [gI_o (by decide)]
          exact ⟨t1, t2, by omega, t4⟩, K.2⟩ S0
        exact ⟨n', oo, v, c', w, m', g1, g2, g3, g4, g5, g6, f0.tr g7⟩
