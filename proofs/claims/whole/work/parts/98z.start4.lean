/-! ===== level 2: the relation, and that it holds at the start ===== -/
def RM (h : Hp) : Prop := gC h + (12 - nH h) + (100 - nR h) + 5 * (199 - yr h) ≤ 600000 ∧ gS h + 5 * (12 - nH h) + 13 * (100 - nR h) + 53 * (199 - yr h) ≤ 7302249
def RAll (h : Hp) : Prop := RC h ∧ RP h ∧ Ry h ∧ RR (nH h) (yr h) (nB h) (un h) h h ∧ RPl (nH h) h h ∧ Rs h ∧ Rt2 h ∧ Rf h ∧ Rr h ∧ RA (nH h) (nB h) (un h) h h ∧ RK h ∧ RG h ∧ RSn h ∧ RHi (nH h) (yr h) (nB h) (un h) h h ∧ RYs h ∧ RM h
theorem lyI : ∀ q, q ∈ lyL → q ∈ lyM ++ lyA ∧ wi [69, 88] q.1 q.2 = false := by decide +kernel
set_option maxRecDepth 20000 in
theorem m29 : (12, 29) ∈ lyM ++ lyA ∧ (12, 48) ∈ lyM ++ lyA := by decide +kernel
set_option maxRecDepth 20000 in
theorem i0 : ∃ hA hB, fX11_init 0 (nw h00 11 15) = some ((), hA) ∧ gN hA 12 = 0 ∧ (gC hA + 1 ≤ 600000 ∧ gS hA + 79 ≤ 7302249) ∧ fX12_init 0 (nw hA 12 79) = some ((), hB) ∧ Ly hB ∧ RAll hB := by
  obtain ⟨hA, e, ⟨n12, c1, c2⟩, ⟨n2, n5, n8, n41, n42, n43, n44⟩, ⟨r0, r1, r2, r3⟩, ⟨v1, v2, v3, v4, v5⟩, L, Z, N, K33, K37, K39⟩ := iA
  have I0 : Iv w54 (nw hA 12 79) 54 lyA (nw hA 12 79) := by
    refine ⟨Zr_nw Z, Nn_nw N rfl, fun q hq => ⟨(L q hq).1, ?_⟩, Fr.rf _ _, ?_, ?_⟩
    · have h2 := (List.mem_filter.mp hq).2
      rw [gR_nw, if_neg fun z => by rw [z.1] at h2; simp at h2]
      exact (L q hq).2
    · show gC hA + 1 + (114 - 54) ≤ 1000
      omega
    · show gS hA + 79 + 4000 * (114 - 54) ≤ 1000000
      omega
  obtain ⟨hX, eX, h1, h2, h3, IX, f1, K54, f2, f3, u1, u2, u3, u4, u5⟩ := iM I0
  have l1 := IX.2.2.1
  obtain ⟨va, hY, ea, fa', ka, -⟩ := i544 FU 0 hX (l1 (12, 29) m29.1).2 (by omega) (by show _ < 100000; omega)
  obtain ⟨vb, hB, eb, fb, kb, -⟩ := i568 FU 0 hY (by rw [fa'.R 12 0 48 rfl]; exact (l1 (12, 48) m29.2).2) (by omega) (by show _ < 100000; omega)
  have fB : Fr [69, 88] hX hB := (fa'.wk rfl).tr (fb.wk rfl)
  have f3B : Fr (69 :: 88 :: wI) h3 hB := (IX.2.2.2.1.wk rfl).tr (fB.wk rfl)
  have f1B : Fr (69 :: 88 :: (w55 ++ w13 ++ wI)) h1 hB := ((f2.wk rfl).tr (f3.wk rfl)).tr (f3B.wk rfl)
  have f0B : Fr (69 :: 88 :: (w54 ++ w55 ++ w13 ++ wI)) (nw hA 12 79) hB := (f1.wk rfl).tr (f1B.wk rfl)
  have fAB : Fr (69 :: 88 :: (w54 ++ w55 ++ w13 ++ wI)) (nw hA 12 79) hB := f0B
  have ZB : Zr (69 :: 88 :: zSt) hB := fun k n i w => by
    have w1 : wi [69, 88] k i = false := sub_w rfl w
    have w2 : wi zSt k i = false := sub_w rfl w
    rw [fB.I k n i w1, fB.J k n i w1]
    exact IX.1 k n i w2
  have zA : ∀ k n i, (Nat.ble 13 k && !(69 :: 88 :: zSt : List Nat).elem k) = true → gI hB k n i = 0 := fun k n i q => (ZB k n i (wi_A q)).1
  have zJ : ∀ k n i, (Nat.ble 13 k && !(69 :: 88 :: zSt : List Nat).elem k) = true → gJ hB k n i = 0 := fun k n i q => (ZB k n i (wi_A q)).2
  have rd : ∀ k i, (k == 12) = false → gI (nw hA 12 79) k 0 i = gI hA k 0 i := fun k i q => gI_nwo q
  have H0 : nH hB = 0 := by unfold nH; rw [(ZB 12 0 8 rfl).1]; rfl
  have Y0 : yr hB = 0 := by unfold yr; rw [(ZB 12 0 5 rfl).1]; rfl
  have R0 : nR hB = 0 := by unfold nR; rw [(ZB 12 0 9 rfl).1]; rfl
  have L0 : nL hB = 0 := by unfold nL; rw [(ZB 12 0 10 rfl).1]; rfl
  have B0 : nB hB = 0 := by unfold nB; rw [(ZB 1 0 7 rfl).1]; rfl
  have k69 : ∀ i, i < 1600 → gI hB 69 0 i = -1 := fun i hi => by rw [fb.A 69 0 i rfl]; exact ka i (by omega) hi
  have k88 : ∀ i, i < 2400 → gI hB 88 0 i = -1 := fun i hi => kb i (by omega) hi
  refine ⟨hA, hB, e, n12, ⟨by omega, by omega⟩, ?_, ?_, ?_⟩
  · rw [eX]
    unfold T12
    rw [bd_s (show fX12_init_L544 FU 0 0 hX = _ from ea), bd_s (show fX12_init_L568 FU 0 0 hY = _ from eb)]
  · intro q hq
    have := lyI q hq
    rw [fB.R q.1 0 q.2 this.2]
    exact (l1 q this.1).2
  · refine ⟨?_, ?_, ?_, ?_, ?_, ?_, ?_, ?_, ?_, ?_, ?_, ?_, ?_, ?_, ?_, ?_⟩
    · -- RC
      have a1 : gI hB 1 0 0 = 30 := by rw [f0B.I 1 0 0 rfl, rd 1 0 rfl]; exact v1
      have a2 : gI hB 1 0 1 = 60 := by rw [f0B.I 1 0 1 rfl, rd 1 1 rfl]; exact v2
      have a3 : gI hB 1 0 2 = 4000 := by rw [f0B.I 1 0 2 rfl, rd 1 2 rfl]; exact v3
      have a4 : gI hB 1 0 3 = 0 := (ZB 1 0 3 rfl).1
      have a5 : gI hB 1 0 7 = 0 := (ZB 1 0 7 rfl).1
      refine ⟨⟨?_, ?_, ?_, ?_, ?_, ?_, ?_, ?_, ?_, ?_, ?_, ?_⟩, ⟨?_, ?_, ?_, ?_, ?_, ?_, ?_⟩, ?_⟩
      · rw [a1, f3B.I 12 0 13 rfl]; exact u1
      · rw [a2, f3B.I 12 0 14 rfl]; exact u2
      · rw [a3, f3B.I 12 0 15 rfl]; exact u3
      · rw [a4]; exact (ZB 12 0 6 rfl).1
      · rw [a5]; exact (ZB 12 0 7 rfl).1
      · intro i; rw [zA 58 0 i rfl, zA 23 0 i rfl]
      · intro i; rw [zA 59 0 i rfl, zA 24 0 i rfl]
      · intro i; rw [zA 60 0 i rfl, zA 25 0 i rfl]
      · intro i; rw [zA 61 0 i rfl, zA 26 0 i rfl]
      · intro i; rw [zA 62 0 i rfl, zA 27 0 i rfl]
      · intro i; rw [zA 63 0 i rfl, zA 28 0 i rfl]
      · intro i; rw [zA 64 0 i rfl, zA 29 0 i rfl]
      · rw [a1]; decide
      · rw [a2]; decide
      · rw [a3]; decide
      · rw [a4]; decide
      · rw [a5]; decide
      · intro p hp; rw [a4, z0] at hp; omega
      · intro p hp; rw [a5, z0] at hp; omega
      · intro b; rw [a5, z0]; omega
    · -- RP
      refine ⟨by rw [H0]; exact (ZB 12 0 8 rfl).1, by rw [H0]; exact (ZB 4 0 1 rfl).1, by omega, ?_, fun i hi => by omega, fun i _ => zA 68 0 i rfl⟩
      rw [H0, f0B.N 2 rfl, gN_nw, if_neg (by omega)]
      exact n2
    · exact ⟨by rw [(ZB 12 0 5 rfl).1, (ZB 11 0 11 rfl).1], by rw [(ZB 12 0 5 rfl).1]; decide, by rw [(ZB 12 0 5 rfl).1]; decide⟩
    · refine ⟨by rw [R0]; exact (ZB 12 0 9 rfl).1, by rw [R0]; exact (ZB 3 0 1 rfl).1, by omega, ?_, fun r hr => by omega⟩
      rw [R0, f0B.N 5 rfl, gN_nw, if_neg (by omega)]
      exact n5
    · intro i hi
      rw [k69 i hi, f0B.A 33 0 i rfl, rd 33 i rfl, K33 i hi, H0]
      exact ⟨rfl, by decide, by decide⟩
    · exact ⟨by rw [(ZB 3 0 2 rfl).1, (ZB 12 0 11 rfl).1], by rw [(ZB 12 0 11 rfl).1]; decide, by rw [(ZB 12 0 11 rfl).1]; decide⟩
    · have b1 : gI hB 12 0 16 = 3 := by rw [f3B.I 12 0 16 rfl]; exact u4
      have b2' : gI hB 12 0 17 = 10 := by rw [f3B.I 12 0 17 rfl]; exact u5
      refine ⟨⟨?_, ?_⟩, ?_, ?_⟩
      · rw [b1, f0B.I 11 0 12 rfl, rd 11 12 rfl]; exact v4
      · rw [b2', f0B.I 11 0 13 rfl, rd 11 13 rfl]; exact v5
      · rw [b1]; decide
      · rw [b2']; decide
    · show gJ hB 11 0 14 = gJ hB 12 0 12
      rw [(ZB 11 0 14 rfl).2, (ZB 12 0 12 rfl).2]
    · refine ⟨fun p hp => Or.inl ⟨?_, ?_⟩, fun j _ => by rw [zJ 38 0 j rfl, zJ 56 0 j rfl]⟩
      · rw [f0B.A 39 0 p rfl, rd 39 p rfl]; exact K39 p hp
      · rw [f1B.A 54 0 p rfl]; exact K54 p hp
    · exact ⟨by rw [L0]; exact (ZB 12 0 10 rfl).1, by rw [L0]; exact (ZB 0 0 0 rfl).1, by omega, fun l hl => by omega, fun l i hl => by omega⟩
    · exact ⟨by rw [(ZB 0 0 9 rfl).1, (ZB 12 0 56 rfl).1], fun z => absurd (ZB 12 0 56 rfl).1 z⟩
    · intro i hi
      rw [(ZB 12 0 75 rfl).1, if_pos rfl, f0B.A 37 0 i rfl, rd 37 i rfl]
      exact K37 i hi
    · exact ⟨0, by omega, (ZB 9 0 7 rfl).1, (ZB 12 0 77 rfl).1, fun i hi => by omega⟩
    · rw [Y0]
      refine ⟨⟨?_, ?_, ?_, ?_, ?_⟩, fun s hs => ?_, fun t ht => by omega, fun t i ht => by omega, fun t i hi ht _ => k88 _ (by omega)⟩
      · rw [f0B.N 8 rfl, gN_nw, if_neg (by omega)]; exact n8
      · rw [f0B.N 41 rfl, gN_nw, if_neg (by omega)]; exact n41
      · rw [f0B.N 42 rfl, gN_nw, if_neg (by omega)]; exact n42
      · rw [f0B.N 43 rfl, gN_nw, if_neg (by omega)]; exact n43
      · rw [f0B.N 44 rfl, gN_nw, if_neg (by omega)]; exact n44
      · obtain rfl : s = 0 := by omega
        refine ⟨?_, ?_, ?_, ?_⟩
        · rw [f0B.R 8 0 0 rfl, gR_nwo rfl]; exact r0
        · rw [f0B.R 8 0 1 rfl, gR_nwo rfl]; exact r1
        · rw [f0B.R 8 0 2 rfl, gR_nwo rfl]; exact r2
        · rw [f0B.R 8 0 3 rfl, gR_nwo rfl]; exact r3
    · intro i hi
      omega
    · have g1 : gC hB = gC hX := by
        have := (fB.2.2 rfl).1
        exact this
      have g2 : gS hB = gS hX := (fB.2.2 rfl).2
      have g3 := IX.2.2.2.2.1
      have g4 := IX.2.2.2.2.2
      unfold RM
      rw [g1, g2, H0, R0, Y0]
      omega
