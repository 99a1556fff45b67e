/-! ===== level 2: knock: sets of lots as words ===== -/
theorem bt_nZ {S j : Nat} (hj : j < 32) : bt (nZ S) j = S.testBit j := by
  unfold bt nZ
  rw [Int32.toBitVec_ofNat', BitVec.getLsbD_ofNat]
  simp [hj]
theorem nZ_sad {S l : Nat} (hl : l < 32) : nZ S ||| ((1 : Int32) <<< (nZ l &&& 31)) = nZ (sad S l) := b_ext fun j hj => by
  rw [tb1 hl hj, bt_nZ hj, bt_nZ hj, sad_t]
  by_cases e : l = j
  · subst e; simp
  · have e' : ¬ j = l := fun w => e w.symm
    simp [e, e']
theorem nZ_sxo {S l : Nat} (hl : l < 32) : nZ S ^^^ ((1 : Int32) <<< (nZ l &&& 31)) = nZ (sxo S l) := b_ext fun j hj => by
  rw [b_xor, b_shl l hl 1 hj, bt_nZ hj, bt_nZ hj, sxo_t]
  by_cases e : l = j
  · subst e
    rw [b_1 _ (by omega)]
    simp
  · by_cases z : l ≤ j
    · rw [b_1 (j - l) (by omega)]
      have : ¬ j - l = 0 := by omega
      simp [z, e, this]
    · simp [z, e]
theorem tbS {S l : Nat} (hl : l < 32) : (((nZ S >>> (nZ l &&& 31)) &&& 1) = 0) ↔ S.testBit l = false := by rw [tb0 hl, bt_nZ hl]
theorem p2Z : ∀ n, n ≤ 8 → (1 : Int32) <<< (nZ n &&& 31) = nZ (2 ^ n) := by decide +kernel
