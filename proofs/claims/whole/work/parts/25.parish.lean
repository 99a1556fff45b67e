/-! functions and ties, printed by program (wip/gen/dec.py) -/
theorem dX4_init_0 : decode cX4_init 0 = .ok (.aload_n 0, 1) := by decide +kernel
theorem dX4_init_1 : decode cX4_init 1 = .ok (.invokespecial 3, 3) := by decide +kernel
theorem dX4_init_4 : decode cX4_init 4 = .ok (.aload_n 0, 1) := by decide +kernel
theorem dX4_init_5 : decode cX4_init 5 = .ok (.bipush 12, 2) := by decide +kernel
theorem dX4_init_7 : decode cX4_init 7 = .ok (.anewarray 9, 3) := by decide +kernel
theorem dX4_init_10 : decode cX4_init 10 = .ok (.putfield 11, 3) := by decide +kernel
theorem dX4_init_13 : decode cX4_init 13 = .ok (.return_, 1) := by decide +kernel
def fX4_init (a0 : Nat) (h : Hp) : Option (Unit × Hp) := lb (gN h 35) (fun z1 => lb (nw h 35 12) (fun h2 => lb (sR h2 4 a0 0 (some z1)) (fun h3 => some ((), h3))))
set_option maxRecDepth 20000 in
theorem tX4_init {X : Cz} {a0 : Nat} {h hE : Hp} {rE : Unit} (hF : fX4_init a0 h = some (rE, hE)) : Ct X mX4_init false [zr 4 a0] h (none) hE := by
  refine Ct_of (by decide) (Nat.le_of_ble_eq_true rfl) (ls := [(0, zr 4 a0)]) rfl ?_
  unfold fX4_init at hF
  refine v_aload_n (j := 0) dX4_init_0 rfl ?_
  refine v_objI mlX4_3 oiI oiC (by decide) (Nat.le_of_ble_eq_true rfl) dX4_init_1 ?_
  refine v_aload_n (j := 0) dX4_init_4 rfl ?_
  refine v_bipush (v := 12) dX4_init_5 (by decide) ?_
  refine v_newq (k := 35) rfl (by decide) rfl clX4_9 (by decide) (by decide) (by decide) (Or.inl rfl) dX4_init_7 ?_
  refine v_topr fun z1 ez1 => ?_
  replace hF := lb_use ez1 hF
  clear ez1
  refine v_toph fun h2 eh2 => ?_
  replace hF := lb_use eh2 hF
  clear eh2
  refine v_putFR (o := some z1) (c := 4) (k2 := 35) rfl rfl (Nat.le_of_ble_eq_true rfl) rfl (Or.inl rfl) cz4 flX4_11 rfl (fun q hq => by cases hq; rfl) dX4_init_10 ?_
  refine v_toph fun h3 eh3 => ?_
  replace hF := lb_use eh3 hF
  clear eh3
  cases hF
  exact v_vret rfl dX4_init_13
theorem dX4_addHousehold_0 : decode cX4_addHousehold 0 = .ok (.aload_n 0, 1) := by decide +kernel
theorem dX4_addHousehold_1 : decode cX4_addHousehold 1 = .ok (.getfield 17, 3) := by decide +kernel
theorem dX4_addHousehold_4 : decode cX4_addHousehold 4 = .ok (.bipush 12, 2) := by decide +kernel
theorem dX4_addHousehold_6 : decode cX4_addHousehold 6 = .ok (.if_icmp .lt 6, 3) := by decide +kernel
theorem dX4_addHousehold_9 : decode cX4_addHousehold 9 = .ok (.bipush (-3), 2) := by decide +kernel
theorem dX4_addHousehold_11 : decode cX4_addHousehold 11 = .ok (.ireturn, 1) := by decide +kernel
theorem dX4_addHousehold_12 : decode cX4_addHousehold 12 = .ok (.aload_n 0, 1) := by decide +kernel
theorem dX4_addHousehold_13 : decode cX4_addHousehold 13 = .ok (.getfield 11, 3) := by decide +kernel
theorem dX4_addHousehold_16 : decode cX4_addHousehold 16 = .ok (.aload_n 0, 1) := by decide +kernel
theorem dX4_addHousehold_17 : decode cX4_addHousehold 17 = .ok (.getfield 17, 3) := by decide +kernel
theorem dX4_addHousehold_20 : decode cX4_addHousehold 20 = .ok (.new 9, 3) := by decide +kernel
theorem dX4_addHousehold_23 : decode cX4_addHousehold 23 = .ok (.dup, 1) := by decide +kernel
theorem dX4_addHousehold_24 : decode cX4_addHousehold 24 = .ok (.iload_n 1, 1) := by decide +kernel
theorem dX4_addHousehold_25 : decode cX4_addHousehold 25 = .ok (.iload_n 2, 1) := by decide +kernel
theorem dX4_addHousehold_26 : decode cX4_addHousehold 26 = .ok (.iload_n 3, 1) := by decide +kernel
theorem dX4_addHousehold_27 : decode cX4_addHousehold 27 = .ok (.invokespecial 21, 3) := by decide +kernel
theorem dX4_addHousehold_30 : decode cX4_addHousehold 30 = .ok (.aastore, 1) := by decide +kernel
theorem dX4_addHousehold_31 : decode cX4_addHousehold 31 = .ok (.aload_n 0, 1) := by decide +kernel
theorem dX4_addHousehold_32 : decode cX4_addHousehold 32 = .ok (.dup, 1) := by decide +kernel
theorem dX4_addHousehold_33 : decode cX4_addHousehold 33 = .ok (.getfield 17, 3) := by decide +kernel
theorem dX4_addHousehold_36 : decode cX4_addHousehold 36 = .ok (.iconst 1, 1) := by decide +kernel
theorem dX4_addHousehold_37 : decode cX4_addHousehold 37 = .ok (.iadd, 1) := by decide +kernel
theorem dX4_addHousehold_38 : decode cX4_addHousehold 38 = .ok (.putfield 17, 3) := by decide +kernel
theorem dX4_addHousehold_41 : decode cX4_addHousehold 41 = .ok (.aload_n 0, 1) := by decide +kernel
theorem dX4_addHousehold_42 : decode cX4_addHousehold 42 = .ok (.getfield 17, 3) := by decide +kernel
theorem dX4_addHousehold_45 : decode cX4_addHousehold 45 = .ok (.iconst 1, 1) := by decide +kernel
theorem dX4_addHousehold_46 : decode cX4_addHousehold 46 = .ok (.isub, 1) := by decide +kernel
theorem dX4_addHousehold_47 : decode cX4_addHousehold 47 = .ok (.ireturn, 1) := by decide +kernel
def fX4_addHousehold (a1 : Int32) (a2 : Int32) (a3 : Int32) (h : Hp) : Option (Int32 × Hp) := br ((gI h 4 0 1) < 12) (lb (gN h 2) (fun z1 => lb (nw h 2 5) (fun h2 => bd (fX2_init z1 a1 a2 a3 h2) (fun r3 h4 => gd (ib (gI h 4 0 1) 12) (lb (sR h4 35 0 (ix (gI h 4 0 1)) (some z1)) (fun h6 => lb (sI h6 4 0 1 ((gI h6 4 0 1) + 1)) (fun h7 => some ((gI h7 4 0 1) - 1, h7)))))))) (some ((-3), h))
set_option maxRecDepth 20000 in
theorem tX4_addHousehold {X : Cz} {a1 : Int32} {a2 : Int32} {a3 : Int32} {h hE : Hp} {rE : Int32} (hF : fX4_addHousehold a1 a2 a3 h = some (rE, hE)) : Ct X mX4_addHousehold true [zr 4 0, zi a1, zi a2, zi a3] h (some (zi rE)) hE := by
  refine Ct_of (by decide) (Nat.le_of_ble_eq_true rfl) (ls := [(0, zr 4 0), (1, zi a1), (2, zi a2), (3, zi a3)]) rfl ?_
  unfold fX4_addHousehold at hF
  refine v_aload_n (j := 0) dX4_addHousehold_0 rfl ?_
  refine v_getI (c := 4) rfl (Or.inl rfl) cz4 flX4_17 dX4_addHousehold_1 ?_
  refine v_bipush (v := 12) dX4_addHousehold_4 (by decide) ?_
  refine v_icmp_lt dX4_addHousehold_6 (by decide : _ = ((12 : Nat) : Int)) (fun q => ?_) (fun q => ?_)
  · replace hF := brT q hF
    refine v_aload_n (j := 0) dX4_addHousehold_12 rfl ?_
    refine v_getL (c := 4) rfl rfl rfl ly4_0 cz4 flX4_11 dX4_addHousehold_13 ?_
    refine v_aload_n (j := 0) dX4_addHousehold_16 rfl ?_
    refine v_getI (c := 4) rfl (Or.inl rfl) cz4 flX4_17 dX4_addHousehold_17 ?_
    refine v_new (k := 2) (c := 2) rfl (by decide) rfl clX4_9 cz2 (Or.inr (by decide)) dX4_addHousehold_20 ?_
    refine v_topr fun z1 ez1 => ?_
    replace hF := lb_use ez1 hF
    clear ez1
    refine v_toph fun h2 eh2 => ?_
    replace hF := lb_use eh2 hF
    clear eh2
    refine v_dup dX4_addHousehold_23 rfl ?_
    refine v_iload_n (j := 1) dX4_addHousehold_24 rfl ?_
    refine v_iload_n (j := 2) dX4_addHousehold_25 rfl ?_
    refine v_iload_n (j := 3) dX4_addHousehold_26 rfl ?_
    replace hF := bd_use hF
    obtain ⟨r3, h4, er3, hF⟩ := hF
    refine v_cI (hm := h4) (av := [zi a1, zi a2, zi a3]) (st := [zr 2 z1, zi (gI h 4 0 1), zr 35 0]) (stn := [zr 2 z1, zi (gI h 4 0 1), zr 35 0]) (tX2_init er3) lcX2_init mlX4_21 imX2_init rfl rfl rfl ⟨by decide, by decide⟩ (Nat.le_of_ble_eq_true rfl) dX4_addHousehold_27 rfl rfl ?_
    clear er3
    replace hF := gd_use hF
    obtain ⟨q5, hF⟩ := hF
    refine v_aast (k2 := 2) (z := z1) rfl (by decide) rfl rfl rfl rfl (Or.inr (by decide)) q5 dX4_addHousehold_30 ?_
    refine v_toph fun h6 eh6 => ?_
    replace hF := lb_use eh6 hF
    clear eh6
    refine v_aload_n (j := 0) dX4_addHousehold_31 rfl ?_
    refine v_dup dX4_addHousehold_32 rfl ?_
    refine v_getI (c := 4) rfl (Or.inl rfl) cz4 flX4_17 dX4_addHousehold_33 ?_
    refine v_iconst (v := 1) dX4_addHousehold_36 (by decide) ?_
    refine v_iadd dX4_addHousehold_37 ?_
    refine v_putI (c := 4) rfl rfl (Nat.le_of_ble_eq_true rfl) cz4 flX4_17 dX4_addHousehold_38 ?_
    refine v_toph fun h7 eh7 => ?_
    replace hF := lb_use eh7 hF
    clear eh7
    refine v_aload_n (j := 0) dX4_addHousehold_41 rfl ?_
    refine v_getI (c := 4) rfl (Or.inl rfl) cz4 flX4_17 dX4_addHousehold_42 ?_
    refine v_iconst (v := 1) dX4_addHousehold_45 (by decide) ?_
    refine v_isub dX4_addHousehold_46 ?_
    obtain ⟨rfl, rfl⟩ := ret_use hF
    exact v_iret rfl dX4_addHousehold_47
  · replace hF := brF q hF
    refine v_bipush (v := (-3)) dX4_addHousehold_9 (by decide) ?_
    obtain ⟨rfl, rfl⟩ := ret_use hF
    exact v_iret rfl dX4_addHousehold_11
theorem dX4_isHousehold_0 : decode cX4_isHousehold 0 = .ok (.iload_n 1, 1) := by decide +kernel
theorem dX4_isHousehold_1 : decode cX4_isHousehold 1 = .ok (.ifCond .lt 15, 3) := by decide +kernel
theorem dX4_isHousehold_4 : decode cX4_isHousehold 4 = .ok (.iload_n 1, 1) := by decide +kernel
theorem dX4_isHousehold_5 : decode cX4_isHousehold 5 = .ok (.aload_n 0, 1) := by decide +kernel
theorem dX4_isHousehold_6 : decode cX4_isHousehold 6 = .ok (.getfield 17, 3) := by decide +kernel
theorem dX4_isHousehold_9 : decode cX4_isHousehold 9 = .ok (.if_icmp .ge 7, 3) := by decide +kernel
theorem dX4_isHousehold_12 : decode cX4_isHousehold 12 = .ok (.iconst 1, 1) := by decide +kernel
theorem dX4_isHousehold_13 : decode cX4_isHousehold 13 = .ok (.goto 4, 3) := by decide +kernel
theorem dX4_isHousehold_16 : decode cX4_isHousehold 16 = .ok (.iconst 0, 1) := by decide +kernel
theorem dX4_isHousehold_17 : decode cX4_isHousehold 17 = .ok (.ireturn, 1) := by decide +kernel
def fX4_isHousehold (a1 : Int32) (h : Hp) : Int32 := br (a1 < 0) (0) (br ((gI h 4 0 1) ≤ a1) (0) (1))
set_option maxRecDepth 20000 in
theorem tX4_isHousehold {X : Cz} (a1 : Int32) (h : Hp) : Ct X mX4_isHousehold true [zr 4 0, zi a1] h (some (zi (fX4_isHousehold a1 h))) h := by
  refine Ct_of (by decide) (Nat.le_of_ble_eq_true rfl) (ls := [(0, zr 4 0), (1, zi a1)]) rfl ?_
  obtain ⟨rE, hF⟩ : ∃ z, fX4_isHousehold a1 h = z := ⟨_, rfl⟩
  rw [hF]
  unfold fX4_isHousehold at hF
  refine v_iload_n (j := 1) dX4_isHousehold_0 rfl ?_
  refine v_if_lt dX4_isHousehold_1 (by decide : _ = ((16 : Nat) : Int)) (fun q => ?_) (fun q => ?_)
  · replace hF := brT q hF
    refine v_iconst (v := 0) dX4_isHousehold_16 (by decide) ?_
    subst hF
    exact v_zret rfl (Or.inl rfl) dX4_isHousehold_17
  · replace hF := brF q hF
    refine v_iload_n (j := 1) dX4_isHousehold_4 rfl ?_
    refine v_aload_n (j := 0) dX4_isHousehold_5 rfl ?_
    refine v_getI (c := 4) rfl (Or.inl rfl) cz4 flX4_17 dX4_isHousehold_6 ?_
    refine v_icmp_ge dX4_isHousehold_9 (by decide : _ = ((16 : Nat) : Int)) (fun q => ?_) (fun q => ?_)
    · replace hF := brT q hF
      refine v_iconst (v := 0) dX4_isHousehold_16 (by decide) ?_
      subst hF
      exact v_zret rfl (Or.inl rfl) dX4_isHousehold_17
    · replace hF := brF q hF
      refine v_iconst (v := 1) dX4_isHousehold_12 (by decide) ?_
      refine v_goto (tgt := 17) dX4_isHousehold_13 (by decide) ?_
      subst hF
      exact v_zret rfl (Or.inr rfl) dX4_isHousehold_17
theorem zX4_isHousehold (a1 : Int32) (h : Hp) : fX4_isHousehold a1 h = 0 ∨ fX4_isHousehold a1 h = 1 := by
  unfold fX4_isHousehold
  try unfold br
  try unfold lb
  try dsimp only
  repeat' split
  all_goals first | exact Or.inl rfl | exact Or.inr rfl
theorem dX4_find_0 : decode cX4_find 0 = .ok (.aload_n 0, 1) := by decide +kernel
theorem dX4_find_1 : decode cX4_find 1 = .ok (.iload_n 1, 1) := by decide +kernel
theorem dX4_find_2 : decode cX4_find 2 = .ok (.invokevirtual 24, 3) := by decide +kernel
theorem dX4_find_5 : decode cX4_find 5 = .ok (.ifCond .eq 12, 3) := by decide +kernel
theorem dX4_find_8 : decode cX4_find 8 = .ok (.aload_n 0, 1) := by decide +kernel
theorem dX4_find_9 : decode cX4_find 9 = .ok (.getfield 11, 3) := by decide +kernel
theorem dX4_find_12 : decode cX4_find 12 = .ok (.iload_n 1, 1) := by decide +kernel
theorem dX4_find_13 : decode cX4_find 13 = .ok (.aaload, 1) := by decide +kernel
theorem dX4_find_14 : decode cX4_find 14 = .ok (.goto 4, 3) := by decide +kernel
theorem dX4_find_17 : decode cX4_find 17 = .ok (.aconst_null, 1) := by decide +kernel
theorem dX4_find_18 : decode cX4_find 18 = .ok (.areturn, 1) := by decide +kernel
def fX4_find (a1 : Int32) (h : Hp) : Option (Option Nat × Hp) := br ((fX4_isHousehold a1 h) = 0) (some (none, h)) (gd (ib a1 12) (lb (gR h 35 0 (ix a1)) (fun o2 => some (o2, h))))
set_option maxRecDepth 20000 in
theorem tX4_find {X : Cz} {a1 : Int32} {h hE : Hp} {rE : Option Nat} (hF : fX4_find a1 h = some (rE, hE)) : Ct X mX4_find true [zr 4 0, zi a1] h (some (zq 2 rE)) hE := by
  refine Ct_of (by decide) (Nat.le_of_ble_eq_true rfl) (ls := [(0, zr 4 0), (1, zi a1)]) rfl ?_
  unfold fX4_find at hF
  refine v_aload_n (j := 0) dX4_find_0 rfl ?_
  refine v_iload_n (j := 1) dX4_find_1 rfl ?_
  refine v_cV (hm := h) (av := [zi a1]) (st := []) (stn := [zi (fX4_isHousehold a1 h)]) (tX4_isHousehold a1 h) lcX4_isHousehold mlX4_24 imX4_isHousehold seX4_isHousehold rfl rfl rfl rfl ⟨by decide, by decide⟩ (Nat.le_of_ble_eq_true rfl) dX4_find_2 rfl rfl ?_
  refine v_if_eq dX4_find_5 (by decide : _ = ((17 : Nat) : Int)) (fun q => ?_) (fun q => ?_)
  · replace hF := brT q hF
    refine v_null dX4_find_17 ?_
    obtain ⟨rfl, rfl⟩ := ret_use hF
    exact v_aret rfl dX4_find_18
  · replace hF := brF q hF
    refine v_aload_n (j := 0) dX4_find_8 rfl ?_
    refine v_getL (c := 4) rfl rfl rfl ly4_0 cz4 flX4_11 dX4_find_9 ?_
    refine v_iload_n (j := 1) dX4_find_12 rfl ?_
    replace hF := gd_use hF
    obtain ⟨q1, hF⟩ := hF
    refine v_aald (k2 := 2) rfl (by decide) rfl q1 dX4_find_13 ?_
    refine v_topq fun o2 eo2 => ?_
    replace hF := lb_use eo2 hF
    clear eo2
    refine v_goto (tgt := 18) dX4_find_14 (by decide) ?_
    obtain ⟨rfl, rfl⟩ := ret_use hF
    exact v_aret rfl dX4_find_18
theorem dX4_rankOf_0 : decode cX4_rankOf 0 = .ok (.aload_n 0, 1) := by decide +kernel
theorem dX4_rankOf_1 : decode cX4_rankOf 1 = .ok (.iload_n 1, 1) := by decide +kernel
theorem dX4_rankOf_2 : decode cX4_rankOf 2 = .ok (.invokevirtual 28, 3) := by decide +kernel
theorem dX4_rankOf_5 : decode cX4_rankOf 5 = .ok (.astore_n 2, 1) := by decide +kernel
theorem dX4_rankOf_6 : decode cX4_rankOf 6 = .ok (.aload_n 2, 1) := by decide +kernel
theorem dX4_rankOf_7 : decode cX4_rankOf 7 = .ok (.ifnonnull 7, 3) := by decide +kernel
theorem dX4_rankOf_10 : decode cX4_rankOf 10 = .ok (.iconst (-1), 1) := by decide +kernel
theorem dX4_rankOf_11 : decode cX4_rankOf 11 = .ok (.goto 7, 3) := by decide +kernel
theorem dX4_rankOf_14 : decode cX4_rankOf 14 = .ok (.aload_n 2, 1) := by decide +kernel
theorem dX4_rankOf_15 : decode cX4_rankOf 15 = .ok (.getfield 32, 3) := by decide +kernel
theorem dX4_rankOf_18 : decode cX4_rankOf 18 = .ok (.ireturn, 1) := by decide +kernel
def fX4_rankOf (a1 : Int32) (h : Hp) : Option (Int32 × Hp) := bd (fX4_find a1 h) (fun r1 h2 => mt r1 (some ((-1), h2)) (fun z3 => some (gI h2 2 z3 0, h2)))
set_option maxRecDepth 20000 in
theorem tX4_rankOf {X : Cz} {a1 : Int32} {h hE : Hp} {rE : Int32} (hF : fX4_rankOf a1 h = some (rE, hE)) : Ct X mX4_rankOf true [zr 4 0, zi a1] h (some (zi rE)) hE := by
  refine Ct_of (by decide) (Nat.le_of_ble_eq_true rfl) (ls := [(0, zr 4 0), (1, zi a1)]) rfl ?_
  unfold fX4_rankOf at hF
  refine v_aload_n (j := 0) dX4_rankOf_0 rfl ?_
  refine v_iload_n (j := 1) dX4_rankOf_1 rfl ?_
  replace hF := bd_use hF
  obtain ⟨r1, h2, er1, hF⟩ := hF
  refine v_cV (hm := h2) (av := [zi a1]) (st := []) (stn := [zq 2 r1]) (tX4_find er1) lcX4_find mlX4_28 imX4_find seX4_find rfl rfl rfl rfl ⟨by decide, by decide⟩ (Nat.le_of_ble_eq_true rfl) dX4_rankOf_2 rfl rfl ?_
  clear er1
  refine v_astore_n (ls' := [(2, zq 2 r1), (0, zr 4 0), (1, zi a1)]) dX4_rankOf_5 (by decide) rfl ?_
  refine v_aload_n (j := 0) dX4_rankOf_6 rfl ?_
  cases r1 with
  | none =>
    replace hF := mtN hF
    refine v_ifnonnullN (tgt := 14) dX4_rankOf_7 (by decide) ?_
    refine v_iconst (v := (-1)) dX4_rankOf_10 (by decide) ?_
    refine v_goto (tgt := 18) dX4_rankOf_11 (by decide) ?_
    obtain ⟨rfl, rfl⟩ := ret_use hF
    exact v_iret rfl dX4_rankOf_18
  | some z3 =>
    replace hF := mtS hF
    refine v_ifnonnullS (q := (2, z3)) (tgt := 14) dX4_rankOf_7 (by decide) ?_
    refine v_aload_n (j := 0) dX4_rankOf_14 rfl ?_
    refine v_getI (c := 2) rfl (Or.inl rfl) cz2 flX4_32 dX4_rankOf_15 ?_
    obtain ⟨rfl, rfl⟩ := ret_use hF
    exact v_iret rfl dX4_rankOf_18
theorem dX4_isStaying_0 : decode cX4_isStaying 0 = .ok (.aload_n 0, 1) := by decide +kernel
theorem dX4_isStaying_1 : decode cX4_isStaying 1 = .ok (.iload_n 1, 1) := by decide +kernel
theorem dX4_isStaying_2 : decode cX4_isStaying 2 = .ok (.invokevirtual 28, 3) := by decide +kernel
theorem dX4_isStaying_5 : decode cX4_isStaying 5 = .ok (.astore_n 2, 1) := by decide +kernel
theorem dX4_isStaying_6 : decode cX4_isStaying 6 = .ok (.aload_n 2, 1) := by decide +kernel
theorem dX4_isStaying_7 : decode cX4_isStaying 7 = .ok (.ifnull 14, 3) := by decide +kernel
theorem dX4_isStaying_10 : decode cX4_isStaying 10 = .ok (.aload_n 2, 1) := by decide +kernel
theorem dX4_isStaying_11 : decode cX4_isStaying 11 = .ok (.getfield 35, 3) := by decide +kernel
theorem dX4_isStaying_14 : decode cX4_isStaying 14 = .ok (.ifCond .ne 7, 3) := by decide +kernel
theorem dX4_isStaying_17 : decode cX4_isStaying 17 = .ok (.iconst 1, 1) := by decide +kernel
theorem dX4_isStaying_18 : decode cX4_isStaying 18 = .ok (.goto 4, 3) := by decide +kernel
theorem dX4_isStaying_21 : decode cX4_isStaying 21 = .ok (.iconst 0, 1) := by decide +kernel
theorem dX4_isStaying_22 : decode cX4_isStaying 22 = .ok (.ireturn, 1) := by decide +kernel
def fX4_isStaying (a1 : Int32) (h : Hp) : Option (Int32 × Hp) := bd (fX4_find a1 h) (fun r1 h2 => mt r1 (some (0, h2)) (fun z3 => br ((gI h2 2 z3 3) = 0) (some (1, h2)) (some (0, h2))))
set_option maxRecDepth 20000 in
theorem tX4_isStaying {X : Cz} {a1 : Int32} {h hE : Hp} {rE : Int32} (hF : fX4_isStaying a1 h = some (rE, hE)) : Ct X mX4_isStaying true [zr 4 0, zi a1] h (some (zi rE)) hE := by
  refine Ct_of (by decide) (Nat.le_of_ble_eq_true rfl) (ls := [(0, zr 4 0), (1, zi a1)]) rfl ?_
  unfold fX4_isStaying at hF
  refine v_aload_n (j := 0) dX4_isStaying_0 rfl ?_
  refine v_iload_n (j := 1) dX4_isStaying_1 rfl ?_
  replace hF := bd_use hF
  obtain ⟨r1, h2, er1, hF⟩ := hF
  refine v_cV (hm := h2) (av := [zi a1]) (st := []) (stn := [zq 2 r1]) (tX4_find er1) lcX4_find mlX4_28 imX4_find seX4_find rfl rfl rfl rfl ⟨by decide, by decide⟩ (Nat.le_of_ble_eq_true rfl) dX4_isStaying_2 rfl rfl ?_
  clear er1
  refine v_astore_n (ls' := [(2, zq 2 r1), (0, zr 4 0), (1, zi a1)]) dX4_isStaying_5 (by decide) rfl ?_
  refine v_aload_n (j := 0) dX4_isStaying_6 rfl ?_
  cases r1 with
  | none =>
    replace hF := mtN hF
    refine v_ifnullN (tgt := 21) dX4_isStaying_7 (by decide) ?_
    refine v_iconst (v := 0) dX4_isStaying_21 (by decide) ?_
    obtain ⟨rfl, rfl⟩ := ret_use hF
    exact v_zret rfl (Or.inl rfl) dX4_isStaying_22
  | some z3 =>
    replace hF := mtS hF
    refine v_ifnullS (q := (2, z3)) (tgt := 21) dX4_isStaying_7 (by decide) ?_
    refine v_aload_n (j := 0) dX4_isStaying_10 rfl ?_
    refine v_getI (c := 2) rfl (Or.inr rfl) cz2 flX4_35 dX4_isStaying_11 ?_
    refine v_if_ne dX4_isStaying_14 (by decide : _ = ((21 : Nat) : Int)) (fun q => ?_) (fun q => ?_)
    · replace hF := brF q hF
      refine v_iconst (v := 0) dX4_isStaying_21 (by decide) ?_
      obtain ⟨rfl, rfl⟩ := ret_use hF
      exact v_zret rfl (Or.inl rfl) dX4_isStaying_22
    · replace hF := brT (Decidable.not_not.mp q) hF
      refine v_iconst (v := 1) dX4_isStaying_17 (by decide) ?_
      refine v_goto (tgt := 22) dX4_isStaying_18 (by decide) ?_
      obtain ⟨rfl, rfl⟩ := ret_use hF
      exact v_zret rfl (Or.inr rfl) dX4_isStaying_22
theorem dX4_staying_0 : decode cX4_staying 0 = .ok (.iconst 0, 1) := by decide +kernel
theorem dX4_staying_1 : decode cX4_staying 1 = .ok (.istore_n 1, 1) := by decide +kernel
theorem dX4_staying_2 : decode cX4_staying 2 = .ok (.iconst 0, 1) := by decide +kernel
theorem dX4_staying_3 : decode cX4_staying 3 = .ok (.istore_n 2, 1) := by decide +kernel
theorem dX4_staying_4 : decode cX4_staying 4 = .ok (.iload_n 2, 1) := by decide +kernel
theorem dX4_staying_5 : decode cX4_staying 5 = .ok (.aload_n 0, 1) := by decide +kernel
theorem dX4_staying_6 : decode cX4_staying 6 = .ok (.getfield 17, 3) := by decide +kernel
theorem dX4_staying_9 : decode cX4_staying 9 = .ok (.if_icmp .ge 25, 3) := by decide +kernel
theorem dX4_staying_12 : decode cX4_staying 12 = .ok (.iload_n 1, 1) := by decide +kernel
theorem dX4_staying_13 : decode cX4_staying 13 = .ok (.aload_n 0, 1) := by decide +kernel
theorem dX4_staying_14 : decode cX4_staying 14 = .ok (.iload_n 2, 1) := by decide +kernel
theorem dX4_staying_15 : decode cX4_staying 15 = .ok (.invokevirtual 39, 3) := by decide +kernel
theorem dX4_staying_18 : decode cX4_staying 18 = .ok (.ifCond .eq 7, 3) := by decide +kernel
theorem dX4_staying_21 : decode cX4_staying 21 = .ok (.iconst 1, 1) := by decide +kernel
theorem dX4_staying_22 : decode cX4_staying 22 = .ok (.goto 4, 3) := by decide +kernel
theorem dX4_staying_25 : decode cX4_staying 25 = .ok (.iconst 0, 1) := by decide +kernel
theorem dX4_staying_26 : decode cX4_staying 26 = .ok (.iadd, 1) := by decide +kernel
theorem dX4_staying_27 : decode cX4_staying 27 = .ok (.istore_n 1, 1) := by decide +kernel
theorem dX4_staying_28 : decode cX4_staying 28 = .ok (.iinc 2 1, 3) := by decide +kernel
theorem dX4_staying_31 : decode cX4_staying 31 = .ok (.goto (-27), 3) := by decide +kernel
theorem dX4_staying_34 : decode cX4_staying 34 = .ok (.iload_n 1, 1) := by decide +kernel
theorem dX4_staying_35 : decode cX4_staying 35 = .ok (.ireturn, 1) := by decide +kernel
def fX4_staying_L4 : Nat → Int32 → Int32 → Hp → Option ((Int32 × Int32) × Hp)
  | 0, _, _, _ => none
  | n + 1, a1, a2, h => br ((gI h 4 0 1) ≤ a2) (some ((a1, a2), h)) (bd (fX4_isStaying a2 h) (fun r1 h2 => br (r1 = 0) (lb (a1 + 0) (fun v3 => lb (a2 + 1) (fun v4 => fX4_staying_L4 n v3 v4 h2))) (lb (a1 + 1) (fun v5 => lb (a2 + 1) (fun v6 => fX4_staying_L4 n v5 v6 h2)))))
def fX4_staying (h : Hp) : Option (Int32 × Hp) := bd (fX4_staying_L4 FU 0 0 h) (fun t8 h7 => lb t8.1 (fun v9 => lb t8.2 (fun v10 => some (v9, h7))))
set_option maxRecDepth 20000 in
theorem tX4_staying_L4 {X : Cz} {h0 : Hp} {r : Option AV} {hE : Hp} : ∀ (n : Nat) (a1 : Int32) (a2 : Int32) (h : Hp) (z : (Int32 × Int32) × Hp), fX4_staying_L4 n a1 a2 h = some z → V X mX4_staying true h0 34 [(0, zr 4 0), (1, zi z.1.1), (2, zi z.1.2)] [] z.2 r hE → V X mX4_staying true h0 4 [(0, zr 4 0), (1, zi a1), (2, zi a2)] [] h r hE := by
  intro n
  induction n with
  | zero => intro a1 a2 h z hF k; cases hF
  | succ n ih =>
    intro a1 a2 h z hF k
    rw [fX4_staying_L4] at hF
    refine v_iload_n (j := 2) dX4_staying_4 rfl ?_
    refine v_aload_n (j := 0) dX4_staying_5 rfl ?_
    refine v_getI (c := 4) rfl (Or.inl rfl) cz4 flX4_17 dX4_staying_6 ?_
    refine v_icmp_ge dX4_staying_9 (by decide : _ = ((34 : Nat) : Int)) (fun q => ?_) (fun q => ?_)
    · replace hF := brT q hF
      cases hF
      exact k
    · replace hF := brF q hF
      refine v_iload_n (j := 1) dX4_staying_12 rfl ?_
      refine v_aload_n (j := 0) dX4_staying_13 rfl ?_
      refine v_iload_n (j := 2) dX4_staying_14 rfl ?_
      replace hF := bd_use hF
      obtain ⟨r1, h2, er1, hF⟩ := hF
      refine v_cV (hm := h2) (av := [zi a2]) (st := [zi a1]) (stn := [zi r1, zi a1]) (tX4_isStaying er1) lcX4_isStaying mlX4_39 imX4_isStaying seX4_isStaying rfl rfl rfl rfl ⟨by decide, by decide⟩ (Nat.le_of_ble_eq_true rfl) dX4_staying_15 rfl rfl ?_
      clear er1
      refine v_if_eq dX4_staying_18 (by decide : _ = ((25 : Nat) : Int)) (fun q => ?_) (fun q => ?_)
      · replace hF := brT q hF
        refine v_iconst (v := 0) dX4_staying_25 (by decide) ?_
        refine v_iadd dX4_staying_26 ?_
        refine v_topi fun v3 ev3 => ?_
        replace hF := lb_use ev3 hF
        clear ev3
        refine v_istore_n (ls' := [(1, zi v3), (0, zr 4 0), (2, zi a2)]) dX4_staying_27 (by decide) rfl ?_
        obtain ⟨v4, ev4⟩ : ∃ y : Int32, y = a2 + 1 := ⟨_, rfl⟩
        replace hF := lb_use ev4 hF
        refine v_iinc (j := 2) (v := v4) (ls' := [(2, zi v4), (1, zi v3), (0, zr 4 0)]) dX4_staying_28 rfl (by rw [ev4]; rfl) (by decide) rfl ?_
        clear ev4
        refine v_goto (tgt := 4) dX4_staying_31 (by decide) ?_
        refine v_sub [2, 1, 0] rfl ?_
        exact ih v3 v4 h2 _ hF k
      · replace hF := brF q hF
        refine v_iconst (v := 1) dX4_staying_21 (by decide) ?_
        refine v_goto (tgt := 26) dX4_staying_22 (by decide) ?_
        refine v_iadd dX4_staying_26 ?_
        refine v_topi fun v5 ev5 => ?_
        replace hF := lb_use ev5 hF
        clear ev5
        refine v_istore_n (ls' := [(1, zi v5), (0, zr 4 0), (2, zi a2)]) dX4_staying_27 (by decide) rfl ?_
        obtain ⟨v6, ev6⟩ : ∃ y : Int32, y = a2 + 1 := ⟨_, rfl⟩
        replace hF := lb_use ev6 hF
        refine v_iinc (j := 2) (v := v6) (ls' := [(2, zi v6), (1, zi v5), (0, zr 4 0)]) dX4_staying_28 rfl (by rw [ev6]; rfl) (by decide) rfl ?_
        clear ev6
        refine v_goto (tgt := 4) dX4_staying_31 (by decide) ?_
        refine v_sub [2, 1, 0] rfl ?_
        exact ih v5 v6 h2 _ hF k
set_option maxRecDepth 20000 in
theorem tX4_staying {X : Cz} {h hE : Hp} {rE : Int32} (hF : fX4_staying h = some (rE, hE)) : Ct X mX4_staying true [zr 4 0] h (some (zi rE)) hE := by
  refine Ct_of (by decide) (Nat.le_of_ble_eq_true rfl) (ls := [(0, zr 4 0)]) rfl ?_
  unfold fX4_staying at hF
  refine v_iconst (v := 0) dX4_staying_0 (by decide) ?_
  refine v_istore_n (ls' := [(1, zi 0), (0, zr 4 0)]) dX4_staying_1 (by decide) rfl ?_
  refine v_iconst (v := 0) dX4_staying_2 (by decide) ?_
  refine v_istore_n (ls' := [(2, zi 0), (1, zi 0), (0, zr 4 0)]) dX4_staying_3 (by decide) rfl ?_
  refine v_sub [2, 1, 0] rfl ?_
  replace hF := bd_use hF
  obtain ⟨t8, h7, et8, hF⟩ := hF
  refine tX4_staying_L4 _ 0 0 h _ et8 ?_
  clear et8
  obtain ⟨v9, v10⟩ := t8
  replace hF := lb_use (x := v9) rfl hF
  replace hF := lb_use (x := v10) rfl hF
  refine v_iload_n (j := 1) dX4_staying_34 rfl ?_
  obtain ⟨rfl, rfl⟩ := ret_use hF
  exact v_iret rfl dX4_staying_35
theorem dX4_noteYear_0 : decode cX4_noteYear 0 = .ok (.aload_n 0, 1) := by decide +kernel
theorem dX4_noteYear_1 : decode cX4_noteYear 1 = .ok (.iload_n 1, 1) := by decide +kernel
theorem dX4_noteYear_2 : decode cX4_noteYear 2 = .ok (.invokevirtual 28, 3) := by decide +kernel
theorem dX4_noteYear_5 : decode cX4_noteYear 5 = .ok (.astore_n 3, 1) := by decide +kernel
theorem dX4_noteYear_6 : decode cX4_noteYear 6 = .ok (.aload_n 3, 1) := by decide +kernel
theorem dX4_noteYear_7 : decode cX4_noteYear 7 = .ok (.ifnull 17, 3) := by decide +kernel
theorem dX4_noteYear_10 : decode cX4_noteYear 10 = .ok (.iload_n 2, 1) := by decide +kernel
theorem dX4_noteYear_11 : decode cX4_noteYear 11 = .ok (.ifCond .eq 13, 3) := by decide +kernel
theorem dX4_noteYear_14 : decode cX4_noteYear 14 = .ok (.aload_n 3, 1) := by decide +kernel
theorem dX4_noteYear_15 : decode cX4_noteYear 15 = .ok (.dup, 1) := by decide +kernel
theorem dX4_noteYear_16 : decode cX4_noteYear 16 = .ok (.getfield 42, 3) := by decide +kernel
theorem dX4_noteYear_19 : decode cX4_noteYear 19 = .ok (.iconst 1, 1) := by decide +kernel
theorem dX4_noteYear_20 : decode cX4_noteYear 20 = .ok (.iadd, 1) := by decide +kernel
theorem dX4_noteYear_21 : decode cX4_noteYear 21 = .ok (.putfield 42, 3) := by decide +kernel
theorem dX4_noteYear_24 : decode cX4_noteYear 24 = .ok (.return_, 1) := by decide +kernel
def fX4_noteYear (a1 : Int32) (a2 : Int32) (h : Hp) : Option (Unit × Hp) := bd (fX4_find a1 h) (fun r1 h2 => mt r1 (some ((), h2)) (fun z3 => br (a2 = 0) (some ((), h2)) (lb (sI h2 2 z3 4 ((gI h2 2 z3 4) + 1)) (fun h4 => some ((), h4)))))
set_option maxRecDepth 20000 in
theorem tX4_noteYear {X : Cz} {a1 : Int32} {a2 : Int32} {h hE : Hp} {rE : Unit} (hF : fX4_noteYear a1 a2 h = some (rE, hE)) : Ct X mX4_noteYear true [zr 4 0, zi a1, zi a2] h (none) hE := by
  refine Ct_of (by decide) (Nat.le_of_ble_eq_true rfl) (ls := [(0, zr 4 0), (1, zi a1), (2, zi a2)]) rfl ?_
  unfold fX4_noteYear at hF
  refine v_aload_n (j := 0) dX4_noteYear_0 rfl ?_
  refine v_iload_n (j := 1) dX4_noteYear_1 rfl ?_
  replace hF := bd_use hF
  obtain ⟨r1, h2, er1, hF⟩ := hF
  refine v_cV (hm := h2) (av := [zi a1]) (st := []) (stn := [zq 2 r1]) (tX4_find er1) lcX4_find mlX4_28 imX4_find seX4_find rfl rfl rfl rfl ⟨by decide, by decide⟩ (Nat.le_of_ble_eq_true rfl) dX4_noteYear_2 rfl rfl ?_
  clear er1
  refine v_astore_n (ls' := [(3, zq 2 r1), (0, zr 4 0), (1, zi a1), (2, zi a2)]) dX4_noteYear_5 (by decide) rfl ?_
  refine v_aload_n (j := 0) dX4_noteYear_6 rfl ?_
  cases r1 with
  | none =>
    replace hF := mtN hF
    refine v_ifnullN (tgt := 24) dX4_noteYear_7 (by decide) ?_
    cases hF
    exact v_vret rfl dX4_noteYear_24
  | some z3 =>
    replace hF := mtS hF
    refine v_ifnullS (q := (2, z3)) (tgt := 24) dX4_noteYear_7 (by decide) ?_
    refine v_iload_n (j := 3) dX4_noteYear_10 rfl ?_
    refine v_if_eq dX4_noteYear_11 (by decide : _ = ((24 : Nat) : Int)) (fun q => ?_) (fun q => ?_)
    · replace hF := brT q hF
      cases hF
      exact v_vret rfl dX4_noteYear_24
    · replace hF := brF q hF
      refine v_aload_n (j := 0) dX4_noteYear_14 rfl ?_
      refine v_dup dX4_noteYear_15 rfl ?_
      refine v_getI (c := 2) rfl (Or.inl rfl) cz2 flX4_42 dX4_noteYear_16 ?_
      refine v_iconst (v := 1) dX4_noteYear_19 (by decide) ?_
      refine v_iadd dX4_noteYear_20 ?_
      refine v_putI (c := 2) rfl rfl (Nat.le_of_ble_eq_true rfl) cz2 flX4_42 dX4_noteYear_21 ?_
      refine v_toph fun h4 eh4 => ?_
      replace hF := lb_use eh4 hF
      clear eh4
      cases hF
      exact v_vret rfl dX4_noteYear_24
theorem dX4_fillOrder_0 : decode cX4_fillOrder 0 = .ok (.iconst 0, 1) := by decide +kernel
theorem dX4_fillOrder_1 : decode cX4_fillOrder 1 = .ok (.istore_n 2, 1) := by decide +kernel
theorem dX4_fillOrder_2 : decode cX4_fillOrder 2 = .ok (.iconst 0, 1) := by decide +kernel
theorem dX4_fillOrder_3 : decode cX4_fillOrder 3 = .ok (.istore_n 3, 1) := by decide +kernel
theorem dX4_fillOrder_4 : decode cX4_fillOrder 4 = .ok (.iload_n 3, 1) := by decide +kernel
theorem dX4_fillOrder_5 : decode cX4_fillOrder 5 = .ok (.aload_n 0, 1) := by decide +kernel
theorem dX4_fillOrder_6 : decode cX4_fillOrder 6 = .ok (.getfield 17, 3) := by decide +kernel
theorem dX4_fillOrder_9 : decode cX4_fillOrder 9 = .ok (.if_icmp .ge 88, 3) := by decide +kernel
theorem dX4_fillOrder_12 : decode cX4_fillOrder 12 = .ok (.iload_n 2, 1) := by decide +kernel
theorem dX4_fillOrder_13 : decode cX4_fillOrder 13 = .ok (.aload_n 1, 1) := by decide +kernel
theorem dX4_fillOrder_14 : decode cX4_fillOrder 14 = .ok (.arraylength, 1) := by decide +kernel
theorem dX4_fillOrder_15 : decode cX4_fillOrder 15 = .ok (.if_icmp .ge 82, 3) := by decide +kernel
theorem dX4_fillOrder_18 : decode cX4_fillOrder 18 = .ok (.aload_n 0, 1) := by decide +kernel
theorem dX4_fillOrder_19 : decode cX4_fillOrder 19 = .ok (.iload_n 3, 1) := by decide +kernel
theorem dX4_fillOrder_20 : decode cX4_fillOrder 20 = .ok (.invokevirtual 28, 3) := by decide +kernel
theorem dX4_fillOrder_23 : decode cX4_fillOrder 23 = .ok (.astore 4, 2) := by decide +kernel
theorem dX4_fillOrder_25 : decode cX4_fillOrder 25 = .ok (.aload 4, 2) := by decide +kernel
theorem dX4_fillOrder_27 : decode cX4_fillOrder 27 = .ok (.ifnull 64, 3) := by decide +kernel
theorem dX4_fillOrder_30 : decode cX4_fillOrder 30 = .ok (.aload 4, 2) := by decide +kernel
theorem dX4_fillOrder_32 : decode cX4_fillOrder 32 = .ok (.getfield 35, 3) := by decide +kernel
theorem dX4_fillOrder_35 : decode cX4_fillOrder 35 = .ok (.ifCond .eq 6, 3) := by decide +kernel
theorem dX4_fillOrder_38 : decode cX4_fillOrder 38 = .ok (.goto 53, 3) := by decide +kernel
theorem dX4_fillOrder_41 : decode cX4_fillOrder 41 = .ok (.iload_n 2, 1) := by decide +kernel
theorem dX4_fillOrder_42 : decode cX4_fillOrder 42 = .ok (.istore 5, 2) := by decide +kernel
theorem dX4_fillOrder_44 : decode cX4_fillOrder 44 = .ok (.iload 5, 2) := by decide +kernel
theorem dX4_fillOrder_46 : decode cX4_fillOrder 46 = .ok (.ifCond .le 37, 3) := by decide +kernel
theorem dX4_fillOrder_49 : decode cX4_fillOrder 49 = .ok (.aload_n 0, 1) := by decide +kernel
theorem dX4_fillOrder_50 : decode cX4_fillOrder 50 = .ok (.aload_n 1, 1) := by decide +kernel
theorem dX4_fillOrder_51 : decode cX4_fillOrder 51 = .ok (.iload 5, 2) := by decide +kernel
theorem dX4_fillOrder_53 : decode cX4_fillOrder 53 = .ok (.iconst 1, 1) := by decide +kernel
theorem dX4_fillOrder_54 : decode cX4_fillOrder 54 = .ok (.isub, 1) := by decide +kernel
theorem dX4_fillOrder_55 : decode cX4_fillOrder 55 = .ok (.iaload, 1) := by decide +kernel
theorem dX4_fillOrder_56 : decode cX4_fillOrder 56 = .ok (.invokevirtual 45, 3) := by decide +kernel
theorem dX4_fillOrder_59 : decode cX4_fillOrder 59 = .ok (.aload 4, 2) := by decide +kernel
theorem dX4_fillOrder_61 : decode cX4_fillOrder 61 = .ok (.getfield 32, 3) := by decide +kernel
theorem dX4_fillOrder_64 : decode cX4_fillOrder 64 = .ok (.if_icmp .ge 19, 3) := by decide +kernel
theorem dX4_fillOrder_67 : decode cX4_fillOrder 67 = .ok (.aload_n 1, 1) := by decide +kernel
theorem dX4_fillOrder_68 : decode cX4_fillOrder 68 = .ok (.iload 5, 2) := by decide +kernel
theorem dX4_fillOrder_70 : decode cX4_fillOrder 70 = .ok (.aload_n 1, 1) := by decide +kernel
theorem dX4_fillOrder_71 : decode cX4_fillOrder 71 = .ok (.iload 5, 2) := by decide +kernel
theorem dX4_fillOrder_73 : decode cX4_fillOrder 73 = .ok (.iconst 1, 1) := by decide +kernel
theorem dX4_fillOrder_74 : decode cX4_fillOrder 74 = .ok (.isub, 1) := by decide +kernel
theorem dX4_fillOrder_75 : decode cX4_fillOrder 75 = .ok (.iaload, 1) := by decide +kernel
theorem dX4_fillOrder_76 : decode cX4_fillOrder 76 = .ok (.iastore, 1) := by decide +kernel
theorem dX4_fillOrder_77 : decode cX4_fillOrder 77 = .ok (.iinc 5 (-1), 3) := by decide +kernel
theorem dX4_fillOrder_80 : decode cX4_fillOrder 80 = .ok (.goto (-36), 3) := by decide +kernel
theorem dX4_fillOrder_83 : decode cX4_fillOrder 83 = .ok (.aload_n 1, 1) := by decide +kernel
theorem dX4_fillOrder_84 : decode cX4_fillOrder 84 = .ok (.iload 5, 2) := by decide +kernel
theorem dX4_fillOrder_86 : decode cX4_fillOrder 86 = .ok (.iload_n 3, 1) := by decide +kernel
theorem dX4_fillOrder_87 : decode cX4_fillOrder 87 = .ok (.iastore, 1) := by decide +kernel
theorem dX4_fillOrder_88 : decode cX4_fillOrder 88 = .ok (.iinc 2 1, 3) := by decide +kernel
theorem dX4_fillOrder_91 : decode cX4_fillOrder 91 = .ok (.iinc 3 1, 3) := by decide +kernel
theorem dX4_fillOrder_94 : decode cX4_fillOrder 94 = .ok (.goto (-90), 3) := by decide +kernel
theorem dX4_fillOrder_97 : decode cX4_fillOrder 97 = .ok (.iload_n 2, 1) := by decide +kernel
theorem dX4_fillOrder_98 : decode cX4_fillOrder 98 = .ok (.ireturn, 1) := by decide +kernel
def fX4_fillOrder_L44 : Nat → Int32 → Int32 → Nat → Int32 → Hp → Option ((Int32) × Hp)
  | 0, _, _, _, _, _ => none
  | n + 1, a2, a3, a4, a5, h => br (a5 ≤ 0) (some ((a5), h)) (gd (ib (a5 - 1) 12) (bd (fX4_rankOf (gI h 49 0 (ix (a5 - 1))) h) (fun r6 h7 => br ((gI h7 2 a4 0) ≤ r6) (some ((a5), h7)) (gd (ib (a5 - 1) 12) (gd (ib a5 12) (lb (sI h7 49 0 (ix a5) (gI h7 49 0 (ix (a5 - 1)))) (fun h10 => lb (a5 + (-1)) (fun v11 => fX4_fillOrder_L44 n a2 a3 a4 v11 h10))))))))
def fX4_fillOrder_L4 : Nat → Int32 → Int32 → Hp → Option ((Int32 × Int32) × Hp)
  | 0, _, _, _ => none
  | n + 1, a2, a3, h => br ((gI h 4 0 1) ≤ a3) (some ((a2, a3), h)) (br (((Int32.ofNat 12)) ≤ a2) (some ((a2, a3), h)) (bd (fX4_find a3 h) (fun r1 h2 => mt r1 (lb (a3 + 1) (fun v4 => fX4_fillOrder_L4 n a2 v4 h2)) (fun z3 => br ((gI h2 2 z3 3) = 0) (bd (fX4_fillOrder_L44 FU a2 a3 z3 a2 h2) (fun v14 h12 => gd (ib v14 12) (lb (sI h12 49 0 (ix v14) a3) (fun h16 => lb (a2 + 1) (fun v17 => lb (a3 + 1) (fun v18 => fX4_fillOrder_L4 n v17 v18 h16)))))) (lb (a3 + 1) (fun v19 => fX4_fillOrder_L4 n a2 v19 h2))))))
def fX4_fillOrder (h : Hp) : Option (Int32 × Hp) := bd (fX4_fillOrder_L4 FU 0 0 h) (fun t21 h20 => lb t21.1 (fun v22 => lb t21.2 (fun v23 => some (v22, h20))))
set_option maxRecDepth 20000 in
theorem tX4_fillOrder_L44 {X : Cz} {h0 : Hp} {r : Option AV} {hE : Hp} : ∀ (n : Nat) (a2 : Int32) (a3 : Int32) (a4 : Nat) (a5 : Int32) (h : Hp) (z : (Int32) × Hp), fX4_fillOrder_L44 n a2 a3 a4 a5 h = some z → V X mX4_fillOrder true h0 83 [(0, zr 4 0), (1, zr 49 0), (2, zi a2), (3, zi a3), (4, zr 2 a4), (5, zi z.1)] [] z.2 r hE → V X mX4_fillOrder true h0 44 [(0, zr 4 0), (1, zr 49 0), (2, zi a2), (3, zi a3), (4, zr 2 a4), (5, zi a5)] [] h r hE := by
  intro n
  induction n with
  | zero => intro a2 a3 a4 a5 h z hF k; cases hF
  | succ n ih =>
    intro a2 a3 a4 a5 h z hF k
    rw [fX4_fillOrder_L44] at hF
    refine v_iload (j := 5) dX4_fillOrder_44 rfl ?_
    refine v_if_le dX4_fillOrder_46 (by decide : _ = ((83 : Nat) : Int)) (fun q => ?_) (fun q => ?_)
    · replace hF := brT q hF
      cases hF
      exact k
    · replace hF := brF q hF
      refine v_aload_n (j := 0) dX4_fillOrder_49 rfl ?_
      refine v_aload_n (j := 1) dX4_fillOrder_50 rfl ?_
      refine v_iload (j := 5) dX4_fillOrder_51 rfl ?_
      refine v_iconst (v := 1) dX4_fillOrder_53 (by decide) ?_
      refine v_isub dX4_fillOrder_54 ?_
      replace hF := gd_use hF
      obtain ⟨q5, hF⟩ := hF
      refine v_iald rfl q5 dX4_fillOrder_55 ?_
      replace hF := bd_use hF
      obtain ⟨r6, h7, er6, hF⟩ := hF
      refine v_cV (hm := h7) (av := [zi (gI h 49 0 (ix (a5 - 1)))]) (st := []) (stn := [zi r6]) (tX4_rankOf er6) lcX4_rankOf mlX4_45 imX4_rankOf seX4_rankOf rfl rfl rfl rfl ⟨by decide, by decide⟩ (Nat.le_of_ble_eq_true rfl) dX4_fillOrder_56 rfl rfl ?_
      clear er6
      refine v_aload (j := 4) dX4_fillOrder_59 rfl ?_
      refine v_getI (c := 2) rfl (Or.inl rfl) cz2 flX4_32 dX4_fillOrder_61 ?_
      refine v_icmp_ge dX4_fillOrder_64 (by decide : _ = ((83 : Nat) : Int)) (fun q => ?_) (fun q => ?_)
      · replace hF := brT q hF
        cases hF
        exact k
      · replace hF := brF q hF
        refine v_aload_n (j := 1) dX4_fillOrder_67 rfl ?_
        refine v_iload (j := 5) dX4_fillOrder_68 rfl ?_
        refine v_aload_n (j := 1) dX4_fillOrder_70 rfl ?_
        refine v_iload (j := 5) dX4_fillOrder_71 rfl ?_
        refine v_iconst (v := 1) dX4_fillOrder_73 (by decide) ?_
        refine v_isub dX4_fillOrder_74 ?_
        replace hF := gd_use hF
        obtain ⟨q8, hF⟩ := hF
        refine v_iald rfl q8 dX4_fillOrder_75 ?_
        replace hF := gd_use hF
        obtain ⟨q9, hF⟩ := hF
        refine v_iast rfl q9 dX4_fillOrder_76 ?_
        refine v_toph fun h10 eh10 => ?_
        replace hF := lb_use eh10 hF
        clear eh10
        obtain ⟨v11, ev11⟩ : ∃ y : Int32, y = a5 + (-1) := ⟨_, rfl⟩
        replace hF := lb_use ev11 hF
        refine v_iinc (j := 5) (v := v11) (ls' := [(5, zi v11), (0, zr 4 0), (1, zr 49 0), (2, zi a2), (3, zi a3), (4, zr 2 a4)]) dX4_fillOrder_77 rfl (by rw [ev11]; rfl) (by decide) rfl ?_
        clear ev11
        refine v_goto (tgt := 44) dX4_fillOrder_80 (by decide) ?_
        refine v_sub [1, 2, 3, 4, 5, 0] rfl ?_
        exact ih a2 a3 a4 v11 h10 _ hF k
set_option maxRecDepth 20000 in
theorem tX4_fillOrder_L4 {X : Cz} {h0 : Hp} {r : Option AV} {hE : Hp} : ∀ (n : Nat) (a2 : Int32) (a3 : Int32) (h : Hp) (z : (Int32 × Int32) × Hp), fX4_fillOrder_L4 n a2 a3 h = some z → V X mX4_fillOrder true h0 97 [(0, zr 4 0), (1, zr 49 0), (2, zi z.1.1), (3, zi z.1.2)] [] z.2 r hE → V X mX4_fillOrder true h0 4 [(0, zr 4 0), (1, zr 49 0), (2, zi a2), (3, zi a3)] [] h r hE := by
  intro n
  induction n with
  | zero => intro a2 a3 h z hF k; cases hF
  | succ n ih =>
    intro a2 a3 h z hF k
    rw [fX4_fillOrder_L4] at hF
    refine v_iload_n (j := 3) dX4_fillOrder_4 rfl ?_
    refine v_aload_n (j := 0) dX4_fillOrder_5 rfl ?_
    refine v_getI (c := 4) rfl (Or.inl rfl) cz4 flX4_17 dX4_fillOrder_6 ?_
    refine v_icmp_ge dX4_fillOrder_9 (by decide : _ = ((97 : Nat) : Int)) (fun q => ?_) (fun q => ?_)
    · replace hF := brT q hF
      cases hF
      exact k
    · replace hF := brF q hF
      refine v_iload_n (j := 2) dX4_fillOrder_12 rfl ?_
      refine v_aload_n (j := 1) dX4_fillOrder_13 rfl ?_
      refine v_alen rfl dX4_fillOrder_14 ?_
      refine v_icmp_ge dX4_fillOrder_15 (by decide : _ = ((97 : Nat) : Int)) (fun q => ?_) (fun q => ?_)
      · replace hF := brT q hF
        cases hF
        exact k
      · replace hF := brF q hF
        refine v_aload_n (j := 0) dX4_fillOrder_18 rfl ?_
        refine v_iload_n (j := 3) dX4_fillOrder_19 rfl ?_
        replace hF := bd_use hF
        obtain ⟨r1, h2, er1, hF⟩ := hF
        refine v_cV (hm := h2) (av := [zi a3]) (st := []) (stn := [zq 2 r1]) (tX4_find er1) lcX4_find mlX4_28 imX4_find seX4_find rfl rfl rfl rfl ⟨by decide, by decide⟩ (Nat.le_of_ble_eq_true rfl) dX4_fillOrder_20 rfl rfl ?_
        clear er1
        refine v_astore (ls' := [(4, zq 2 r1), (0, zr 4 0), (1, zr 49 0), (2, zi a2), (3, zi a3)]) dX4_fillOrder_23 (by decide) rfl ?_
        refine v_aload (j := 0) dX4_fillOrder_25 rfl ?_
        cases r1 with
        | none =>
          replace hF := mtN hF
          refine v_ifnullN (tgt := 91) dX4_fillOrder_27 (by decide) ?_
          obtain ⟨v4, ev4⟩ : ∃ y : Int32, y = a3 + 1 := ⟨_, rfl⟩
          replace hF := lb_use ev4 hF
          refine v_iinc (j := 4) (v := v4) (ls' := [(3, zi v4), (4, zo), (0, zr 4 0), (1, zr 49 0), (2, zi a2)]) dX4_fillOrder_91 rfl (by rw [ev4]; rfl) (by decide) rfl ?_
          clear ev4
          refine v_goto (tgt := 4) dX4_fillOrder_94 (by decide) ?_
          refine v_sub [2, 3, 4, 0] rfl ?_
          exact ih a2 v4 h2 _ hF k
        | some z3 =>
          replace hF := mtS hF
          refine v_ifnullS (q := (2, z3)) (tgt := 91) dX4_fillOrder_27 (by decide) ?_
          refine v_aload (j := 0) dX4_fillOrder_30 rfl ?_
          refine v_getI (c := 2) rfl (Or.inr rfl) cz2 flX4_35 dX4_fillOrder_32 ?_
          refine v_if_eq dX4_fillOrder_35 (by decide : _ = ((41 : Nat) : Int)) (fun q => ?_) (fun q => ?_)
          · replace hF := brT q hF
            refine v_iload_n (j := 3) dX4_fillOrder_41 rfl ?_
            refine v_istore (ls' := [(5, zi a2), (4, zr 2 z3), (0, zr 4 0), (1, zr 49 0), (2, zi a2), (3, zi a3)]) dX4_fillOrder_42 (by decide) rfl ?_
            refine v_sub [2, 3, 4, 5, 1, 0] rfl ?_
            replace hF := bd_use hF
            obtain ⟨v14, h12, ev14, hF⟩ := hF
            refine tX4_fillOrder_L44 _ a2 a3 z3 a2 h2 _ ev14 ?_
            clear ev14
            refine v_aload_n (j := 1) dX4_fillOrder_83 rfl ?_
            refine v_iload (j := 5) dX4_fillOrder_84 rfl ?_
            refine v_iload_n (j := 3) dX4_fillOrder_86 rfl ?_
            replace hF := gd_use hF
            obtain ⟨q15, hF⟩ := hF
            refine v_iast rfl q15 dX4_fillOrder_87 ?_
            refine v_toph fun h16 eh16 => ?_
            replace hF := lb_use eh16 hF
            clear eh16
            obtain ⟨v17, ev17⟩ : ∃ y : Int32, y = a2 + 1 := ⟨_, rfl⟩
            replace hF := lb_use ev17 hF
            refine v_iinc (j := 2) (v := v17) (ls' := [(2, zi v17), (0, zr 4 0), (1, zr 49 0), (3, zi a3), (4, zr 2 z3), (5, zi v14)]) dX4_fillOrder_88 rfl (by rw [ev17]; rfl) (by decide) rfl ?_
            clear ev17
            obtain ⟨v18, ev18⟩ : ∃ y : Int32, y = a3 + 1 := ⟨_, rfl⟩
            replace hF := lb_use ev18 hF
            refine v_iinc (j := 3) (v := v18) (ls' := [(3, zi v18), (2, zi v17), (0, zr 4 0), (1, zr 49 0), (4, zr 2 z3), (5, zi v14)]) dX4_fillOrder_91 rfl (by rw [ev18]; rfl) (by decide) rfl ?_
            clear ev18
            refine v_goto (tgt := 4) dX4_fillOrder_94 (by decide) ?_
            refine v_sub [2, 3, 1, 0] rfl ?_
            exact ih v17 v18 h16 _ hF k
          · replace hF := brF q hF
            refine v_goto (tgt := 91) dX4_fillOrder_38 (by decide) ?_
            obtain ⟨v19, ev19⟩ : ∃ y : Int32, y = a3 + 1 := ⟨_, rfl⟩
            replace hF := lb_use ev19 hF
            refine v_iinc (j := 4) (v := v19) (ls' := [(3, zi v19), (4, zr 2 z3), (0, zr 4 0), (1, zr 49 0), (2, zi a2)]) dX4_fillOrder_91 rfl (by rw [ev19]; rfl) (by decide) rfl ?_
            clear ev19
            refine v_goto (tgt := 4) dX4_fillOrder_94 (by decide) ?_
            refine v_sub [2, 3, 4, 0] rfl ?_
            exact ih a2 v19 h2 _ hF k
set_option maxRecDepth 20000 in
theorem tX4_fillOrder {X : Cz} {h hE : Hp} {rE : Int32} (hF : fX4_fillOrder h = some (rE, hE)) : Ct X mX4_fillOrder true [zr 4 0, zr 49 0] h (some (zi rE)) hE := by
  refine Ct_of (by decide) (Nat.le_of_ble_eq_true rfl) (ls := [(0, zr 4 0), (1, zr 49 0)]) rfl ?_
  unfold fX4_fillOrder at hF
  refine v_iconst (v := 0) dX4_fillOrder_0 (by decide) ?_
  refine v_istore_n (ls' := [(2, zi 0), (0, zr 4 0), (1, zr 49 0)]) dX4_fillOrder_1 (by decide) rfl ?_
  refine v_iconst (v := 0) dX4_fillOrder_2 (by decide) ?_
  refine v_istore_n (ls' := [(3, zi 0), (2, zi 0), (0, zr 4 0), (1, zr 49 0)]) dX4_fillOrder_3 (by decide) rfl ?_
  refine v_sub [2, 3, 1, 0] rfl ?_
  replace hF := bd_use hF
  obtain ⟨t21, h20, et21, hF⟩ := hF
  refine tX4_fillOrder_L4 _ 0 0 h _ et21 ?_
  clear et21
  obtain ⟨v22, v23⟩ := t21
  replace hF := lb_use (x := v22) rfl hF
  replace hF := lb_use (x := v23) rfl hF
  refine v_iload_n (j := 2) dX4_fillOrder_97 rfl ?_
  obtain ⟨rfl, rfl⟩ := ret_use hF
  exact v_iret rfl dX4_fillOrder_98
theorem dX4_worthOfAll_0 : decode cX4_worthOfAll 0 = .ok (.lconst 0, 1) := by decide +kernel
theorem dX4_worthOfAll_1 : decode cX4_worthOfAll 1 = .ok (.lstore_n 2, 1) := by decide +kernel
theorem dX4_worthOfAll_2 : decode cX4_worthOfAll 2 = .ok (.iconst 0, 1) := by decide +kernel
theorem dX4_worthOfAll_3 : decode cX4_worthOfAll 3 = .ok (.istore 4, 2) := by decide +kernel
theorem dX4_worthOfAll_5 : decode cX4_worthOfAll 5 = .ok (.iload 4, 2) := by decide +kernel
theorem dX4_worthOfAll_7 : decode cX4_worthOfAll 7 = .ok (.aload_n 0, 1) := by decide +kernel
theorem dX4_worthOfAll_8 : decode cX4_worthOfAll 8 = .ok (.getfield 17, 3) := by decide +kernel
theorem dX4_worthOfAll_11 : decode cX4_worthOfAll 11 = .ok (.if_icmp .ge 51, 3) := by decide +kernel
theorem dX4_worthOfAll_14 : decode cX4_worthOfAll 14 = .ok (.aload_n 0, 1) := by decide +kernel
theorem dX4_worthOfAll_15 : decode cX4_worthOfAll 15 = .ok (.iload 4, 2) := by decide +kernel
theorem dX4_worthOfAll_17 : decode cX4_worthOfAll 17 = .ok (.invokevirtual 28, 3) := by decide +kernel
theorem dX4_worthOfAll_20 : decode cX4_worthOfAll 20 = .ok (.astore 5, 2) := by decide +kernel
theorem dX4_worthOfAll_22 : decode cX4_worthOfAll 22 = .ok (.aload 5, 2) := by decide +kernel
theorem dX4_worthOfAll_24 : decode cX4_worthOfAll 24 = .ok (.ifnull 32, 3) := by decide +kernel
theorem dX4_worthOfAll_27 : decode cX4_worthOfAll 27 = .ok (.aload_n 1, 1) := by decide +kernel
theorem dX4_worthOfAll_28 : decode cX4_worthOfAll 28 = .ok (.iload 4, 2) := by decide +kernel
theorem dX4_worthOfAll_30 : decode cX4_worthOfAll 30 = .ok (.invokevirtual 49, 3) := by decide +kernel
theorem dX4_worthOfAll_33 : decode cX4_worthOfAll 33 = .ok (.ifCond .eq 23, 3) := by decide +kernel
theorem dX4_worthOfAll_36 : decode cX4_worthOfAll 36 = .ok (.lload_n 2, 1) := by decide +kernel
theorem dX4_worthOfAll_37 : decode cX4_worthOfAll 37 = .ok (.aload_n 1, 1) := by decide +kernel
theorem dX4_worthOfAll_38 : decode cX4_worthOfAll 38 = .ok (.getfield 54, 3) := by decide +kernel
theorem dX4_worthOfAll_41 : decode cX4_worthOfAll 41 = .ok (.iload 4, 2) := by decide +kernel
theorem dX4_worthOfAll_43 : decode cX4_worthOfAll 43 = .ok (.iaload, 1) := by decide +kernel
theorem dX4_worthOfAll_44 : decode cX4_worthOfAll 44 = .ok (.i2l, 1) := by decide +kernel
theorem dX4_worthOfAll_45 : decode cX4_worthOfAll 45 = .ok (.aload 5, 2) := by decide +kernel
theorem dX4_worthOfAll_47 : decode cX4_worthOfAll 47 = .ok (.getfield 32, 3) := by decide +kernel
theorem dX4_worthOfAll_50 : decode cX4_worthOfAll 50 = .ok (.iconst 1, 1) := by decide +kernel
theorem dX4_worthOfAll_51 : decode cX4_worthOfAll 51 = .ok (.iadd, 1) := by decide +kernel
theorem dX4_worthOfAll_52 : decode cX4_worthOfAll 52 = .ok (.i2l, 1) := by decide +kernel
theorem dX4_worthOfAll_53 : decode cX4_worthOfAll 53 = .ok (.lmul, 1) := by decide +kernel
theorem dX4_worthOfAll_54 : decode cX4_worthOfAll 54 = .ok (.ladd, 1) := by decide +kernel
theorem dX4_worthOfAll_55 : decode cX4_worthOfAll 55 = .ok (.lstore_n 2, 1) := by decide +kernel
theorem dX4_worthOfAll_56 : decode cX4_worthOfAll 56 = .ok (.iinc 4 1, 3) := by decide +kernel
theorem dX4_worthOfAll_59 : decode cX4_worthOfAll 59 = .ok (.goto (-54), 3) := by decide +kernel
theorem dX4_worthOfAll_62 : decode cX4_worthOfAll 62 = .ok (.lload_n 2, 1) := by decide +kernel
theorem dX4_worthOfAll_63 : decode cX4_worthOfAll 63 = .ok (.lreturn, 1) := by decide +kernel
def fX4_worthOfAll_L5 : Nat → Int64 → Int32 → Hp → Option ((Int64 × Int32) × Hp)
  | 0, _, _, _ => none
  | n + 1, a2, a4, h => br ((gI h 4 0 1) ≤ a4) (some ((a2, a4), h)) (bd (fX4_find a4 h) (fun r1 h2 => mt r1 (lb (a4 + 1) (fun v4 => fX4_worthOfAll_L5 n a2 v4 h2)) (fun z3 => bd (fX8_isSitting 0 a4 h2) (fun r5 h6 => br (r5 = 0) (lb (a4 + 1) (fun v7 => fX4_worthOfAll_L5 n a2 v7 h6)) (lb (gR h6 8 0 2) (fun o8 => mt o8 none (fun z9 => gd (ib a4 12) (lb (a2 + (((gI h6 43 z9 (ix a4)).toInt64) * (((gI h6 2 z3 0) + 1).toInt64))) (fun v11 => lb (a4 + 1) (fun v12 => fX4_worthOfAll_L5 n v11 v12 h6))))))))))
def fX4_worthOfAll (h : Hp) : Option (Int64 × Hp) := bd (fX4_worthOfAll_L5 FU 0 0 h) (fun t14 h13 => lb t14.1 (fun v15 => lb t14.2 (fun v16 => some (v15, h13))))
set_option maxRecDepth 20000 in
theorem tX4_worthOfAll_L5 {X : Cz} {h0 : Hp} {r : Option AV} {hE : Hp} : ∀ (n : Nat) (a2 : Int64) (a4 : Int32) (h : Hp) (z : (Int64 × Int32) × Hp), fX4_worthOfAll_L5 n a2 a4 h = some z → V X mX4_worthOfAll true h0 62 [(0, zr 4 0), (1, zr 8 0), (2, zj z.1.1), (4, zi z.1.2)] [] z.2 r hE → V X mX4_worthOfAll true h0 5 [(0, zr 4 0), (1, zr 8 0), (2, zj a2), (4, zi a4)] [] h r hE := by
  intro n
  induction n with
  | zero => intro a2 a4 h z hF k; cases hF
  | succ n ih =>
    intro a2 a4 h z hF k
    rw [fX4_worthOfAll_L5] at hF
    refine v_iload (j := 3) dX4_worthOfAll_5 rfl ?_
    refine v_aload_n (j := 0) dX4_worthOfAll_7 rfl ?_
    refine v_getI (c := 4) rfl (Or.inl rfl) cz4 flX4_17 dX4_worthOfAll_8 ?_
    refine v_icmp_ge dX4_worthOfAll_11 (by decide : _ = ((62 : Nat) : Int)) (fun q => ?_) (fun q => ?_)
    · replace hF := brT q hF
      cases hF
      exact k
    · replace hF := brF q hF
      refine v_aload_n (j := 0) dX4_worthOfAll_14 rfl ?_
      refine v_iload (j := 3) dX4_worthOfAll_15 rfl ?_
      replace hF := bd_use hF
      obtain ⟨r1, h2, er1, hF⟩ := hF
      refine v_cV (hm := h2) (av := [zi a4]) (st := []) (stn := [zq 2 r1]) (tX4_find er1) lcX4_find mlX4_28 imX4_find seX4_find rfl rfl rfl rfl ⟨by decide, by decide⟩ (Nat.le_of_ble_eq_true rfl) dX4_worthOfAll_17 rfl rfl ?_
      clear er1
      refine v_astore (ls' := [(5, zq 2 r1), (0, zr 4 0), (1, zr 8 0), (2, zj a2), (4, zi a4)]) dX4_worthOfAll_20 (by decide) rfl ?_
      refine v_aload (j := 0) dX4_worthOfAll_22 rfl ?_
      cases r1 with
      | none =>
        replace hF := mtN hF
        refine v_ifnullN (tgt := 56) dX4_worthOfAll_24 (by decide) ?_
        obtain ⟨v4, ev4⟩ : ∃ y : Int32, y = a4 + 1 := ⟨_, rfl⟩
        replace hF := lb_use ev4 hF
        refine v_iinc (j := 4) (v := v4) (ls' := [(4, zi v4), (5, zo), (0, zr 4 0), (1, zr 8 0), (2, zj a2)]) dX4_worthOfAll_56 rfl (by rw [ev4]; rfl) (by decide) rfl ?_
        clear ev4
        refine v_goto (tgt := 5) dX4_worthOfAll_59 (by decide) ?_
        refine v_sub [2, 3, 4, 0] rfl ?_
        exact ih a2 v4 h2 _ hF k
      | some z3 =>
        replace hF := mtS hF
        refine v_ifnullS (q := (2, z3)) (tgt := 56) dX4_worthOfAll_24 (by decide) ?_
        refine v_aload_n (j := 2) dX4_worthOfAll_27 rfl ?_
        refine v_iload (j := 4) dX4_worthOfAll_28 rfl ?_
        replace hF := bd_use hF
        obtain ⟨r5, h6, er5, hF⟩ := hF
        refine v_cV (hm := h6) (av := [zi a4]) (st := []) (stn := [zi r5]) (tX8_isSitting er5) lcX8_isSitting mlX4_49 imX8_isSitting seX8_isSitting rfl rfl rfl rfl ⟨by decide, by decide⟩ (Nat.le_of_ble_eq_true rfl) dX4_worthOfAll_30 rfl rfl ?_
        clear er5
        refine v_if_eq dX4_worthOfAll_33 (by decide : _ = ((56 : Nat) : Int)) (fun q => ?_) (fun q => ?_)
        · replace hF := brT q hF
          obtain ⟨v7, ev7⟩ : ∃ y : Int32, y = a4 + 1 := ⟨_, rfl⟩
          replace hF := lb_use ev7 hF
          refine v_iinc (j := 4) (v := v7) (ls' := [(4, zi v7), (5, zr 2 z3), (0, zr 4 0), (1, zr 8 0), (2, zj a2)]) dX4_worthOfAll_56 rfl (by rw [ev7]; rfl) (by decide) rfl ?_
          clear ev7
          refine v_goto (tgt := 5) dX4_worthOfAll_59 (by decide) ?_
          refine v_sub [2, 3, 4, 0] rfl ?_
          exact ih a2 v7 h6 _ hF k
        · replace hF := brF q hF
          refine v_lload_n (j := 3) dX4_worthOfAll_36 rfl ?_
          refine v_aload_n (j := 2) dX4_worthOfAll_37 rfl ?_
          refine v_getR (c := 8) (k2 := 43) rfl rfl rfl cz8 flX4_54 dX4_worthOfAll_38 ?_
          refine v_topq fun o8 eo8 => ?_
          replace hF := lb_use eo8 hF
          clear eo8
          refine v_iload (j := 4) dX4_worthOfAll_41 rfl ?_
          replace hF := mt_use hF
          obtain ⟨z9, ez9, hF⟩ := hF
          subst ez9
          replace hF := gd_use hF
          obtain ⟨q10, hF⟩ := hF
          refine v_iald rfl q10 dX4_worthOfAll_43 ?_
          refine v_i2l dX4_worthOfAll_44 ?_
          refine v_aload (j := 0) dX4_worthOfAll_45 rfl ?_
          refine v_getI (c := 2) rfl (Or.inl rfl) cz2 flX4_32 dX4_worthOfAll_47 ?_
          refine v_iconst (v := 1) dX4_worthOfAll_50 (by decide) ?_
          refine v_iadd dX4_worthOfAll_51 ?_
          refine v_i2l dX4_worthOfAll_52 ?_
          refine v_lmul dX4_worthOfAll_53 ?_
          refine v_ladd dX4_worthOfAll_54 ?_
          refine v_topj fun v11 ev11 => ?_
          replace hF := lb_use ev11 hF
          clear ev11
          refine v_lstore_n (ls' := [(2, zj v11), (5, zr 2 z3), (0, zr 4 0), (1, zr 8 0), (4, zi a4)]) dX4_worthOfAll_55 (by decide) rfl ?_
          obtain ⟨v12, ev12⟩ : ∃ y : Int32, y = a4 + 1 := ⟨_, rfl⟩
          replace hF := lb_use ev12 hF
          refine v_iinc (j := 4) (v := v12) (ls' := [(4, zi v12), (2, zj v11), (5, zr 2 z3), (0, zr 4 0), (1, zr 8 0)]) dX4_worthOfAll_56 rfl (by rw [ev12]; rfl) (by decide) rfl ?_
          clear ev12
          refine v_goto (tgt := 5) dX4_worthOfAll_59 (by decide) ?_
          refine v_sub [3, 4, 1, 0] rfl ?_
          exact ih v11 v12 h6 _ hF k
set_option maxRecDepth 20000 in
theorem tX4_worthOfAll {X : Cz} {h hE : Hp} {rE : Int64} (hF : fX4_worthOfAll h = some (rE, hE)) : Ct X mX4_worthOfAll true [zr 4 0, zr 8 0] h (some (zj rE)) hE := by
  refine Ct_of (by decide) (Nat.le_of_ble_eq_true rfl) (ls := [(0, zr 4 0), (1, zr 8 0)]) rfl ?_
  unfold fX4_worthOfAll at hF
  refine v_lconst (v := 0) dX4_worthOfAll_0 (by decide) ?_
  refine v_lstore_n (ls' := [(2, zj 0), (0, zr 4 0), (1, zr 8 0)]) dX4_worthOfAll_1 (by decide) rfl ?_
  refine v_iconst (v := 0) dX4_worthOfAll_2 (by decide) ?_
  refine v_istore (ls' := [(4, zi 0), (2, zj 0), (0, zr 4 0), (1, zr 8 0)]) dX4_worthOfAll_3 (by decide) rfl ?_
  refine v_sub [2, 3, 1, 0] rfl ?_
  replace hF := bd_use hF
  obtain ⟨t14, h13, et14, hF⟩ := hF
  refine tX4_worthOfAll_L5 _ 0 0 h _ et14 ?_
  clear et14
  obtain ⟨v15, v16⟩ := t14
  replace hF := lb_use (x := v15) rfl hF
  replace hF := lb_use (x := v16) rfl hF
  refine v_lload_n (j := 2) dX4_worthOfAll_62 rfl ?_
  obtain ⟨rfl, rfl⟩ := ret_use hF
  exact v_lret rfl dX4_worthOfAll_63
