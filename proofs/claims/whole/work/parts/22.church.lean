/-! functions and ties, printed by program (wip/gen/dec.py) -/
theorem dX1_init_0 : decode cX1_init 0 = .ok (.aload_n 0, 1) := by decide +kernel
theorem dX1_init_1 : decode cX1_init 1 = .ok (.invokespecial 3, 3) := by decide +kernel
theorem dX1_init_4 : decode cX1_init 4 = .ok (.aload_n 0, 1) := by decide +kernel
theorem dX1_init_5 : decode cX1_init 5 = .ok (.bipush 30, 2) := by decide +kernel
theorem dX1_init_7 : decode cX1_init 7 = .ok (.putfield 9, 3) := by decide +kernel
theorem dX1_init_10 : decode cX1_init 10 = .ok (.aload_n 0, 1) := by decide +kernel
theorem dX1_init_11 : decode cX1_init 11 = .ok (.bipush 60, 2) := by decide +kernel
theorem dX1_init_13 : decode cX1_init 13 = .ok (.putfield 15, 3) := by decide +kernel
theorem dX1_init_16 : decode cX1_init 16 = .ok (.aload_n 0, 1) := by decide +kernel
theorem dX1_init_17 : decode cX1_init 17 = .ok (.sipush 4000, 3) := by decide +kernel
theorem dX1_init_20 : decode cX1_init 20 = .ok (.putfield 18, 3) := by decide +kernel
theorem dX1_init_23 : decode cX1_init 23 = .ok (.aload_n 0, 1) := by decide +kernel
theorem dX1_init_24 : decode cX1_init 24 = .ok (.bipush 8, 2) := by decide +kernel
theorem dX1_init_26 : decode cX1_init 26 = .ok (.newarray .int, 2) := by decide +kernel
theorem dX1_init_28 : decode cX1_init 28 = .ok (.putfield 21, 3) := by decide +kernel
theorem dX1_init_31 : decode cX1_init 31 = .ok (.aload_n 0, 1) := by decide +kernel
theorem dX1_init_32 : decode cX1_init 32 = .ok (.bipush 8, 2) := by decide +kernel
theorem dX1_init_34 : decode cX1_init 34 = .ok (.newarray .int, 2) := by decide +kernel
theorem dX1_init_36 : decode cX1_init 36 = .ok (.putfield 25, 3) := by decide +kernel
theorem dX1_init_39 : decode cX1_init 39 = .ok (.aload_n 0, 1) := by decide +kernel
theorem dX1_init_40 : decode cX1_init 40 = .ok (.bipush 8, 2) := by decide +kernel
theorem dX1_init_42 : decode cX1_init 42 = .ok (.newarray .int, 2) := by decide +kernel
theorem dX1_init_44 : decode cX1_init 44 = .ok (.putfield 28, 3) := by decide +kernel
theorem dX1_init_47 : decode cX1_init 47 = .ok (.aload_n 0, 1) := by decide +kernel
theorem dX1_init_48 : decode cX1_init 48 = .ok (.bipush 8, 2) := by decide +kernel
theorem dX1_init_50 : decode cX1_init 50 = .ok (.newarray .int, 2) := by decide +kernel
theorem dX1_init_52 : decode cX1_init 52 = .ok (.putfield 31, 3) := by decide +kernel
theorem dX1_init_55 : decode cX1_init 55 = .ok (.aload_n 0, 1) := by decide +kernel
theorem dX1_init_56 : decode cX1_init 56 = .ok (.bipush 8, 2) := by decide +kernel
theorem dX1_init_58 : decode cX1_init 58 = .ok (.newarray .int, 2) := by decide +kernel
theorem dX1_init_60 : decode cX1_init 60 = .ok (.putfield 34, 3) := by decide +kernel
theorem dX1_init_63 : decode cX1_init 63 = .ok (.aload_n 0, 1) := by decide +kernel
theorem dX1_init_64 : decode cX1_init 64 = .ok (.bipush 8, 2) := by decide +kernel
theorem dX1_init_66 : decode cX1_init 66 = .ok (.newarray .int, 2) := by decide +kernel
theorem dX1_init_68 : decode cX1_init 68 = .ok (.putfield 37, 3) := by decide +kernel
theorem dX1_init_71 : decode cX1_init 71 = .ok (.aload_n 0, 1) := by decide +kernel
theorem dX1_init_72 : decode cX1_init 72 = .ok (.bipush 8, 2) := by decide +kernel
theorem dX1_init_74 : decode cX1_init 74 = .ok (.newarray .boolean, 2) := by decide +kernel
theorem dX1_init_76 : decode cX1_init 76 = .ok (.putfield 40, 3) := by decide +kernel
theorem dX1_init_79 : decode cX1_init 79 = .ok (.aload_n 0, 1) := by decide +kernel
theorem dX1_init_80 : decode cX1_init 80 = .ok (.sipush 256, 3) := by decide +kernel
theorem dX1_init_83 : decode cX1_init 83 = .ok (.newarray .int, 2) := by decide +kernel
theorem dX1_init_85 : decode cX1_init 85 = .ok (.putfield 44, 3) := by decide +kernel
theorem dX1_init_88 : decode cX1_init 88 = .ok (.aload_n 0, 1) := by decide +kernel
theorem dX1_init_89 : decode cX1_init 89 = .ok (.sipush 256, 3) := by decide +kernel
theorem dX1_init_92 : decode cX1_init 92 = .ok (.newarray .int, 2) := by decide +kernel
theorem dX1_init_94 : decode cX1_init 94 = .ok (.putfield 47, 3) := by decide +kernel
theorem dX1_init_97 : decode cX1_init 97 = .ok (.return_, 1) := by decide +kernel
def fX1_init (a0 : Nat) (h : Hp) : Option (Unit × Hp) := lb (sI h 1 a0 0 30) (fun h1 => lb (sI h1 1 a0 1 60) (fun h2 => lb (sI h2 1 a0 2 4000) (fun h3 => lb (gN h3 23) (fun z4 => lb (nw h3 23 8) (fun h5 => lb (sR h5 1 a0 4 (some z4)) (fun h6 => lb (gN h6 24) (fun z7 => lb (nw h6 24 8) (fun h8 => lb (sR h8 1 a0 5 (some z7)) (fun h9 => lb (gN h9 25) (fun z10 => lb (nw h9 25 8) (fun h11 => lb (sR h11 1 a0 6 (some z10)) (fun h12 => lb (gN h12 26) (fun z13 => lb (nw h12 26 8) (fun h14 => lb (sR h14 1 a0 8 (some z13)) (fun h15 => lb (gN h15 27) (fun z16 => lb (nw h15 27 8) (fun h17 => lb (sR h17 1 a0 9 (some z16)) (fun h18 => lb (gN h18 28) (fun z19 => lb (nw h18 28 8) (fun h20 => lb (sR h20 1 a0 10 (some z19)) (fun h21 => lb (gN h21 29) (fun z22 => lb (nw h21 29 8) (fun h23 => lb (sR h23 1 a0 11 (some z22)) (fun h24 => lb (gN h24 30) (fun z25 => lb (nw h24 30 256) (fun h26 => lb (sR h26 1 a0 12 (some z25)) (fun h27 => lb (gN h27 31) (fun z28 => lb (nw h27 31 256) (fun h29 => lb (sR h29 1 a0 13 (some z28)) (fun h30 => some ((), h30)))))))))))))))))))))))))))))))
set_option maxRecDepth 20000 in
theorem tX1_init {X : Cz} {a0 : Nat} {h hE : Hp} {rE : Unit} (hF : fX1_init a0 h = some (rE, hE)) : Ct X mX1_init false [zr 1 a0] h (none) hE := by
  refine Ct_of (by decide) (Nat.le_of_ble_eq_true rfl) (ls := [(0, zr 1 a0)]) rfl ?_
  unfold fX1_init at hF
  refine v_aload_n (j := 0) dX1_init_0 rfl ?_
  refine v_objI mlX1_3 oiI oiC (by decide) (Nat.le_of_ble_eq_true rfl) dX1_init_1 ?_
  refine v_aload_n (j := 0) dX1_init_4 rfl ?_
  refine v_bipush (v := 30) dX1_init_5 (by decide) ?_
  refine v_putI (c := 1) rfl rfl (Nat.le_of_ble_eq_true rfl) cz1 flX1_9 dX1_init_7 ?_
  refine v_toph fun h1 eh1 => ?_
  replace hF := lb_use eh1 hF
  clear eh1
  refine v_aload_n (j := 0) dX1_init_10 rfl ?_
  refine v_bipush (v := 60) dX1_init_11 (by decide) ?_
  refine v_putI (c := 1) rfl rfl (Nat.le_of_ble_eq_true rfl) cz1 flX1_15 dX1_init_13 ?_
  refine v_toph fun h2 eh2 => ?_
  replace hF := lb_use eh2 hF
  clear eh2
  refine v_aload_n (j := 0) dX1_init_16 rfl ?_
  refine v_sipush (v := 4000) dX1_init_17 (by decide) ?_
  refine v_putI (c := 1) rfl rfl (Nat.le_of_ble_eq_true rfl) cz1 flX1_18 dX1_init_20 ?_
  refine v_toph fun h3 eh3 => ?_
  replace hF := lb_use eh3 hF
  clear eh3
  refine v_aload_n (j := 0) dX1_init_23 rfl ?_
  refine v_bipush (v := 8) dX1_init_24 (by decide) ?_
  refine v_newa (k := 23) (idx := 0) (at0 := .int) rfl (by decide) rfl ac_int (by decide) (by decide) (by decide) (Or.inl rfl) dX1_init_26 ?_
  refine v_topr fun z4 ez4 => ?_
  replace hF := lb_use ez4 hF
  clear ez4
  refine v_toph fun h5 eh5 => ?_
  replace hF := lb_use eh5 hF
  clear eh5
  refine v_putFR (o := some z4) (c := 1) (k2 := 23) rfl rfl (Nat.le_of_ble_eq_true rfl) rfl (Or.inl rfl) cz1 flX1_21 rfl (fun q hq => by cases hq; rfl) dX1_init_28 ?_
  refine v_toph fun h6 eh6 => ?_
  replace hF := lb_use eh6 hF
  clear eh6
  refine v_aload_n (j := 0) dX1_init_31 rfl ?_
  refine v_bipush (v := 8) dX1_init_32 (by decide) ?_
  refine v_newa (k := 24) (idx := 0) (at0 := .int) rfl (by decide) rfl ac_int (by decide) (by decide) (by decide) (Or.inl rfl) dX1_init_34 ?_
  refine v_topr fun z7 ez7 => ?_
  replace hF := lb_use ez7 hF
  clear ez7
  refine v_toph fun h8 eh8 => ?_
  replace hF := lb_use eh8 hF
  clear eh8
  refine v_putFR (o := some z7) (c := 1) (k2 := 24) rfl rfl (Nat.le_of_ble_eq_true rfl) rfl (Or.inl rfl) cz1 flX1_25 rfl (fun q hq => by cases hq; rfl) dX1_init_36 ?_
  refine v_toph fun h9 eh9 => ?_
  replace hF := lb_use eh9 hF
  clear eh9
  refine v_aload_n (j := 0) dX1_init_39 rfl ?_
  refine v_bipush (v := 8) dX1_init_40 (by decide) ?_
  refine v_newa (k := 25) (idx := 0) (at0 := .int) rfl (by decide) rfl ac_int (by decide) (by decide) (by decide) (Or.inl rfl) dX1_init_42 ?_
  refine v_topr fun z10 ez10 => ?_
  replace hF := lb_use ez10 hF
  clear ez10
  refine v_toph fun h11 eh11 => ?_
  replace hF := lb_use eh11 hF
  clear eh11
  refine v_putFR (o := some z10) (c := 1) (k2 := 25) rfl rfl (Nat.le_of_ble_eq_true rfl) rfl (Or.inl rfl) cz1 flX1_28 rfl (fun q hq => by cases hq; rfl) dX1_init_44 ?_
  refine v_toph fun h12 eh12 => ?_
  replace hF := lb_use eh12 hF
  clear eh12
  refine v_aload_n (j := 0) dX1_init_47 rfl ?_
  refine v_bipush (v := 8) dX1_init_48 (by decide) ?_
  refine v_newa (k := 26) (idx := 0) (at0 := .int) rfl (by decide) rfl ac_int (by decide) (by decide) (by decide) (Or.inl rfl) dX1_init_50 ?_
  refine v_topr fun z13 ez13 => ?_
  replace hF := lb_use ez13 hF
  clear ez13
  refine v_toph fun h14 eh14 => ?_
  replace hF := lb_use eh14 hF
  clear eh14
  refine v_putFR (o := some z13) (c := 1) (k2 := 26) rfl rfl (Nat.le_of_ble_eq_true rfl) rfl (Or.inl rfl) cz1 flX1_31 rfl (fun q hq => by cases hq; rfl) dX1_init_52 ?_
  refine v_toph fun h15 eh15 => ?_
  replace hF := lb_use eh15 hF
  clear eh15
  refine v_aload_n (j := 0) dX1_init_55 rfl ?_
  refine v_bipush (v := 8) dX1_init_56 (by decide) ?_
  refine v_newa (k := 27) (idx := 0) (at0 := .int) rfl (by decide) rfl ac_int (by decide) (by decide) (by decide) (Or.inl rfl) dX1_init_58 ?_
  refine v_topr fun z16 ez16 => ?_
  replace hF := lb_use ez16 hF
  clear ez16
  refine v_toph fun h17 eh17 => ?_
  replace hF := lb_use eh17 hF
  clear eh17
  refine v_putFR (o := some z16) (c := 1) (k2 := 27) rfl rfl (Nat.le_of_ble_eq_true rfl) rfl (Or.inl rfl) cz1 flX1_34 rfl (fun q hq => by cases hq; rfl) dX1_init_60 ?_
  refine v_toph fun h18 eh18 => ?_
  replace hF := lb_use eh18 hF
  clear eh18
  refine v_aload_n (j := 0) dX1_init_63 rfl ?_
  refine v_bipush (v := 8) dX1_init_64 (by decide) ?_
  refine v_newa (k := 28) (idx := 0) (at0 := .int) rfl (by decide) rfl ac_int (by decide) (by decide) (by decide) (Or.inl rfl) dX1_init_66 ?_
  refine v_topr fun z19 ez19 => ?_
  replace hF := lb_use ez19 hF
  clear ez19
  refine v_toph fun h20 eh20 => ?_
  replace hF := lb_use eh20 hF
  clear eh20
  refine v_putFR (o := some z19) (c := 1) (k2 := 28) rfl rfl (Nat.le_of_ble_eq_true rfl) rfl (Or.inl rfl) cz1 flX1_37 rfl (fun q hq => by cases hq; rfl) dX1_init_68 ?_
  refine v_toph fun h21 eh21 => ?_
  replace hF := lb_use eh21 hF
  clear eh21
  refine v_aload_n (j := 0) dX1_init_71 rfl ?_
  refine v_bipush (v := 8) dX1_init_72 (by decide) ?_
  refine v_newa (k := 29) (idx := 0) (at0 := .boolean) rfl (by decide) rfl ac_boolean (by decide) (by decide) (by decide) (Or.inl rfl) dX1_init_74 ?_
  refine v_topr fun z22 ez22 => ?_
  replace hF := lb_use ez22 hF
  clear ez22
  refine v_toph fun h23 eh23 => ?_
  replace hF := lb_use eh23 hF
  clear eh23
  refine v_putFR (o := some z22) (c := 1) (k2 := 29) rfl rfl (Nat.le_of_ble_eq_true rfl) rfl (Or.inl rfl) cz1 flX1_40 rfl (fun q hq => by cases hq; rfl) dX1_init_76 ?_
  refine v_toph fun h24 eh24 => ?_
  replace hF := lb_use eh24 hF
  clear eh24
  refine v_aload_n (j := 0) dX1_init_79 rfl ?_
  refine v_sipush (v := 256) dX1_init_80 (by decide) ?_
  refine v_newa (k := 30) (idx := 0) (at0 := .int) rfl (by decide) rfl ac_int (by decide) (by decide) (by decide) (Or.inl rfl) dX1_init_83 ?_
  refine v_topr fun z25 ez25 => ?_
  replace hF := lb_use ez25 hF
  clear ez25
  refine v_toph fun h26 eh26 => ?_
  replace hF := lb_use eh26 hF
  clear eh26
  refine v_putFR (o := some z25) (c := 1) (k2 := 30) rfl rfl (Nat.le_of_ble_eq_true rfl) rfl (Or.inl rfl) cz1 flX1_44 rfl (fun q hq => by cases hq; rfl) dX1_init_85 ?_
  refine v_toph fun h27 eh27 => ?_
  replace hF := lb_use eh27 hF
  clear eh27
  refine v_aload_n (j := 0) dX1_init_88 rfl ?_
  refine v_sipush (v := 256) dX1_init_89 (by decide) ?_
  refine v_newa (k := 31) (idx := 0) (at0 := .int) rfl (by decide) rfl ac_int (by decide) (by decide) (by decide) (Or.inl rfl) dX1_init_92 ?_
  refine v_topr fun z28 ez28 => ?_
  replace hF := lb_use ez28 hF
  clear ez28
  refine v_toph fun h29 eh29 => ?_
  replace hF := lb_use eh29 hF
  clear eh29
  refine v_putFR (o := some z28) (c := 1) (k2 := 31) rfl rfl (Nat.le_of_ble_eq_true rfl) rfl (Or.inl rfl) cz1 flX1_47 rfl (fun q hq => by cases hq; rfl) dX1_init_94 ?_
  refine v_toph fun h30 eh30 => ?_
  replace hF := lb_use eh30 hF
  clear eh30
  cases hF
  exact v_vret rfl dX1_init_97
theorem dX1_sideOf_0 : decode cX1_sideOf 0 = .ok (.aload_n 0, 1) := by decide +kernel
theorem dX1_sideOf_1 : decode cX1_sideOf 1 = .ok (.getfield 9, 3) := by decide +kernel
theorem dX1_sideOf_4 : decode cX1_sideOf 4 = .ok (.iload_n 1, 1) := by decide +kernel
theorem dX1_sideOf_5 : decode cX1_sideOf 5 = .ok (.isub, 1) := by decide +kernel
theorem dX1_sideOf_6 : decode cX1_sideOf 6 = .ok (.iload 4, 2) := by decide +kernel
theorem dX1_sideOf_8 : decode cX1_sideOf 8 = .ok (.iload_n 2, 1) := by decide +kernel
theorem dX1_sideOf_9 : decode cX1_sideOf 9 = .ok (.isub, 1) := by decide +kernel
theorem dX1_sideOf_10 : decode cX1_sideOf 10 = .ok (.imul, 1) := by decide +kernel
theorem dX1_sideOf_11 : decode cX1_sideOf 11 = .ok (.aload_n 0, 1) := by decide +kernel
theorem dX1_sideOf_12 : decode cX1_sideOf 12 = .ok (.getfield 15, 3) := by decide +kernel
theorem dX1_sideOf_15 : decode cX1_sideOf 15 = .ok (.iload_n 2, 1) := by decide +kernel
theorem dX1_sideOf_16 : decode cX1_sideOf 16 = .ok (.isub, 1) := by decide +kernel
theorem dX1_sideOf_17 : decode cX1_sideOf 17 = .ok (.iload_n 3, 1) := by decide +kernel
theorem dX1_sideOf_18 : decode cX1_sideOf 18 = .ok (.iload_n 1, 1) := by decide +kernel
theorem dX1_sideOf_19 : decode cX1_sideOf 19 = .ok (.isub, 1) := by decide +kernel
theorem dX1_sideOf_20 : decode cX1_sideOf 20 = .ok (.imul, 1) := by decide +kernel
theorem dX1_sideOf_21 : decode cX1_sideOf 21 = .ok (.isub, 1) := by decide +kernel
theorem dX1_sideOf_22 : decode cX1_sideOf 22 = .ok (.ireturn, 1) := by decide +kernel
def fX1_sideOf (a1 : Int32) (a2 : Int32) (a3 : Int32) (a4 : Int32) (h : Hp) : Int32 := (((gI h 1 0 0) - a1) * (a4 - a2)) - (((gI h 1 0 1) - a2) * (a3 - a1))
set_option maxRecDepth 20000 in
theorem tX1_sideOf {X : Cz} (a1 : Int32) (a2 : Int32) (a3 : Int32) (a4 : Int32) (h : Hp) : Ct X mX1_sideOf true [zr 1 0, zi a1, zi a2, zi a3, zi a4] h (some (zi (fX1_sideOf a1 a2 a3 a4 h))) h := by
  refine Ct_of (by decide) (Nat.le_of_ble_eq_true rfl) (ls := [(0, zr 1 0), (1, zi a1), (2, zi a2), (3, zi a3), (4, zi a4)]) rfl ?_
  obtain ⟨rE, hF⟩ : ∃ z, fX1_sideOf a1 a2 a3 a4 h = z := ⟨_, rfl⟩
  rw [hF]
  unfold fX1_sideOf at hF
  refine v_aload_n (j := 0) dX1_sideOf_0 rfl ?_
  refine v_getI (c := 1) rfl (Or.inl rfl) cz1 flX1_9 dX1_sideOf_1 ?_
  refine v_iload_n (j := 1) dX1_sideOf_4 rfl ?_
  refine v_isub dX1_sideOf_5 ?_
  refine v_iload (j := 4) dX1_sideOf_6 rfl ?_
  refine v_iload_n (j := 2) dX1_sideOf_8 rfl ?_
  refine v_isub dX1_sideOf_9 ?_
  refine v_imul dX1_sideOf_10 ?_
  refine v_aload_n (j := 0) dX1_sideOf_11 rfl ?_
  refine v_getI (c := 1) rfl (Or.inl rfl) cz1 flX1_15 dX1_sideOf_12 ?_
  refine v_iload_n (j := 2) dX1_sideOf_15 rfl ?_
  refine v_isub dX1_sideOf_16 ?_
  refine v_iload_n (j := 3) dX1_sideOf_17 rfl ?_
  refine v_iload_n (j := 1) dX1_sideOf_18 rfl ?_
  refine v_isub dX1_sideOf_19 ?_
  refine v_imul dX1_sideOf_20 ?_
  refine v_isub dX1_sideOf_21 ?_
  subst hF
  exact v_iret rfl dX1_sideOf_22
theorem dX1_isInWay_0 : decode cX1_isInWay 0 = .ok (.aload_n 0, 1) := by decide +kernel
theorem dX1_isInWay_1 : decode cX1_isInWay 1 = .ok (.getfield 21, 3) := by decide +kernel
theorem dX1_isInWay_4 : decode cX1_isInWay 4 = .ok (.iload_n 1, 1) := by decide +kernel
theorem dX1_isInWay_5 : decode cX1_isInWay 5 = .ok (.iaload, 1) := by decide +kernel
theorem dX1_isInWay_6 : decode cX1_isInWay 6 = .ok (.aload_n 0, 1) := by decide +kernel
theorem dX1_isInWay_7 : decode cX1_isInWay 7 = .ok (.getfield 28, 3) := by decide +kernel
theorem dX1_isInWay_10 : decode cX1_isInWay 10 = .ok (.iload_n 1, 1) := by decide +kernel
theorem dX1_isInWay_11 : decode cX1_isInWay 11 = .ok (.iaload, 1) := by decide +kernel
theorem dX1_isInWay_12 : decode cX1_isInWay 12 = .ok (.isub, 1) := by decide +kernel
theorem dX1_isInWay_13 : decode cX1_isInWay 13 = .ok (.istore 4, 2) := by decide +kernel
theorem dX1_isInWay_15 : decode cX1_isInWay 15 = .ok (.aload_n 0, 1) := by decide +kernel
theorem dX1_isInWay_16 : decode cX1_isInWay 16 = .ok (.getfield 21, 3) := by decide +kernel
theorem dX1_isInWay_19 : decode cX1_isInWay 19 = .ok (.iload_n 1, 1) := by decide +kernel
theorem dX1_isInWay_20 : decode cX1_isInWay 20 = .ok (.iaload, 1) := by decide +kernel
theorem dX1_isInWay_21 : decode cX1_isInWay 21 = .ok (.aload_n 0, 1) := by decide +kernel
theorem dX1_isInWay_22 : decode cX1_isInWay 22 = .ok (.getfield 28, 3) := by decide +kernel
theorem dX1_isInWay_25 : decode cX1_isInWay 25 = .ok (.iload_n 1, 1) := by decide +kernel
theorem dX1_isInWay_26 : decode cX1_isInWay 26 = .ok (.iaload, 1) := by decide +kernel
theorem dX1_isInWay_27 : decode cX1_isInWay 27 = .ok (.iadd, 1) := by decide +kernel
theorem dX1_isInWay_28 : decode cX1_isInWay 28 = .ok (.istore 5, 2) := by decide +kernel
theorem dX1_isInWay_30 : decode cX1_isInWay 30 = .ok (.aload_n 0, 1) := by decide +kernel
theorem dX1_isInWay_31 : decode cX1_isInWay 31 = .ok (.getfield 25, 3) := by decide +kernel
theorem dX1_isInWay_34 : decode cX1_isInWay 34 = .ok (.iload_n 1, 1) := by decide +kernel
theorem dX1_isInWay_35 : decode cX1_isInWay 35 = .ok (.iaload, 1) := by decide +kernel
theorem dX1_isInWay_36 : decode cX1_isInWay 36 = .ok (.aload_n 0, 1) := by decide +kernel
theorem dX1_isInWay_37 : decode cX1_isInWay 37 = .ok (.getfield 28, 3) := by decide +kernel
theorem dX1_isInWay_40 : decode cX1_isInWay 40 = .ok (.iload_n 1, 1) := by decide +kernel
theorem dX1_isInWay_41 : decode cX1_isInWay 41 = .ok (.iaload, 1) := by decide +kernel
theorem dX1_isInWay_42 : decode cX1_isInWay 42 = .ok (.isub, 1) := by decide +kernel
theorem dX1_isInWay_43 : decode cX1_isInWay 43 = .ok (.istore 6, 2) := by decide +kernel
theorem dX1_isInWay_45 : decode cX1_isInWay 45 = .ok (.aload_n 0, 1) := by decide +kernel
theorem dX1_isInWay_46 : decode cX1_isInWay 46 = .ok (.getfield 25, 3) := by decide +kernel
theorem dX1_isInWay_49 : decode cX1_isInWay 49 = .ok (.iload_n 1, 1) := by decide +kernel
theorem dX1_isInWay_50 : decode cX1_isInWay 50 = .ok (.iaload, 1) := by decide +kernel
theorem dX1_isInWay_51 : decode cX1_isInWay 51 = .ok (.aload_n 0, 1) := by decide +kernel
theorem dX1_isInWay_52 : decode cX1_isInWay 52 = .ok (.getfield 28, 3) := by decide +kernel
theorem dX1_isInWay_55 : decode cX1_isInWay 55 = .ok (.iload_n 1, 1) := by decide +kernel
theorem dX1_isInWay_56 : decode cX1_isInWay 56 = .ok (.iaload, 1) := by decide +kernel
theorem dX1_isInWay_57 : decode cX1_isInWay 57 = .ok (.iadd, 1) := by decide +kernel
theorem dX1_isInWay_58 : decode cX1_isInWay 58 = .ok (.istore 7, 2) := by decide +kernel
theorem dX1_isInWay_60 : decode cX1_isInWay 60 = .ok (.iload_n 2, 1) := by decide +kernel
theorem dX1_isInWay_61 : decode cX1_isInWay 61 = .ok (.aload_n 0, 1) := by decide +kernel
theorem dX1_isInWay_62 : decode cX1_isInWay 62 = .ok (.getfield 9, 3) := by decide +kernel
theorem dX1_isInWay_65 : decode cX1_isInWay 65 = .ok (.invokestatic 71, 3) := by decide +kernel
theorem dX1_isInWay_68 : decode cX1_isInWay 68 = .ok (.iload 4, 2) := by decide +kernel
theorem dX1_isInWay_70 : decode cX1_isInWay 70 = .ok (.if_icmp .lt 16, 3) := by decide +kernel
theorem dX1_isInWay_73 : decode cX1_isInWay 73 = .ok (.iload_n 2, 1) := by decide +kernel
theorem dX1_isInWay_74 : decode cX1_isInWay 74 = .ok (.aload_n 0, 1) := by decide +kernel
theorem dX1_isInWay_75 : decode cX1_isInWay 75 = .ok (.getfield 9, 3) := by decide +kernel
theorem dX1_isInWay_78 : decode cX1_isInWay 78 = .ok (.invokestatic 84, 3) := by decide +kernel
theorem dX1_isInWay_81 : decode cX1_isInWay 81 = .ok (.iload 5, 2) := by decide +kernel
theorem dX1_isInWay_83 : decode cX1_isInWay 83 = .ok (.if_icmp .le 5, 3) := by decide +kernel
theorem dX1_isInWay_86 : decode cX1_isInWay 86 = .ok (.iconst 0, 1) := by decide +kernel
theorem dX1_isInWay_87 : decode cX1_isInWay 87 = .ok (.ireturn, 1) := by decide +kernel
theorem dX1_isInWay_88 : decode cX1_isInWay 88 = .ok (.iload_n 3, 1) := by decide +kernel
theorem dX1_isInWay_89 : decode cX1_isInWay 89 = .ok (.aload_n 0, 1) := by decide +kernel
theorem dX1_isInWay_90 : decode cX1_isInWay 90 = .ok (.getfield 15, 3) := by decide +kernel
theorem dX1_isInWay_93 : decode cX1_isInWay 93 = .ok (.invokestatic 71, 3) := by decide +kernel
theorem dX1_isInWay_96 : decode cX1_isInWay 96 = .ok (.iload 6, 2) := by decide +kernel
theorem dX1_isInWay_98 : decode cX1_isInWay 98 = .ok (.if_icmp .lt 16, 3) := by decide +kernel
theorem dX1_isInWay_101 : decode cX1_isInWay 101 = .ok (.iload_n 3, 1) := by decide +kernel
theorem dX1_isInWay_102 : decode cX1_isInWay 102 = .ok (.aload_n 0, 1) := by decide +kernel
theorem dX1_isInWay_103 : decode cX1_isInWay 103 = .ok (.getfield 15, 3) := by decide +kernel
theorem dX1_isInWay_106 : decode cX1_isInWay 106 = .ok (.invokestatic 84, 3) := by decide +kernel
theorem dX1_isInWay_109 : decode cX1_isInWay 109 = .ok (.iload 7, 2) := by decide +kernel
theorem dX1_isInWay_111 : decode cX1_isInWay 111 = .ok (.if_icmp .le 5, 3) := by decide +kernel
theorem dX1_isInWay_114 : decode cX1_isInWay 114 = .ok (.iconst 0, 1) := by decide +kernel
theorem dX1_isInWay_115 : decode cX1_isInWay 115 = .ok (.ireturn, 1) := by decide +kernel
theorem dX1_isInWay_116 : decode cX1_isInWay 116 = .ok (.aload_n 0, 1) := by decide +kernel
theorem dX1_isInWay_117 : decode cX1_isInWay 117 = .ok (.iload_n 2, 1) := by decide +kernel
theorem dX1_isInWay_118 : decode cX1_isInWay 118 = .ok (.iload_n 3, 1) := by decide +kernel
theorem dX1_isInWay_119 : decode cX1_isInWay 119 = .ok (.iload 4, 2) := by decide +kernel
theorem dX1_isInWay_121 : decode cX1_isInWay 121 = .ok (.iload 6, 2) := by decide +kernel
theorem dX1_isInWay_123 : decode cX1_isInWay 123 = .ok (.invokevirtual 87, 3) := by decide +kernel
theorem dX1_isInWay_126 : decode cX1_isInWay 126 = .ok (.istore 8, 2) := by decide +kernel
theorem dX1_isInWay_128 : decode cX1_isInWay 128 = .ok (.aload_n 0, 1) := by decide +kernel
theorem dX1_isInWay_129 : decode cX1_isInWay 129 = .ok (.iload_n 2, 1) := by decide +kernel
theorem dX1_isInWay_130 : decode cX1_isInWay 130 = .ok (.iload_n 3, 1) := by decide +kernel
theorem dX1_isInWay_131 : decode cX1_isInWay 131 = .ok (.iload 5, 2) := by decide +kernel
theorem dX1_isInWay_133 : decode cX1_isInWay 133 = .ok (.iload 6, 2) := by decide +kernel
theorem dX1_isInWay_135 : decode cX1_isInWay 135 = .ok (.invokevirtual 87, 3) := by decide +kernel
theorem dX1_isInWay_138 : decode cX1_isInWay 138 = .ok (.istore 9, 2) := by decide +kernel
theorem dX1_isInWay_140 : decode cX1_isInWay 140 = .ok (.aload_n 0, 1) := by decide +kernel
theorem dX1_isInWay_141 : decode cX1_isInWay 141 = .ok (.iload_n 2, 1) := by decide +kernel
theorem dX1_isInWay_142 : decode cX1_isInWay 142 = .ok (.iload_n 3, 1) := by decide +kernel
theorem dX1_isInWay_143 : decode cX1_isInWay 143 = .ok (.iload 4, 2) := by decide +kernel
theorem dX1_isInWay_145 : decode cX1_isInWay 145 = .ok (.iload 7, 2) := by decide +kernel
theorem dX1_isInWay_147 : decode cX1_isInWay 147 = .ok (.invokevirtual 87, 3) := by decide +kernel
theorem dX1_isInWay_150 : decode cX1_isInWay 150 = .ok (.istore 10, 2) := by decide +kernel
theorem dX1_isInWay_152 : decode cX1_isInWay 152 = .ok (.aload_n 0, 1) := by decide +kernel
theorem dX1_isInWay_153 : decode cX1_isInWay 153 = .ok (.iload_n 2, 1) := by decide +kernel
theorem dX1_isInWay_154 : decode cX1_isInWay 154 = .ok (.iload_n 3, 1) := by decide +kernel
theorem dX1_isInWay_155 : decode cX1_isInWay 155 = .ok (.iload 5, 2) := by decide +kernel
theorem dX1_isInWay_157 : decode cX1_isInWay 157 = .ok (.iload 7, 2) := by decide +kernel
theorem dX1_isInWay_159 : decode cX1_isInWay 159 = .ok (.invokevirtual 87, 3) := by decide +kernel
theorem dX1_isInWay_162 : decode cX1_isInWay 162 = .ok (.istore 11, 2) := by decide +kernel
theorem dX1_isInWay_164 : decode cX1_isInWay 164 = .ok (.iload 8, 2) := by decide +kernel
theorem dX1_isInWay_166 : decode cX1_isInWay 166 = .ok (.iload 9, 2) := by decide +kernel
theorem dX1_isInWay_168 : decode cX1_isInWay 168 = .ok (.invokestatic 84, 3) := by decide +kernel
theorem dX1_isInWay_171 : decode cX1_isInWay 171 = .ok (.iload 10, 2) := by decide +kernel
theorem dX1_isInWay_173 : decode cX1_isInWay 173 = .ok (.iload 11, 2) := by decide +kernel
theorem dX1_isInWay_175 : decode cX1_isInWay 175 = .ok (.invokestatic 84, 3) := by decide +kernel
theorem dX1_isInWay_178 : decode cX1_isInWay 178 = .ok (.invokestatic 84, 3) := by decide +kernel
theorem dX1_isInWay_181 : decode cX1_isInWay 181 = .ok (.istore 12, 2) := by decide +kernel
theorem dX1_isInWay_183 : decode cX1_isInWay 183 = .ok (.iload 8, 2) := by decide +kernel
theorem dX1_isInWay_185 : decode cX1_isInWay 185 = .ok (.iload 9, 2) := by decide +kernel
theorem dX1_isInWay_187 : decode cX1_isInWay 187 = .ok (.invokestatic 71, 3) := by decide +kernel
theorem dX1_isInWay_190 : decode cX1_isInWay 190 = .ok (.iload 10, 2) := by decide +kernel
theorem dX1_isInWay_192 : decode cX1_isInWay 192 = .ok (.iload 11, 2) := by decide +kernel
theorem dX1_isInWay_194 : decode cX1_isInWay 194 = .ok (.invokestatic 71, 3) := by decide +kernel
theorem dX1_isInWay_197 : decode cX1_isInWay 197 = .ok (.invokestatic 71, 3) := by decide +kernel
theorem dX1_isInWay_200 : decode cX1_isInWay 200 = .ok (.istore 13, 2) := by decide +kernel
theorem dX1_isInWay_202 : decode cX1_isInWay 202 = .ok (.iload 12, 2) := by decide +kernel
theorem dX1_isInWay_204 : decode cX1_isInWay 204 = .ok (.ifCond .gt 12, 3) := by decide +kernel
theorem dX1_isInWay_207 : decode cX1_isInWay 207 = .ok (.iload 13, 2) := by decide +kernel
theorem dX1_isInWay_209 : decode cX1_isInWay 209 = .ok (.ifCond .lt 7, 3) := by decide +kernel
theorem dX1_isInWay_212 : decode cX1_isInWay 212 = .ok (.iconst 1, 1) := by decide +kernel
theorem dX1_isInWay_213 : decode cX1_isInWay 213 = .ok (.goto 4, 3) := by decide +kernel
theorem dX1_isInWay_216 : decode cX1_isInWay 216 = .ok (.iconst 0, 1) := by decide +kernel
theorem dX1_isInWay_217 : decode cX1_isInWay 217 = .ok (.ireturn, 1) := by decide +kernel
def fX1_isInWay (a1 : Int32) (a2 : Int32) (a3 : Int32) (h : Hp) : Option (Int32 × Hp) := gd (ib a1 8) (gd (ib a1 8) (lb ((gI h 23 0 (ix a1)) - (gI h 25 0 (ix a1))) (fun v3 => gd (ib a1 8) (gd (ib a1 8) (lb ((gI h 23 0 (ix a1)) + (gI h 25 0 (ix a1))) (fun v6 => gd (ib a1 8) (gd (ib a1 8) (lb ((gI h 24 0 (ix a1)) - (gI h 25 0 (ix a1))) (fun v9 => gd (ib a1 8) (gd (ib a1 8) (lb ((gI h 24 0 (ix a1)) + (gI h 25 0 (ix a1))) (fun v12 => br ((mxI a2 (gI h 1 0 0)) < v3) (some (0, h)) (br ((mnI a2 (gI h 1 0 0)) ≤ v6) (br ((mxI a3 (gI h 1 0 1)) < v9) (some (0, h)) (br ((mnI a3 (gI h 1 0 1)) ≤ v12) (lb (fX1_sideOf a2 a3 v3 v9 h) (fun v13 => lb (fX1_sideOf a2 a3 v6 v9 h) (fun v14 => lb (fX1_sideOf a2 a3 v3 v12 h) (fun v15 => lb (fX1_sideOf a2 a3 v6 v12 h) (fun v16 => lb (mnI (mnI v13 v14) (mnI v15 v16)) (fun v17 => lb (mxI (mxI v13 v14) (mxI v15 v16)) (fun v18 => br (0 < v17) (some (0, h)) (br (v18 < 0) (some (0, h)) (some (1, h)))))))))) (some (0, h)))) (some (0, h)))))))))))))))
set_option maxRecDepth 20000 in
theorem tX1_isInWay {X : Cz} {a1 : Int32} {a2 : Int32} {a3 : Int32} {h hE : Hp} {rE : Int32} (hF : fX1_isInWay a1 a2 a3 h = some (rE, hE)) : Ct X mX1_isInWay true [zr 1 0, zi a1, zi a2, zi a3] h (some (zi rE)) hE := by
  refine Ct_of (by decide) (Nat.le_of_ble_eq_true rfl) (ls := [(0, zr 1 0), (1, zi a1), (2, zi a2), (3, zi a3)]) rfl ?_
  unfold fX1_isInWay at hF
  refine v_aload_n (j := 0) dX1_isInWay_0 rfl ?_
  refine v_getL (c := 1) rfl rfl rfl ly1_4 cz1 flX1_21 dX1_isInWay_1 ?_
  refine v_iload_n (j := 1) dX1_isInWay_4 rfl ?_
  replace hF := gd_use hF
  obtain ⟨q1, hF⟩ := hF
  refine v_iald rfl q1 dX1_isInWay_5 ?_
  refine v_aload_n (j := 0) dX1_isInWay_6 rfl ?_
  refine v_getL (c := 1) rfl rfl rfl ly1_6 cz1 flX1_28 dX1_isInWay_7 ?_
  refine v_iload_n (j := 1) dX1_isInWay_10 rfl ?_
  replace hF := gd_use hF
  obtain ⟨q2, hF⟩ := hF
  refine v_iald rfl q2 dX1_isInWay_11 ?_
  refine v_isub dX1_isInWay_12 ?_
  refine v_topi fun v3 ev3 => ?_
  replace hF := lb_use ev3 hF
  clear ev3
  refine v_istore (ls' := [(4, zi v3), (0, zr 1 0), (1, zi a1), (2, zi a2), (3, zi a3)]) dX1_isInWay_13 (by decide) rfl ?_
  refine v_aload_n (j := 1) dX1_isInWay_15 rfl ?_
  refine v_getL (c := 1) rfl rfl rfl ly1_4 cz1 flX1_21 dX1_isInWay_16 ?_
  refine v_iload_n (j := 2) dX1_isInWay_19 rfl ?_
  replace hF := gd_use hF
  obtain ⟨q4, hF⟩ := hF
  refine v_iald rfl q4 dX1_isInWay_20 ?_
  refine v_aload_n (j := 1) dX1_isInWay_21 rfl ?_
  refine v_getL (c := 1) rfl rfl rfl ly1_6 cz1 flX1_28 dX1_isInWay_22 ?_
  refine v_iload_n (j := 2) dX1_isInWay_25 rfl ?_
  replace hF := gd_use hF
  obtain ⟨q5, hF⟩ := hF
  refine v_iald rfl q5 dX1_isInWay_26 ?_
  refine v_iadd dX1_isInWay_27 ?_
  refine v_topi fun v6 ev6 => ?_
  replace hF := lb_use ev6 hF
  clear ev6
  refine v_istore (ls' := [(5, zi v6), (4, zi v3), (0, zr 1 0), (1, zi a1), (2, zi a2), (3, zi a3)]) dX1_isInWay_28 (by decide) rfl ?_
  refine v_aload_n (j := 2) dX1_isInWay_30 rfl ?_
  refine v_getL (c := 1) rfl rfl rfl ly1_5 cz1 flX1_25 dX1_isInWay_31 ?_
  refine v_iload_n (j := 3) dX1_isInWay_34 rfl ?_
  replace hF := gd_use hF
  obtain ⟨q7, hF⟩ := hF
  refine v_iald rfl q7 dX1_isInWay_35 ?_
  refine v_aload_n (j := 2) dX1_isInWay_36 rfl ?_
  refine v_getL (c := 1) rfl rfl rfl ly1_6 cz1 flX1_28 dX1_isInWay_37 ?_
  refine v_iload_n (j := 3) dX1_isInWay_40 rfl ?_
  replace hF := gd_use hF
  obtain ⟨q8, hF⟩ := hF
  refine v_iald rfl q8 dX1_isInWay_41 ?_
  refine v_isub dX1_isInWay_42 ?_
  refine v_topi fun v9 ev9 => ?_
  replace hF := lb_use ev9 hF
  clear ev9
  refine v_istore (ls' := [(6, zi v9), (5, zi v6), (4, zi v3), (0, zr 1 0), (1, zi a1), (2, zi a2), (3, zi a3)]) dX1_isInWay_43 (by decide) rfl ?_
  refine v_aload_n (j := 3) dX1_isInWay_45 rfl ?_
  refine v_getL (c := 1) rfl rfl rfl ly1_5 cz1 flX1_25 dX1_isInWay_46 ?_
  refine v_iload_n (j := 4) dX1_isInWay_49 rfl ?_
  replace hF := gd_use hF
  obtain ⟨q10, hF⟩ := hF
  refine v_iald rfl q10 dX1_isInWay_50 ?_
  refine v_aload_n (j := 3) dX1_isInWay_51 rfl ?_
  refine v_getL (c := 1) rfl rfl rfl ly1_6 cz1 flX1_28 dX1_isInWay_52 ?_
  refine v_iload_n (j := 4) dX1_isInWay_55 rfl ?_
  replace hF := gd_use hF
  obtain ⟨q11, hF⟩ := hF
  refine v_iald rfl q11 dX1_isInWay_56 ?_
  refine v_iadd dX1_isInWay_57 ?_
  refine v_topi fun v12 ev12 => ?_
  replace hF := lb_use ev12 hF
  clear ev12
  refine v_istore (ls' := [(7, zi v12), (6, zi v9), (5, zi v6), (4, zi v3), (0, zr 1 0), (1, zi a1), (2, zi a2), (3, zi a3)]) dX1_isInWay_58 (by decide) rfl ?_
  refine v_iload_n (j := 6) dX1_isInWay_60 rfl ?_
  refine v_aload_n (j := 4) dX1_isInWay_61 rfl ?_
  refine v_getI (c := 1) rfl (Or.inl rfl) cz1 flX1_9 dX1_isInWay_62 ?_
  refine v_J9_max_7cf53 mlX1_71 (by decide) (Nat.le_of_ble_eq_true rfl) dX1_isInWay_65 ?_
  refine v_iload (j := 3) dX1_isInWay_68 rfl ?_
  refine v_icmp_lt dX1_isInWay_70 (by decide : _ = ((86 : Nat) : Int)) (fun q => ?_) (fun q => ?_)
  · replace hF := brT q hF
    refine v_iconst (v := 0) dX1_isInWay_86 (by decide) ?_
    obtain ⟨rfl, rfl⟩ := ret_use hF
    exact v_zret rfl (Or.inl rfl) dX1_isInWay_87
  · replace hF := brF q hF
    refine v_iload_n (j := 6) dX1_isInWay_73 rfl ?_
    refine v_aload_n (j := 4) dX1_isInWay_74 rfl ?_
    refine v_getI (c := 1) rfl (Or.inl rfl) cz1 flX1_9 dX1_isInWay_75 ?_
    refine v_J9_min_7cf53 mlX1_84 (by decide) (Nat.le_of_ble_eq_true rfl) dX1_isInWay_78 ?_
    refine v_iload (j := 2) dX1_isInWay_81 rfl ?_
    refine v_icmp_le dX1_isInWay_83 (by decide : _ = ((88 : Nat) : Int)) (fun q => ?_) (fun q => ?_)
    · replace hF := brT q hF
      refine v_iload_n (j := 7) dX1_isInWay_88 rfl ?_
      refine v_aload_n (j := 4) dX1_isInWay_89 rfl ?_
      refine v_getI (c := 1) rfl (Or.inl rfl) cz1 flX1_15 dX1_isInWay_90 ?_
      refine v_J9_max_7cf53 mlX1_71 (by decide) (Nat.le_of_ble_eq_true rfl) dX1_isInWay_93 ?_
      refine v_iload (j := 1) dX1_isInWay_96 rfl ?_
      refine v_icmp_lt dX1_isInWay_98 (by decide : _ = ((114 : Nat) : Int)) (fun q => ?_) (fun q => ?_)
      · replace hF := brT q hF
        refine v_iconst (v := 0) dX1_isInWay_114 (by decide) ?_
        obtain ⟨rfl, rfl⟩ := ret_use hF
        exact v_zret rfl (Or.inl rfl) dX1_isInWay_115
      · replace hF := brF q hF
        refine v_iload_n (j := 7) dX1_isInWay_101 rfl ?_
        refine v_aload_n (j := 4) dX1_isInWay_102 rfl ?_
        refine v_getI (c := 1) rfl (Or.inl rfl) cz1 flX1_15 dX1_isInWay_103 ?_
        refine v_J9_min_7cf53 mlX1_84 (by decide) (Nat.le_of_ble_eq_true rfl) dX1_isInWay_106 ?_
        refine v_iload (j := 0) dX1_isInWay_109 rfl ?_
        refine v_icmp_le dX1_isInWay_111 (by decide : _ = ((116 : Nat) : Int)) (fun q => ?_) (fun q => ?_)
        · replace hF := brT q hF
          refine v_aload_n (j := 4) dX1_isInWay_116 rfl ?_
          refine v_iload_n (j := 6) dX1_isInWay_117 rfl ?_
          refine v_iload_n (j := 7) dX1_isInWay_118 rfl ?_
          refine v_iload (j := 3) dX1_isInWay_119 rfl ?_
          refine v_iload (j := 1) dX1_isInWay_121 rfl ?_
          refine v_cV (hm := h) (av := [zi a2, zi a3, zi v3, zi v9]) (st := []) (stn := [zi (fX1_sideOf a2 a3 v3 v9 h)]) (tX1_sideOf a2 a3 v3 v9 h) lcX1_sideOf mlX1_87 imX1_sideOf seX1_sideOf rfl rfl rfl rfl ⟨by decide, by decide⟩ (Nat.le_of_ble_eq_true rfl) dX1_isInWay_123 rfl rfl ?_
          refine v_topi fun v13 ev13 => ?_
          replace hF := lb_use ev13 hF
          clear ev13
          refine v_istore (ls' := [(8, zi v13), (7, zi v12), (6, zi v9), (5, zi v6), (4, zi v3), (0, zr 1 0), (1, zi a1), (2, zi a2), (3, zi a3)]) dX1_isInWay_126 (by decide) rfl ?_
          refine v_aload_n (j := 5) dX1_isInWay_128 rfl ?_
          refine v_iload_n (j := 7) dX1_isInWay_129 rfl ?_
          refine v_iload_n (j := 8) dX1_isInWay_130 rfl ?_
          refine v_iload (j := 3) dX1_isInWay_131 rfl ?_
          refine v_iload (j := 2) dX1_isInWay_133 rfl ?_
          refine v_cV (hm := h) (av := [zi a2, zi a3, zi v6, zi v9]) (st := []) (stn := [zi (fX1_sideOf a2 a3 v6 v9 h)]) (tX1_sideOf a2 a3 v6 v9 h) lcX1_sideOf mlX1_87 imX1_sideOf seX1_sideOf rfl rfl rfl rfl ⟨by decide, by decide⟩ (Nat.le_of_ble_eq_true rfl) dX1_isInWay_135 rfl rfl ?_
          refine v_topi fun v14 ev14 => ?_
          replace hF := lb_use ev14 hF
          clear ev14
          refine v_istore (ls' := [(9, zi v14), (8, zi v13), (7, zi v12), (6, zi v9), (5, zi v6), (4, zi v3), (0, zr 1 0), (1, zi a1), (2, zi a2), (3, zi a3)]) dX1_isInWay_138 (by decide) rfl ?_
          refine v_aload_n (j := 6) dX1_isInWay_140 rfl ?_
          refine v_iload_n (j := 8) dX1_isInWay_141 rfl ?_
          refine v_iload_n (j := 9) dX1_isInWay_142 rfl ?_
          refine v_iload (j := 5) dX1_isInWay_143 rfl ?_
          refine v_iload (j := 2) dX1_isInWay_145 rfl ?_
          refine v_cV (hm := h) (av := [zi a2, zi a3, zi v3, zi v12]) (st := []) (stn := [zi (fX1_sideOf a2 a3 v3 v12 h)]) (tX1_sideOf a2 a3 v3 v12 h) lcX1_sideOf mlX1_87 imX1_sideOf seX1_sideOf rfl rfl rfl rfl ⟨by decide, by decide⟩ (Nat.le_of_ble_eq_true rfl) dX1_isInWay_147 rfl rfl ?_
          refine v_topi fun v15 ev15 => ?_
          replace hF := lb_use ev15 hF
          clear ev15
          refine v_istore (ls' := [(10, zi v15), (9, zi v14), (8, zi v13), (7, zi v12), (6, zi v9), (5, zi v6), (4, zi v3), (0, zr 1 0), (1, zi a1), (2, zi a2), (3, zi a3)]) dX1_isInWay_150 (by decide) rfl ?_
          refine v_aload_n (j := 7) dX1_isInWay_152 rfl ?_
          refine v_iload_n (j := 9) dX1_isInWay_153 rfl ?_
          refine v_iload_n (j := 10) dX1_isInWay_154 rfl ?_
          refine v_iload (j := 5) dX1_isInWay_155 rfl ?_
          refine v_iload (j := 3) dX1_isInWay_157 rfl ?_
          refine v_cV (hm := h) (av := [zi a2, zi a3, zi v6, zi v12]) (st := []) (stn := [zi (fX1_sideOf a2 a3 v6 v12 h)]) (tX1_sideOf a2 a3 v6 v12 h) lcX1_sideOf mlX1_87 imX1_sideOf seX1_sideOf rfl rfl rfl rfl ⟨by decide, by decide⟩ (Nat.le_of_ble_eq_true rfl) dX1_isInWay_159 rfl rfl ?_
          refine v_topi fun v16 ev16 => ?_
          replace hF := lb_use ev16 hF
          clear ev16
          refine v_istore (ls' := [(11, zi v16), (10, zi v15), (9, zi v14), (8, zi v13), (7, zi v12), (6, zi v9), (5, zi v6), (4, zi v3), (0, zr 1 0), (1, zi a1), (2, zi a2), (3, zi a3)]) dX1_isInWay_162 (by decide) rfl ?_
          refine v_iload (j := 3) dX1_isInWay_164 rfl ?_
          refine v_iload (j := 2) dX1_isInWay_166 rfl ?_
          refine v_J9_min_7cf53 mlX1_84 (by decide) (Nat.le_of_ble_eq_true rfl) dX1_isInWay_168 ?_
          refine v_iload (j := 1) dX1_isInWay_171 rfl ?_
          refine v_iload (j := 0) dX1_isInWay_173 rfl ?_
          refine v_J9_min_7cf53 mlX1_84 (by decide) (Nat.le_of_ble_eq_true rfl) dX1_isInWay_175 ?_
          refine v_J9_min_7cf53 mlX1_84 (by decide) (Nat.le_of_ble_eq_true rfl) dX1_isInWay_178 ?_
          refine v_topi fun v17 ev17 => ?_
          replace hF := lb_use ev17 hF
          clear ev17
          refine v_istore (ls' := [(12, zi v17), (11, zi v16), (10, zi v15), (9, zi v14), (8, zi v13), (7, zi v12), (6, zi v9), (5, zi v6), (4, zi v3), (0, zr 1 0), (1, zi a1), (2, zi a2), (3, zi a3)]) dX1_isInWay_181 (by decide) rfl ?_
          refine v_iload (j := 4) dX1_isInWay_183 rfl ?_
          refine v_iload (j := 3) dX1_isInWay_185 rfl ?_
          refine v_J9_max_7cf53 mlX1_71 (by decide) (Nat.le_of_ble_eq_true rfl) dX1_isInWay_187 ?_
          refine v_iload (j := 2) dX1_isInWay_190 rfl ?_
          refine v_iload (j := 1) dX1_isInWay_192 rfl ?_
          refine v_J9_max_7cf53 mlX1_71 (by decide) (Nat.le_of_ble_eq_true rfl) dX1_isInWay_194 ?_
          refine v_J9_max_7cf53 mlX1_71 (by decide) (Nat.le_of_ble_eq_true rfl) dX1_isInWay_197 ?_
          refine v_topi fun v18 ev18 => ?_
          replace hF := lb_use ev18 hF
          clear ev18
          refine v_istore (ls' := [(13, zi v18), (12, zi v17), (11, zi v16), (10, zi v15), (9, zi v14), (8, zi v13), (7, zi v12), (6, zi v9), (5, zi v6), (4, zi v3), (0, zr 1 0), (1, zi a1), (2, zi a2), (3, zi a3)]) dX1_isInWay_200 (by decide) rfl ?_
          refine v_iload (j := 1) dX1_isInWay_202 rfl ?_
          refine v_if_gt dX1_isInWay_204 (by decide : _ = ((216 : Nat) : Int)) (fun q => ?_) (fun q => ?_)
          · replace hF := brT q hF
            refine v_iconst (v := 0) dX1_isInWay_216 (by decide) ?_
            obtain ⟨rfl, rfl⟩ := ret_use hF
            exact v_zret rfl (Or.inl rfl) dX1_isInWay_217
          · replace hF := brF q hF
            refine v_iload (j := 0) dX1_isInWay_207 rfl ?_
            refine v_if_lt dX1_isInWay_209 (by decide : _ = ((216 : Nat) : Int)) (fun q => ?_) (fun q => ?_)
            · replace hF := brT q hF
              refine v_iconst (v := 0) dX1_isInWay_216 (by decide) ?_
              obtain ⟨rfl, rfl⟩ := ret_use hF
              exact v_zret rfl (Or.inl rfl) dX1_isInWay_217
            · replace hF := brF q hF
              refine v_iconst (v := 1) dX1_isInWay_212 (by decide) ?_
              refine v_goto (tgt := 217) dX1_isInWay_213 (by decide) ?_
              obtain ⟨rfl, rfl⟩ := ret_use hF
              exact v_zret rfl (Or.inr rfl) dX1_isInWay_217
        · replace hF := brF q hF
          refine v_iconst (v := 0) dX1_isInWay_114 (by decide) ?_
          obtain ⟨rfl, rfl⟩ := ret_use hF
          exact v_zret rfl (Or.inl rfl) dX1_isInWay_115
    · replace hF := brF q hF
      refine v_iconst (v := 0) dX1_isInWay_86 (by decide) ?_
      obtain ⟨rfl, rfl⟩ := ret_use hF
      exact v_zret rfl (Or.inl rfl) dX1_isInWay_87
theorem dX1_heardAt_0 : decode cX1_heardAt 0 = .ok (.aload_n 0, 1) := by decide +kernel
theorem dX1_heardAt_1 : decode cX1_heardAt 1 = .ok (.getfield 9, 3) := by decide +kernel
theorem dX1_heardAt_4 : decode cX1_heardAt 4 = .ok (.iload_n 1, 1) := by decide +kernel
theorem dX1_heardAt_5 : decode cX1_heardAt 5 = .ok (.isub, 1) := by decide +kernel
theorem dX1_heardAt_6 : decode cX1_heardAt 6 = .ok (.istore 5, 2) := by decide +kernel
theorem dX1_heardAt_8 : decode cX1_heardAt 8 = .ok (.aload_n 0, 1) := by decide +kernel
theorem dX1_heardAt_9 : decode cX1_heardAt 9 = .ok (.getfield 15, 3) := by decide +kernel
theorem dX1_heardAt_12 : decode cX1_heardAt 12 = .ok (.iload_n 2, 1) := by decide +kernel
theorem dX1_heardAt_13 : decode cX1_heardAt 13 = .ok (.isub, 1) := by decide +kernel
theorem dX1_heardAt_14 : decode cX1_heardAt 14 = .ok (.istore 6, 2) := by decide +kernel
theorem dX1_heardAt_16 : decode cX1_heardAt 16 = .ok (.aload_n 0, 1) := by decide +kernel
theorem dX1_heardAt_17 : decode cX1_heardAt 17 = .ok (.getfield 18, 3) := by decide +kernel
theorem dX1_heardAt_20 : decode cX1_heardAt 20 = .ok (.bipush 10, 2) := by decide +kernel
theorem dX1_heardAt_22 : decode cX1_heardAt 22 = .ok (.iload 5, 2) := by decide +kernel
theorem dX1_heardAt_24 : decode cX1_heardAt 24 = .ok (.iload 5, 2) := by decide +kernel
theorem dX1_heardAt_26 : decode cX1_heardAt 26 = .ok (.imul, 1) := by decide +kernel
theorem dX1_heardAt_27 : decode cX1_heardAt 27 = .ok (.iadd, 1) := by decide +kernel
theorem dX1_heardAt_28 : decode cX1_heardAt 28 = .ok (.iload 6, 2) := by decide +kernel
theorem dX1_heardAt_30 : decode cX1_heardAt 30 = .ok (.iload 6, 2) := by decide +kernel
theorem dX1_heardAt_32 : decode cX1_heardAt 32 = .ok (.imul, 1) := by decide +kernel
theorem dX1_heardAt_33 : decode cX1_heardAt 33 = .ok (.iadd, 1) := by decide +kernel
theorem dX1_heardAt_34 : decode cX1_heardAt 34 = .ok (.idiv, 1) := by decide +kernel
theorem dX1_heardAt_35 : decode cX1_heardAt 35 = .ok (.iload_n 3, 1) := by decide +kernel
theorem dX1_heardAt_36 : decode cX1_heardAt 36 = .ok (.ishr, 1) := by decide +kernel
theorem dX1_heardAt_37 : decode cX1_heardAt 37 = .ok (.istore 7, 2) := by decide +kernel
theorem dX1_heardAt_39 : decode cX1_heardAt 39 = .ok (.iload 4, 2) := by decide +kernel
theorem dX1_heardAt_41 : decode cX1_heardAt 41 = .ok (.ifCond .eq 12, 3) := by decide +kernel
theorem dX1_heardAt_44 : decode cX1_heardAt 44 = .ok (.iload 7, 2) := by decide +kernel
theorem dX1_heardAt_46 : decode cX1_heardAt 46 = .ok (.iconst 3, 1) := by decide +kernel
theorem dX1_heardAt_47 : decode cX1_heardAt 47 = .ok (.imul, 1) := by decide +kernel
theorem dX1_heardAt_48 : decode cX1_heardAt 48 = .ok (.iconst 4, 1) := by decide +kernel
theorem dX1_heardAt_49 : decode cX1_heardAt 49 = .ok (.idiv, 1) := by decide +kernel
theorem dX1_heardAt_50 : decode cX1_heardAt 50 = .ok (.goto 5, 3) := by decide +kernel
theorem dX1_heardAt_53 : decode cX1_heardAt 53 = .ok (.iload 7, 2) := by decide +kernel
theorem dX1_heardAt_55 : decode cX1_heardAt 55 = .ok (.ireturn, 1) := by decide +kernel
def fX1_heardAt (a1 : Int32) (a2 : Int32) (a3 : Int32) (a4 : Int32) (h : Hp) : Option (Int32 × Hp) := lb ((gI h 1 0 0) - a1) (fun v1 => lb ((gI h 1 0 1) - a2) (fun v2 => gd (¬ (((10 : Int32) + (v1 * v1)) + (v2 * v2)) = 0) (lb (((gI h 1 0 2) / (((10 : Int32) + (v1 * v1)) + (v2 * v2))) >>> (a3 &&& 31)) (fun v4 => br (a4 = 0) (some (v4, h)) (some ((v4 * 3) / 4, h))))))
set_option maxRecDepth 20000 in
theorem tX1_heardAt {X : Cz} {a1 : Int32} {a2 : Int32} {a3 : Int32} {a4 : Int32} {h hE : Hp} {rE : Int32} (hF : fX1_heardAt a1 a2 a3 a4 h = some (rE, hE)) : Ct X mX1_heardAt true [zr 1 0, zi a1, zi a2, zi a3, zi a4] h (some (zi rE)) hE := by
  refine Ct_of (by decide) (Nat.le_of_ble_eq_true rfl) (ls := [(0, zr 1 0), (1, zi a1), (2, zi a2), (3, zi a3), (4, zi a4)]) rfl ?_
  unfold fX1_heardAt at hF
  refine v_aload_n (j := 0) dX1_heardAt_0 rfl ?_
  refine v_getI (c := 1) rfl (Or.inl rfl) cz1 flX1_9 dX1_heardAt_1 ?_
  refine v_iload_n (j := 1) dX1_heardAt_4 rfl ?_
  refine v_isub dX1_heardAt_5 ?_
  refine v_topi fun v1 ev1 => ?_
  replace hF := lb_use ev1 hF
  clear ev1
  refine v_istore (ls' := [(5, zi v1), (0, zr 1 0), (1, zi a1), (2, zi a2), (3, zi a3), (4, zi a4)]) dX1_heardAt_6 (by decide) rfl ?_
  refine v_aload_n (j := 1) dX1_heardAt_8 rfl ?_
  refine v_getI (c := 1) rfl (Or.inl rfl) cz1 flX1_15 dX1_heardAt_9 ?_
  refine v_iload_n (j := 3) dX1_heardAt_12 rfl ?_
  refine v_isub dX1_heardAt_13 ?_
  refine v_topi fun v2 ev2 => ?_
  replace hF := lb_use ev2 hF
  clear ev2
  refine v_istore (ls' := [(6, zi v2), (5, zi v1), (0, zr 1 0), (1, zi a1), (2, zi a2), (3, zi a3), (4, zi a4)]) dX1_heardAt_14 (by decide) rfl ?_
  refine v_aload_n (j := 2) dX1_heardAt_16 rfl ?_
  refine v_getI (c := 1) rfl (Or.inl rfl) cz1 flX1_18 dX1_heardAt_17 ?_
  refine v_bipush (v := 10) dX1_heardAt_20 (by decide) ?_
  refine v_iload (j := 1) dX1_heardAt_22 rfl ?_
  refine v_iload (j := 1) dX1_heardAt_24 rfl ?_
  refine v_imul dX1_heardAt_26 ?_
  refine v_iadd dX1_heardAt_27 ?_
  refine v_iload (j := 0) dX1_heardAt_28 rfl ?_
  refine v_iload (j := 0) dX1_heardAt_30 rfl ?_
  refine v_imul dX1_heardAt_32 ?_
  refine v_iadd dX1_heardAt_33 ?_
  replace hF := gd_use hF
  obtain ⟨q3, hF⟩ := hF
  refine v_idiv dX1_heardAt_34 q3 ?_
  refine v_iload_n (j := 5) dX1_heardAt_35 rfl ?_
  refine v_ishr dX1_heardAt_36 ?_
  refine v_topi fun v4 ev4 => ?_
  replace hF := lb_use ev4 hF
  clear ev4
  refine v_istore (ls' := [(7, zi v4), (6, zi v2), (5, zi v1), (0, zr 1 0), (1, zi a1), (2, zi a2), (3, zi a3), (4, zi a4)]) dX1_heardAt_37 (by decide) rfl ?_
  refine v_iload (j := 7) dX1_heardAt_39 rfl ?_
  refine v_if_eq dX1_heardAt_41 (by decide : _ = ((53 : Nat) : Int)) (fun q => ?_) (fun q => ?_)
  · replace hF := brT q hF
    refine v_iload (j := 0) dX1_heardAt_53 rfl ?_
    obtain ⟨rfl, rfl⟩ := ret_use hF
    exact v_iret rfl dX1_heardAt_55
  · replace hF := brF q hF
    refine v_iload (j := 0) dX1_heardAt_44 rfl ?_
    refine v_iconst (v := 3) dX1_heardAt_46 (by decide) ?_
    refine v_imul dX1_heardAt_47 ?_
    refine v_iconst (v := 4) dX1_heardAt_48 (by decide) ?_
    refine v_idiv dX1_heardAt_49 (by decide) ?_
    refine v_goto (tgt := 55) dX1_heardAt_50 (by decide) ?_
    obtain ⟨rfl, rfl⟩ := ret_use hF
    exact v_iret rfl dX1_heardAt_55
theorem dX1_measureBench_0 : decode cX1_measureBench 0 = .ok (.iconst 0, 1) := by decide +kernel
theorem dX1_measureBench_1 : decode cX1_measureBench 1 = .ok (.istore_n 2, 1) := by decide +kernel
theorem dX1_measureBench_2 : decode cX1_measureBench 2 = .ok (.iload_n 2, 1) := by decide +kernel
theorem dX1_measureBench_3 : decode cX1_measureBench 3 = .ok (.aload_n 0, 1) := by decide +kernel
theorem dX1_measureBench_4 : decode cX1_measureBench 4 = .ok (.getfield 37, 3) := by decide +kernel
theorem dX1_measureBench_7 : decode cX1_measureBench 7 = .ok (.iload_n 1, 1) := by decide +kernel
theorem dX1_measureBench_8 : decode cX1_measureBench 8 = .ok (.iaload, 1) := by decide +kernel
theorem dX1_measureBench_9 : decode cX1_measureBench 9 = .ok (.if_icmp .ge 108, 3) := by decide +kernel
theorem dX1_measureBench_12 : decode cX1_measureBench 12 = .ok (.aload_n 0, 1) := by decide +kernel
theorem dX1_measureBench_13 : decode cX1_measureBench 13 = .ok (.getfield 31, 3) := by decide +kernel
theorem dX1_measureBench_16 : decode cX1_measureBench 16 = .ok (.iload_n 1, 1) := by decide +kernel
theorem dX1_measureBench_17 : decode cX1_measureBench 17 = .ok (.iaload, 1) := by decide +kernel
theorem dX1_measureBench_18 : decode cX1_measureBench 18 = .ok (.iload_n 2, 1) := by decide +kernel
theorem dX1_measureBench_19 : decode cX1_measureBench 19 = .ok (.iadd, 1) := by decide +kernel
theorem dX1_measureBench_20 : decode cX1_measureBench 20 = .ok (.istore_n 3, 1) := by decide +kernel
theorem dX1_measureBench_21 : decode cX1_measureBench 21 = .ok (.aload_n 0, 1) := by decide +kernel
theorem dX1_measureBench_22 : decode cX1_measureBench 22 = .ok (.getfield 34, 3) := by decide +kernel
theorem dX1_measureBench_25 : decode cX1_measureBench 25 = .ok (.iload_n 1, 1) := by decide +kernel
theorem dX1_measureBench_26 : decode cX1_measureBench 26 = .ok (.iaload, 1) := by decide +kernel
theorem dX1_measureBench_27 : decode cX1_measureBench 27 = .ok (.istore 4, 2) := by decide +kernel
theorem dX1_measureBench_29 : decode cX1_measureBench 29 = .ok (.iconst 0, 1) := by decide +kernel
theorem dX1_measureBench_30 : decode cX1_measureBench 30 = .ok (.istore 5, 2) := by decide +kernel
theorem dX1_measureBench_32 : decode cX1_measureBench 32 = .ok (.iconst 0, 1) := by decide +kernel
theorem dX1_measureBench_33 : decode cX1_measureBench 33 = .ok (.istore 6, 2) := by decide +kernel
theorem dX1_measureBench_35 : decode cX1_measureBench 35 = .ok (.iload 6, 2) := by decide +kernel
theorem dX1_measureBench_37 : decode cX1_measureBench 37 = .ok (.aload_n 0, 1) := by decide +kernel
theorem dX1_measureBench_38 : decode cX1_measureBench 38 = .ok (.getfield 53, 3) := by decide +kernel
theorem dX1_measureBench_41 : decode cX1_measureBench 41 = .ok (.if_icmp .ge 31, 3) := by decide +kernel
theorem dX1_measureBench_44 : decode cX1_measureBench 44 = .ok (.iload 5, 2) := by decide +kernel
theorem dX1_measureBench_46 : decode cX1_measureBench 46 = .ok (.aload_n 0, 1) := by decide +kernel
theorem dX1_measureBench_47 : decode cX1_measureBench 47 = .ok (.iload 6, 2) := by decide +kernel
theorem dX1_measureBench_49 : decode cX1_measureBench 49 = .ok (.iload_n 3, 1) := by decide +kernel
theorem dX1_measureBench_50 : decode cX1_measureBench 50 = .ok (.iload 4, 2) := by decide +kernel
theorem dX1_measureBench_52 : decode cX1_measureBench 52 = .ok (.invokevirtual 77, 3) := by decide +kernel
theorem dX1_measureBench_55 : decode cX1_measureBench 55 = .ok (.ifCond .eq 7, 3) := by decide +kernel
theorem dX1_measureBench_58 : decode cX1_measureBench 58 = .ok (.iconst 1, 1) := by decide +kernel
theorem dX1_measureBench_59 : decode cX1_measureBench 59 = .ok (.goto 4, 3) := by decide +kernel
theorem dX1_measureBench_62 : decode cX1_measureBench 62 = .ok (.iconst 0, 1) := by decide +kernel
theorem dX1_measureBench_63 : decode cX1_measureBench 63 = .ok (.iadd, 1) := by decide +kernel
theorem dX1_measureBench_64 : decode cX1_measureBench 64 = .ok (.istore 5, 2) := by decide +kernel
theorem dX1_measureBench_66 : decode cX1_measureBench 66 = .ok (.iinc 6 1, 3) := by decide +kernel
theorem dX1_measureBench_69 : decode cX1_measureBench 69 = .ok (.goto (-34), 3) := by decide +kernel
theorem dX1_measureBench_72 : decode cX1_measureBench 72 = .ok (.iload_n 1, 1) := by decide +kernel
theorem dX1_measureBench_73 : decode cX1_measureBench 73 = .ok (.bipush 32, 2) := by decide +kernel
theorem dX1_measureBench_75 : decode cX1_measureBench 75 = .ok (.imul, 1) := by decide +kernel
theorem dX1_measureBench_76 : decode cX1_measureBench 76 = .ok (.iload_n 2, 1) := by decide +kernel
theorem dX1_measureBench_77 : decode cX1_measureBench 77 = .ok (.iadd, 1) := by decide +kernel
theorem dX1_measureBench_78 : decode cX1_measureBench 78 = .ok (.istore 6, 2) := by decide +kernel
theorem dX1_measureBench_80 : decode cX1_measureBench 80 = .ok (.aload_n 0, 1) := by decide +kernel
theorem dX1_measureBench_81 : decode cX1_measureBench 81 = .ok (.getfield 47, 3) := by decide +kernel
theorem dX1_measureBench_84 : decode cX1_measureBench 84 = .ok (.iload 6, 2) := by decide +kernel
theorem dX1_measureBench_86 : decode cX1_measureBench 86 = .ok (.iload 5, 2) := by decide +kernel
theorem dX1_measureBench_88 : decode cX1_measureBench 88 = .ok (.iastore, 1) := by decide +kernel
theorem dX1_measureBench_89 : decode cX1_measureBench 89 = .ok (.aload_n 0, 1) := by decide +kernel
theorem dX1_measureBench_90 : decode cX1_measureBench 90 = .ok (.getfield 44, 3) := by decide +kernel
theorem dX1_measureBench_93 : decode cX1_measureBench 93 = .ok (.iload 6, 2) := by decide +kernel
theorem dX1_measureBench_95 : decode cX1_measureBench 95 = .ok (.aload_n 0, 1) := by decide +kernel
theorem dX1_measureBench_96 : decode cX1_measureBench 96 = .ok (.iload_n 3, 1) := by decide +kernel
theorem dX1_measureBench_97 : decode cX1_measureBench 97 = .ok (.iload 4, 2) := by decide +kernel
theorem dX1_measureBench_99 : decode cX1_measureBench 99 = .ok (.iload 5, 2) := by decide +kernel
theorem dX1_measureBench_101 : decode cX1_measureBench 101 = .ok (.aload_n 0, 1) := by decide +kernel
theorem dX1_measureBench_102 : decode cX1_measureBench 102 = .ok (.getfield 40, 3) := by decide +kernel
theorem dX1_measureBench_105 : decode cX1_measureBench 105 = .ok (.iload_n 1, 1) := by decide +kernel
theorem dX1_measureBench_106 : decode cX1_measureBench 106 = .ok (.baload, 1) := by decide +kernel
theorem dX1_measureBench_107 : decode cX1_measureBench 107 = .ok (.invokevirtual 80, 3) := by decide +kernel
theorem dX1_measureBench_110 : decode cX1_measureBench 110 = .ok (.iastore, 1) := by decide +kernel
theorem dX1_measureBench_111 : decode cX1_measureBench 111 = .ok (.iinc 2 1, 3) := by decide +kernel
theorem dX1_measureBench_114 : decode cX1_measureBench 114 = .ok (.goto (-112), 3) := by decide +kernel
theorem dX1_measureBench_117 : decode cX1_measureBench 117 = .ok (.return_, 1) := by decide +kernel
def fX1_measureBench_L35 : Nat → Int32 → Int32 → Int32 → Int32 → Int32 → Int32 → Hp → Option ((Int32 × Int32) × Hp)
  | 0, _, _, _, _, _, _, _ => none
  | n + 1, a1, a2, a3, a4, a5, a6, h => br ((gI h 1 0 3) ≤ a6) (some ((a5, a6), h)) (bd (fX1_isInWay a6 a3 a4 h) (fun r6 h7 => br (r6 = 0) (lb (a5 + 0) (fun v8 => lb (a6 + 1) (fun v9 => fX1_measureBench_L35 n a1 a2 a3 a4 v8 v9 h7))) (lb (a5 + 1) (fun v10 => lb (a6 + 1) (fun v11 => fX1_measureBench_L35 n a1 a2 a3 a4 v10 v11 h7)))))
def fX1_measureBench_L2 : Nat → Int32 → Int32 → Hp → Option ((Int32) × Hp)
  | 0, _, _, _ => none
  | n + 1, a1, a2, h => gd (ib a1 8) (br ((gI h 28 0 (ix a1)) ≤ a2) (some ((a2), h)) (gd (ib a1 8) (lb ((gI h 26 0 (ix a1)) + a2) (fun v3 => gd (ib a1 8) (lb (gI h 27 0 (ix a1)) (fun v5 => bd (fX1_measureBench_L35 FU a1 a2 v3 v5 0 0 h) (fun t13 h12 => lb t13.1 (fun v14 => lb t13.2 (fun v15 => lb ((a1 * 32) + a2) (fun v16 => gd (ib v16 256) (lb (sI h12 31 0 (ix v16) v14) (fun h18 => gd (ib a1 8) (bd (fX1_heardAt v3 v5 v14 (gI h18 29 0 (ix a1)) h18) (fun r20 h21 => gd (ib v16 256) (lb (sI h21 30 0 (ix v16) r20) (fun h23 => lb (a2 + 1) (fun v24 => fX1_measureBench_L2 n a1 v24 h23)))))))))))))))))
def fX1_measureBench (a1 : Int32) (h : Hp) : Option (Unit × Hp) := bd (fX1_measureBench_L2 FU a1 0 h) (fun v27 h25 => some ((), h25))
set_option maxRecDepth 20000 in
theorem tX1_measureBench_L35 {X : Cz} {h0 : Hp} {r : Option AV} {hE : Hp} : ∀ (n : Nat) (a1 : Int32) (a2 : Int32) (a3 : Int32) (a4 : Int32) (a5 : Int32) (a6 : Int32) (h : Hp) (z : (Int32 × Int32) × Hp), fX1_measureBench_L35 n a1 a2 a3 a4 a5 a6 h = some z → V X mX1_measureBench true h0 72 [(0, zr 1 0), (1, zi a1), (2, zi a2), (3, zi a3), (4, zi a4), (5, zi z.1.1), (6, zi z.1.2)] [] z.2 r hE → V X mX1_measureBench true h0 35 [(0, zr 1 0), (1, zi a1), (2, zi a2), (3, zi a3), (4, zi a4), (5, zi a5), (6, zi a6)] [] h r hE := by
  intro n
  induction n with
  | zero => intro a1 a2 a3 a4 a5 a6 h z hF k; cases hF
  | succ n ih =>
    intro a1 a2 a3 a4 a5 a6 h z hF k
    rw [fX1_measureBench_L35] at hF
    refine v_iload (j := 6) dX1_measureBench_35 rfl ?_
    refine v_aload_n (j := 0) dX1_measureBench_37 rfl ?_
    refine v_getI (c := 1) rfl (Or.inl rfl) cz1 flX1_53 dX1_measureBench_38 ?_
    refine v_icmp_ge dX1_measureBench_41 (by decide : _ = ((72 : Nat) : Int)) (fun q => ?_) (fun q => ?_)
    · replace hF := brT q hF
      cases hF
      exact k
    · replace hF := brF q hF
      refine v_iload (j := 5) dX1_measureBench_44 rfl ?_
      refine v_aload_n (j := 0) dX1_measureBench_46 rfl ?_
      refine v_iload (j := 6) dX1_measureBench_47 rfl ?_
      refine v_iload_n (j := 3) dX1_measureBench_49 rfl ?_
      refine v_iload (j := 4) dX1_measureBench_50 rfl ?_
      replace hF := bd_use hF
      obtain ⟨r6, h7, er6, hF⟩ := hF
      refine v_cV (hm := h7) (av := [zi a6, zi a3, zi a4]) (st := [zi a5]) (stn := [zi r6, zi a5]) (tX1_isInWay er6) lcX1_isInWay mlX1_77 imX1_isInWay seX1_isInWay rfl rfl rfl rfl ⟨by decide, by decide⟩ (Nat.le_of_ble_eq_true rfl) dX1_measureBench_52 rfl rfl ?_
      clear er6
      refine v_if_eq dX1_measureBench_55 (by decide : _ = ((62 : Nat) : Int)) (fun q => ?_) (fun q => ?_)
      · replace hF := brT q hF
        refine v_iconst (v := 0) dX1_measureBench_62 (by decide) ?_
        refine v_iadd dX1_measureBench_63 ?_
        refine v_topi fun v8 ev8 => ?_
        replace hF := lb_use ev8 hF
        clear ev8
        refine v_istore (ls' := [(5, zi v8), (0, zr 1 0), (1, zi a1), (2, zi a2), (3, zi a3), (4, zi a4), (6, zi a6)]) dX1_measureBench_64 (by decide) rfl ?_
        obtain ⟨v9, ev9⟩ : ∃ y : Int32, y = a6 + 1 := ⟨_, rfl⟩
        replace hF := lb_use ev9 hF
        refine v_iinc (j := 6) (v := v9) (ls' := [(6, zi v9), (5, zi v8), (0, zr 1 0), (1, zi a1), (2, zi a2), (3, zi a3), (4, zi a4)]) dX1_measureBench_66 rfl (by rw [ev9]; rfl) (by decide) rfl ?_
        clear ev9
        refine v_goto (tgt := 35) dX1_measureBench_69 (by decide) ?_
        refine v_sub [2, 3, 4, 5, 6, 1, 0] rfl ?_
        exact ih a1 a2 a3 a4 v8 v9 h7 _ hF k
      · replace hF := brF q hF
        refine v_iconst (v := 1) dX1_measureBench_58 (by decide) ?_
        refine v_goto (tgt := 63) dX1_measureBench_59 (by decide) ?_
        refine v_iadd dX1_measureBench_63 ?_
        refine v_topi fun v10 ev10 => ?_
        replace hF := lb_use ev10 hF
        clear ev10
        refine v_istore (ls' := [(5, zi v10), (0, zr 1 0), (1, zi a1), (2, zi a2), (3, zi a3), (4, zi a4), (6, zi a6)]) dX1_measureBench_64 (by decide) rfl ?_
        obtain ⟨v11, ev11⟩ : ∃ y : Int32, y = a6 + 1 := ⟨_, rfl⟩
        replace hF := lb_use ev11 hF
        refine v_iinc (j := 6) (v := v11) (ls' := [(6, zi v11), (5, zi v10), (0, zr 1 0), (1, zi a1), (2, zi a2), (3, zi a3), (4, zi a4)]) dX1_measureBench_66 rfl (by rw [ev11]; rfl) (by decide) rfl ?_
        clear ev11
        refine v_goto (tgt := 35) dX1_measureBench_69 (by decide) ?_
        refine v_sub [2, 3, 4, 5, 6, 1, 0] rfl ?_
        exact ih a1 a2 a3 a4 v10 v11 h7 _ hF k
set_option maxRecDepth 20000 in
theorem tX1_measureBench_L2 {X : Cz} {h0 : Hp} {r : Option AV} {hE : Hp} : ∀ (n : Nat) (a1 : Int32) (a2 : Int32) (h : Hp) (z : (Int32) × Hp), fX1_measureBench_L2 n a1 a2 h = some z → V X mX1_measureBench true h0 117 [(0, zr 1 0), (1, zi a1), (2, zi z.1)] [] z.2 r hE → V X mX1_measureBench true h0 2 [(0, zr 1 0), (1, zi a1), (2, zi a2)] [] h r hE := by
  intro n
  induction n with
  | zero => intro a1 a2 h z hF k; cases hF
  | succ n ih =>
    intro a1 a2 h z hF k
    rw [fX1_measureBench_L2] at hF
    refine v_iload_n (j := 2) dX1_measureBench_2 rfl ?_
    refine v_aload_n (j := 0) dX1_measureBench_3 rfl ?_
    refine v_getL (c := 1) rfl rfl rfl ly1_10 cz1 flX1_37 dX1_measureBench_4 ?_
    refine v_iload_n (j := 1) dX1_measureBench_7 rfl ?_
    replace hF := gd_use hF
    obtain ⟨q1, hF⟩ := hF
    refine v_iald rfl q1 dX1_measureBench_8 ?_
    refine v_icmp_ge dX1_measureBench_9 (by decide : _ = ((117 : Nat) : Int)) (fun q => ?_) (fun q => ?_)
    · replace hF := brT q hF
      cases hF
      exact k
    · replace hF := brF q hF
      refine v_aload_n (j := 0) dX1_measureBench_12 rfl ?_
      refine v_getL (c := 1) rfl rfl rfl ly1_8 cz1 flX1_31 dX1_measureBench_13 ?_
      refine v_iload_n (j := 1) dX1_measureBench_16 rfl ?_
      replace hF := gd_use hF
      obtain ⟨q2, hF⟩ := hF
      refine v_iald rfl q2 dX1_measureBench_17 ?_
      refine v_iload_n (j := 2) dX1_measureBench_18 rfl ?_
      refine v_iadd dX1_measureBench_19 ?_
      refine v_topi fun v3 ev3 => ?_
      replace hF := lb_use ev3 hF
      clear ev3
      refine v_istore_n (ls' := [(3, zi v3), (0, zr 1 0), (1, zi a1), (2, zi a2)]) dX1_measureBench_20 (by decide) rfl ?_
      refine v_aload_n (j := 1) dX1_measureBench_21 rfl ?_
      refine v_getL (c := 1) rfl rfl rfl ly1_9 cz1 flX1_34 dX1_measureBench_22 ?_
      refine v_iload_n (j := 2) dX1_measureBench_25 rfl ?_
      replace hF := gd_use hF
      obtain ⟨q4, hF⟩ := hF
      refine v_iald rfl q4 dX1_measureBench_26 ?_
      refine v_topi fun v5 ev5 => ?_
      replace hF := lb_use ev5 hF
      clear ev5
      refine v_istore (ls' := [(4, zi v5), (3, zi v3), (0, zr 1 0), (1, zi a1), (2, zi a2)]) dX1_measureBench_27 (by decide) rfl ?_
      refine v_iconst (v := 0) dX1_measureBench_29 (by decide) ?_
      refine v_istore (ls' := [(5, zi 0), (4, zi v5), (3, zi v3), (0, zr 1 0), (1, zi a1), (2, zi a2)]) dX1_measureBench_30 (by decide) rfl ?_
      refine v_iconst (v := 0) dX1_measureBench_32 (by decide) ?_
      refine v_istore (ls' := [(6, zi 0), (5, zi 0), (4, zi v5), (3, zi v3), (0, zr 1 0), (1, zi a1), (2, zi a2)]) dX1_measureBench_33 (by decide) rfl ?_
      refine v_sub [4, 5, 6, 3, 2, 1, 0] rfl ?_
      replace hF := bd_use hF
      obtain ⟨t13, h12, et13, hF⟩ := hF
      refine tX1_measureBench_L35 _ a1 a2 v3 v5 0 0 h _ et13 ?_
      clear et13
      obtain ⟨v14, v15⟩ := t13
      replace hF := lb_use (x := v14) rfl hF
      replace hF := lb_use (x := v15) rfl hF
      refine v_iload_n (j := 1) dX1_measureBench_72 rfl ?_
      refine v_bipush (v := 32) dX1_measureBench_73 (by decide) ?_
      refine v_imul dX1_measureBench_75 ?_
      refine v_iload_n (j := 2) dX1_measureBench_76 rfl ?_
      refine v_iadd dX1_measureBench_77 ?_
      refine v_topi fun v16 ev16 => ?_
      replace hF := lb_use ev16 hF
      clear ev16
      refine v_istore (ls' := [(6, zi v16), (0, zr 1 0), (1, zi a1), (2, zi a2), (3, zi v3), (4, zi v5), (5, zi v14)]) dX1_measureBench_78 (by decide) rfl ?_
      refine v_aload_n (j := 1) dX1_measureBench_80 rfl ?_
      refine v_getL (c := 1) rfl rfl rfl ly1_13 cz1 flX1_47 dX1_measureBench_81 ?_
      refine v_iload (j := 0) dX1_measureBench_84 rfl ?_
      refine v_iload (j := 6) dX1_measureBench_86 rfl ?_
      replace hF := gd_use hF
      obtain ⟨q17, hF⟩ := hF
      refine v_iast rfl q17 dX1_measureBench_88 ?_
      refine v_toph fun h18 eh18 => ?_
      replace hF := lb_use eh18 hF
      clear eh18
      refine v_aload_n (j := 1) dX1_measureBench_89 rfl ?_
      refine v_getL (c := 1) rfl rfl rfl ly1_12 cz1 flX1_44 dX1_measureBench_90 ?_
      refine v_iload (j := 0) dX1_measureBench_93 rfl ?_
      refine v_aload_n (j := 1) dX1_measureBench_95 rfl ?_
      refine v_iload_n (j := 4) dX1_measureBench_96 rfl ?_
      refine v_iload (j := 5) dX1_measureBench_97 rfl ?_
      refine v_iload (j := 6) dX1_measureBench_99 rfl ?_
      refine v_aload_n (j := 1) dX1_measureBench_101 rfl ?_
      refine v_getL (c := 1) rfl rfl rfl ly1_11 cz1 flX1_40 dX1_measureBench_102 ?_
      refine v_iload_n (j := 2) dX1_measureBench_105 rfl ?_
      replace hF := gd_use hF
      obtain ⟨q19, hF⟩ := hF
      refine v_zald rfl q19 dX1_measureBench_106 ?_
      replace hF := bd_use hF
      obtain ⟨r20, h21, er20, hF⟩ := hF
      refine v_cV (hm := h21) (av := [zi v3, zi v5, zi v14, zi (gI h18 29 0 (ix a1))]) (st := [zi v16, zr 30 0]) (stn := [zi r20, zi v16, zr 30 0]) (tX1_heardAt er20) lcX1_heardAt mlX1_80 imX1_heardAt seX1_heardAt rfl rfl rfl rfl ⟨by decide, by decide⟩ (Nat.le_of_ble_eq_true rfl) dX1_measureBench_107 rfl rfl ?_
      clear er20
      replace hF := gd_use hF
      obtain ⟨q22, hF⟩ := hF
      refine v_iast rfl q22 dX1_measureBench_110 ?_
      refine v_toph fun h23 eh23 => ?_
      replace hF := lb_use eh23 hF
      clear eh23
      obtain ⟨v24, ev24⟩ : ∃ y : Int32, y = a2 + 1 := ⟨_, rfl⟩
      replace hF := lb_use ev24 hF
      refine v_iinc (j := 3) (v := v24) (ls' := [(2, zi v24), (6, zi v16), (0, zr 1 0), (1, zi a1), (3, zi v3), (4, zi v5), (5, zi v14)]) dX1_measureBench_111 rfl (by rw [ev24]; rfl) (by decide) rfl ?_
      clear ev24
      refine v_goto (tgt := 2) dX1_measureBench_114 (by decide) ?_
      refine v_sub [2, 3, 0] rfl ?_
      exact ih a1 v24 h23 _ hF k
set_option maxRecDepth 20000 in
theorem tX1_measureBench {X : Cz} {a1 : Int32} {h hE : Hp} {rE : Unit} (hF : fX1_measureBench a1 h = some (rE, hE)) : Ct X mX1_measureBench true [zr 1 0, zi a1] h (none) hE := by
  refine Ct_of (by decide) (Nat.le_of_ble_eq_true rfl) (ls := [(0, zr 1 0), (1, zi a1)]) rfl ?_
  unfold fX1_measureBench at hF
  refine v_iconst (v := 0) dX1_measureBench_0 (by decide) ?_
  refine v_istore_n (ls' := [(2, zi 0), (0, zr 1 0), (1, zi a1)]) dX1_measureBench_1 (by decide) rfl ?_
  refine v_sub [1, 2, 0] rfl ?_
  replace hF := bd_use hF
  obtain ⟨v27, h25, ev27, hF⟩ := hF
  refine tX1_measureBench_L2 _ a1 0 h _ ev27 ?_
  clear ev27
  cases hF
  exact v_vret rfl dX1_measureBench_117
theorem dX1_measureAll_0 : decode cX1_measureAll 0 = .ok (.iconst 0, 1) := by decide +kernel
theorem dX1_measureAll_1 : decode cX1_measureAll 1 = .ok (.istore_n 1, 1) := by decide +kernel
theorem dX1_measureAll_2 : decode cX1_measureAll 2 = .ok (.iload_n 1, 1) := by decide +kernel
theorem dX1_measureAll_3 : decode cX1_measureAll 3 = .ok (.aload_n 0, 1) := by decide +kernel
theorem dX1_measureAll_4 : decode cX1_measureAll 4 = .ok (.getfield 56, 3) := by decide +kernel
theorem dX1_measureAll_7 : decode cX1_measureAll 7 = .ok (.if_icmp .ge 14, 3) := by decide +kernel
theorem dX1_measureAll_10 : decode cX1_measureAll 10 = .ok (.aload_n 0, 1) := by decide +kernel
theorem dX1_measureAll_11 : decode cX1_measureAll 11 = .ok (.iload_n 1, 1) := by decide +kernel
theorem dX1_measureAll_12 : decode cX1_measureAll 12 = .ok (.invokevirtual 59, 3) := by decide +kernel
theorem dX1_measureAll_15 : decode cX1_measureAll 15 = .ok (.iinc 1 1, 3) := by decide +kernel
theorem dX1_measureAll_18 : decode cX1_measureAll 18 = .ok (.goto (-16), 3) := by decide +kernel
theorem dX1_measureAll_21 : decode cX1_measureAll 21 = .ok (.return_, 1) := by decide +kernel
def fX1_measureAll_L2 : Nat → Int32 → Hp → Option ((Int32) × Hp)
  | 0, _, _ => none
  | n + 1, a1, h => br ((gI h 1 0 7) ≤ a1) (some ((a1), h)) (bd (fX1_measureBench a1 h) (fun r1 h2 => lb (a1 + 1) (fun v3 => fX1_measureAll_L2 n v3 h2)))
def fX1_measureAll (h : Hp) : Option (Unit × Hp) := bd (fX1_measureAll_L2 FU 0 h) (fun v6 h4 => some ((), h4))
set_option maxRecDepth 20000 in
theorem tX1_measureAll_L2 {X : Cz} {h0 : Hp} {r : Option AV} {hE : Hp} : ∀ (n : Nat) (a1 : Int32) (h : Hp) (z : (Int32) × Hp), fX1_measureAll_L2 n a1 h = some z → V X mX1_measureAll true h0 21 [(0, zr 1 0), (1, zi z.1)] [] z.2 r hE → V X mX1_measureAll true h0 2 [(0, zr 1 0), (1, zi a1)] [] h r hE := by
  intro n
  induction n with
  | zero => intro a1 h z hF k; cases hF
  | succ n ih =>
    intro a1 h z hF k
    rw [fX1_measureAll_L2] at hF
    refine v_iload_n (j := 1) dX1_measureAll_2 rfl ?_
    refine v_aload_n (j := 0) dX1_measureAll_3 rfl ?_
    refine v_getI (c := 1) rfl (Or.inl rfl) cz1 flX1_56 dX1_measureAll_4 ?_
    refine v_icmp_ge dX1_measureAll_7 (by decide : _ = ((21 : Nat) : Int)) (fun q => ?_) (fun q => ?_)
    · replace hF := brT q hF
      cases hF
      exact k
    · replace hF := brF q hF
      refine v_aload_n (j := 0) dX1_measureAll_10 rfl ?_
      refine v_iload_n (j := 1) dX1_measureAll_11 rfl ?_
      replace hF := bd_use hF
      obtain ⟨r1, h2, er1, hF⟩ := hF
      refine v_cV (hm := h2) (av := [zi a1]) (st := []) (stn := []) (tX1_measureBench er1) lcX1_measureBench mlX1_59 imX1_measureBench seX1_measureBench rfl rfl rfl rfl ⟨by decide, by decide⟩ (Nat.le_of_ble_eq_true rfl) dX1_measureAll_12 rfl rfl ?_
      clear er1
      obtain ⟨v3, ev3⟩ : ∃ y : Int32, y = a1 + 1 := ⟨_, rfl⟩
      replace hF := lb_use ev3 hF
      refine v_iinc (j := 1) (v := v3) (ls' := [(1, zi v3), (0, zr 1 0)]) dX1_measureAll_15 rfl (by rw [ev3]; rfl) (by decide) rfl ?_
      clear ev3
      refine v_goto (tgt := 2) dX1_measureAll_18 (by decide) ?_
      refine v_sub [1, 0] rfl ?_
      exact ih v3 h2 _ hF k
set_option maxRecDepth 20000 in
theorem tX1_measureAll {X : Cz} {h hE : Hp} {rE : Unit} (hF : fX1_measureAll h = some (rE, hE)) : Ct X mX1_measureAll true [zr 1 0] h (none) hE := by
  refine Ct_of (by decide) (Nat.le_of_ble_eq_true rfl) (ls := [(0, zr 1 0)]) rfl ?_
  unfold fX1_measureAll at hF
  refine v_iconst (v := 0) dX1_measureAll_0 (by decide) ?_
  refine v_istore_n (ls' := [(1, zi 0), (0, zr 1 0)]) dX1_measureAll_1 (by decide) rfl ?_
  refine v_sub [1, 0] rfl ?_
  replace hF := bd_use hF
  obtain ⟨v6, h4, ev6, hF⟩ := hF
  refine tX1_measureAll_L2 _ 0 h _ ev6 ?_
  clear ev6
  cases hF
  exact v_vret rfl dX1_measureAll_21
theorem dX1_standPulpit_0 : decode cX1_standPulpit 0 = .ok (.aload_n 0, 1) := by decide +kernel
theorem dX1_standPulpit_1 : decode cX1_standPulpit 1 = .ok (.iload_n 1, 1) := by decide +kernel
theorem dX1_standPulpit_2 : decode cX1_standPulpit 2 = .ok (.putfield 9, 3) := by decide +kernel
theorem dX1_standPulpit_5 : decode cX1_standPulpit 5 = .ok (.aload_n 0, 1) := by decide +kernel
theorem dX1_standPulpit_6 : decode cX1_standPulpit 6 = .ok (.iload_n 2, 1) := by decide +kernel
theorem dX1_standPulpit_7 : decode cX1_standPulpit 7 = .ok (.putfield 15, 3) := by decide +kernel
theorem dX1_standPulpit_10 : decode cX1_standPulpit 10 = .ok (.aload_n 0, 1) := by decide +kernel
theorem dX1_standPulpit_11 : decode cX1_standPulpit 11 = .ok (.iload_n 3, 1) := by decide +kernel
theorem dX1_standPulpit_12 : decode cX1_standPulpit 12 = .ok (.putfield 18, 3) := by decide +kernel
theorem dX1_standPulpit_15 : decode cX1_standPulpit 15 = .ok (.aload_n 0, 1) := by decide +kernel
theorem dX1_standPulpit_16 : decode cX1_standPulpit 16 = .ok (.invokevirtual 50, 3) := by decide +kernel
theorem dX1_standPulpit_19 : decode cX1_standPulpit 19 = .ok (.return_, 1) := by decide +kernel
def fX1_standPulpit (a1 : Int32) (a2 : Int32) (a3 : Int32) (h : Hp) : Option (Unit × Hp) := lb (sI h 1 0 0 a1) (fun h1 => lb (sI h1 1 0 1 a2) (fun h2 => lb (sI h2 1 0 2 a3) (fun h3 => bd (fX1_measureAll h3) (fun r4 h5 => some ((), h5)))))
set_option maxRecDepth 20000 in
theorem tX1_standPulpit {X : Cz} {a1 : Int32} {a2 : Int32} {a3 : Int32} {h hE : Hp} {rE : Unit} (hF : fX1_standPulpit a1 a2 a3 h = some (rE, hE)) : Ct X mX1_standPulpit true [zr 1 0, zi a1, zi a2, zi a3] h (none) hE := by
  refine Ct_of (by decide) (Nat.le_of_ble_eq_true rfl) (ls := [(0, zr 1 0), (1, zi a1), (2, zi a2), (3, zi a3)]) rfl ?_
  unfold fX1_standPulpit at hF
  refine v_aload_n (j := 0) dX1_standPulpit_0 rfl ?_
  refine v_iload_n (j := 1) dX1_standPulpit_1 rfl ?_
  refine v_putI (c := 1) rfl rfl (Nat.le_of_ble_eq_true rfl) cz1 flX1_9 dX1_standPulpit_2 ?_
  refine v_toph fun h1 eh1 => ?_
  replace hF := lb_use eh1 hF
  clear eh1
  refine v_aload_n (j := 0) dX1_standPulpit_5 rfl ?_
  refine v_iload_n (j := 2) dX1_standPulpit_6 rfl ?_
  refine v_putI (c := 1) rfl rfl (Nat.le_of_ble_eq_true rfl) cz1 flX1_15 dX1_standPulpit_7 ?_
  refine v_toph fun h2 eh2 => ?_
  replace hF := lb_use eh2 hF
  clear eh2
  refine v_aload_n (j := 0) dX1_standPulpit_10 rfl ?_
  refine v_iload_n (j := 3) dX1_standPulpit_11 rfl ?_
  refine v_putI (c := 1) rfl rfl (Nat.le_of_ble_eq_true rfl) cz1 flX1_18 dX1_standPulpit_12 ?_
  refine v_toph fun h3 eh3 => ?_
  replace hF := lb_use eh3 hF
  clear eh3
  refine v_aload_n (j := 0) dX1_standPulpit_15 rfl ?_
  replace hF := bd_use hF
  obtain ⟨r4, h5, er4, hF⟩ := hF
  refine v_cV (hm := h5) (av := []) (st := []) (stn := []) (tX1_measureAll er4) lcX1_measureAll mlX1_50 imX1_measureAll seX1_measureAll rfl rfl rfl rfl ⟨by decide, by decide⟩ (Nat.le_of_ble_eq_true rfl) dX1_standPulpit_16 rfl rfl ?_
  clear er4
  cases hF
  exact v_vret rfl dX1_standPulpit_19
theorem dX1_addPillar_0 : decode cX1_addPillar 0 = .ok (.aload_n 0, 1) := by decide +kernel
theorem dX1_addPillar_1 : decode cX1_addPillar 1 = .ok (.getfield 53, 3) := by decide +kernel
theorem dX1_addPillar_4 : decode cX1_addPillar 4 = .ok (.bipush 8, 2) := by decide +kernel
theorem dX1_addPillar_6 : decode cX1_addPillar 6 = .ok (.if_icmp .lt 6, 3) := by decide +kernel
theorem dX1_addPillar_9 : decode cX1_addPillar 9 = .ok (.bipush (-3), 2) := by decide +kernel
theorem dX1_addPillar_11 : decode cX1_addPillar 11 = .ok (.ireturn, 1) := by decide +kernel
theorem dX1_addPillar_12 : decode cX1_addPillar 12 = .ok (.aload_n 0, 1) := by decide +kernel
theorem dX1_addPillar_13 : decode cX1_addPillar 13 = .ok (.getfield 21, 3) := by decide +kernel
theorem dX1_addPillar_16 : decode cX1_addPillar 16 = .ok (.aload_n 0, 1) := by decide +kernel
theorem dX1_addPillar_17 : decode cX1_addPillar 17 = .ok (.getfield 53, 3) := by decide +kernel
theorem dX1_addPillar_20 : decode cX1_addPillar 20 = .ok (.iload_n 1, 1) := by decide +kernel
theorem dX1_addPillar_21 : decode cX1_addPillar 21 = .ok (.iastore, 1) := by decide +kernel
theorem dX1_addPillar_22 : decode cX1_addPillar 22 = .ok (.aload_n 0, 1) := by decide +kernel
theorem dX1_addPillar_23 : decode cX1_addPillar 23 = .ok (.getfield 25, 3) := by decide +kernel
theorem dX1_addPillar_26 : decode cX1_addPillar 26 = .ok (.aload_n 0, 1) := by decide +kernel
theorem dX1_addPillar_27 : decode cX1_addPillar 27 = .ok (.getfield 53, 3) := by decide +kernel
theorem dX1_addPillar_30 : decode cX1_addPillar 30 = .ok (.iload_n 2, 1) := by decide +kernel
theorem dX1_addPillar_31 : decode cX1_addPillar 31 = .ok (.iastore, 1) := by decide +kernel
theorem dX1_addPillar_32 : decode cX1_addPillar 32 = .ok (.aload_n 0, 1) := by decide +kernel
theorem dX1_addPillar_33 : decode cX1_addPillar 33 = .ok (.getfield 28, 3) := by decide +kernel
theorem dX1_addPillar_36 : decode cX1_addPillar 36 = .ok (.aload_n 0, 1) := by decide +kernel
theorem dX1_addPillar_37 : decode cX1_addPillar 37 = .ok (.getfield 53, 3) := by decide +kernel
theorem dX1_addPillar_40 : decode cX1_addPillar 40 = .ok (.iload_n 3, 1) := by decide +kernel
theorem dX1_addPillar_41 : decode cX1_addPillar 41 = .ok (.iastore, 1) := by decide +kernel
theorem dX1_addPillar_42 : decode cX1_addPillar 42 = .ok (.aload_n 0, 1) := by decide +kernel
theorem dX1_addPillar_43 : decode cX1_addPillar 43 = .ok (.dup, 1) := by decide +kernel
theorem dX1_addPillar_44 : decode cX1_addPillar 44 = .ok (.getfield 53, 3) := by decide +kernel
theorem dX1_addPillar_47 : decode cX1_addPillar 47 = .ok (.iconst 1, 1) := by decide +kernel
theorem dX1_addPillar_48 : decode cX1_addPillar 48 = .ok (.iadd, 1) := by decide +kernel
theorem dX1_addPillar_49 : decode cX1_addPillar 49 = .ok (.putfield 53, 3) := by decide +kernel
theorem dX1_addPillar_52 : decode cX1_addPillar 52 = .ok (.aload_n 0, 1) := by decide +kernel
theorem dX1_addPillar_53 : decode cX1_addPillar 53 = .ok (.invokevirtual 50, 3) := by decide +kernel
theorem dX1_addPillar_56 : decode cX1_addPillar 56 = .ok (.aload_n 0, 1) := by decide +kernel
theorem dX1_addPillar_57 : decode cX1_addPillar 57 = .ok (.getfield 53, 3) := by decide +kernel
theorem dX1_addPillar_60 : decode cX1_addPillar 60 = .ok (.iconst 1, 1) := by decide +kernel
theorem dX1_addPillar_61 : decode cX1_addPillar 61 = .ok (.isub, 1) := by decide +kernel
theorem dX1_addPillar_62 : decode cX1_addPillar 62 = .ok (.ireturn, 1) := by decide +kernel
def fX1_addPillar (a1 : Int32) (a2 : Int32) (a3 : Int32) (h : Hp) : Option (Int32 × Hp) := br ((gI h 1 0 3) < 8) (gd (ib (gI h 1 0 3) 8) (lb (sI h 23 0 (ix (gI h 1 0 3)) a1) (fun h2 => gd (ib (gI h2 1 0 3) 8) (lb (sI h2 24 0 (ix (gI h2 1 0 3)) a2) (fun h4 => gd (ib (gI h4 1 0 3) 8) (lb (sI h4 25 0 (ix (gI h4 1 0 3)) a3) (fun h6 => lb (sI h6 1 0 3 ((gI h6 1 0 3) + 1)) (fun h7 => bd (fX1_measureAll h7) (fun r8 h9 => some ((gI h9 1 0 3) - 1, h9)))))))))) (some ((-3), h))
set_option maxRecDepth 20000 in
theorem tX1_addPillar {X : Cz} {a1 : Int32} {a2 : Int32} {a3 : Int32} {h hE : Hp} {rE : Int32} (hF : fX1_addPillar a1 a2 a3 h = some (rE, hE)) : Ct X mX1_addPillar true [zr 1 0, zi a1, zi a2, zi a3] h (some (zi rE)) hE := by
  refine Ct_of (by decide) (Nat.le_of_ble_eq_true rfl) (ls := [(0, zr 1 0), (1, zi a1), (2, zi a2), (3, zi a3)]) rfl ?_
  unfold fX1_addPillar at hF
  refine v_aload_n (j := 0) dX1_addPillar_0 rfl ?_
  refine v_getI (c := 1) rfl (Or.inl rfl) cz1 flX1_53 dX1_addPillar_1 ?_
  refine v_bipush (v := 8) dX1_addPillar_4 (by decide) ?_
  refine v_icmp_lt dX1_addPillar_6 (by decide : _ = ((12 : Nat) : Int)) (fun q => ?_) (fun q => ?_)
  · replace hF := brT q hF
    refine v_aload_n (j := 0) dX1_addPillar_12 rfl ?_
    refine v_getL (c := 1) rfl rfl rfl ly1_4 cz1 flX1_21 dX1_addPillar_13 ?_
    refine v_aload_n (j := 0) dX1_addPillar_16 rfl ?_
    refine v_getI (c := 1) rfl (Or.inl rfl) cz1 flX1_53 dX1_addPillar_17 ?_
    refine v_iload_n (j := 1) dX1_addPillar_20 rfl ?_
    replace hF := gd_use hF
    obtain ⟨q1, hF⟩ := hF
    refine v_iast rfl q1 dX1_addPillar_21 ?_
    refine v_toph fun h2 eh2 => ?_
    replace hF := lb_use eh2 hF
    clear eh2
    refine v_aload_n (j := 0) dX1_addPillar_22 rfl ?_
    refine v_getL (c := 1) rfl rfl rfl ly1_5 cz1 flX1_25 dX1_addPillar_23 ?_
    refine v_aload_n (j := 0) dX1_addPillar_26 rfl ?_
    refine v_getI (c := 1) rfl (Or.inl rfl) cz1 flX1_53 dX1_addPillar_27 ?_
    refine v_iload_n (j := 2) dX1_addPillar_30 rfl ?_
    replace hF := gd_use hF
    obtain ⟨q3, hF⟩ := hF
    refine v_iast rfl q3 dX1_addPillar_31 ?_
    refine v_toph fun h4 eh4 => ?_
    replace hF := lb_use eh4 hF
    clear eh4
    refine v_aload_n (j := 0) dX1_addPillar_32 rfl ?_
    refine v_getL (c := 1) rfl rfl rfl ly1_6 cz1 flX1_28 dX1_addPillar_33 ?_
    refine v_aload_n (j := 0) dX1_addPillar_36 rfl ?_
    refine v_getI (c := 1) rfl (Or.inl rfl) cz1 flX1_53 dX1_addPillar_37 ?_
    refine v_iload_n (j := 3) dX1_addPillar_40 rfl ?_
    replace hF := gd_use hF
    obtain ⟨q5, hF⟩ := hF
    refine v_iast rfl q5 dX1_addPillar_41 ?_
    refine v_toph fun h6 eh6 => ?_
    replace hF := lb_use eh6 hF
    clear eh6
    refine v_aload_n (j := 0) dX1_addPillar_42 rfl ?_
    refine v_dup dX1_addPillar_43 rfl ?_
    refine v_getI (c := 1) rfl (Or.inl rfl) cz1 flX1_53 dX1_addPillar_44 ?_
    refine v_iconst (v := 1) dX1_addPillar_47 (by decide) ?_
    refine v_iadd dX1_addPillar_48 ?_
    refine v_putI (c := 1) rfl rfl (Nat.le_of_ble_eq_true rfl) cz1 flX1_53 dX1_addPillar_49 ?_
    refine v_toph fun h7 eh7 => ?_
    replace hF := lb_use eh7 hF
    clear eh7
    refine v_aload_n (j := 0) dX1_addPillar_52 rfl ?_
    replace hF := bd_use hF
    obtain ⟨r8, h9, er8, hF⟩ := hF
    refine v_cV (hm := h9) (av := []) (st := []) (stn := []) (tX1_measureAll er8) lcX1_measureAll mlX1_50 imX1_measureAll seX1_measureAll rfl rfl rfl rfl ⟨by decide, by decide⟩ (Nat.le_of_ble_eq_true rfl) dX1_addPillar_53 rfl rfl ?_
    clear er8
    refine v_aload_n (j := 0) dX1_addPillar_56 rfl ?_
    refine v_getI (c := 1) rfl (Or.inl rfl) cz1 flX1_53 dX1_addPillar_57 ?_
    refine v_iconst (v := 1) dX1_addPillar_60 (by decide) ?_
    refine v_isub dX1_addPillar_61 ?_
    obtain ⟨rfl, rfl⟩ := ret_use hF
    exact v_iret rfl dX1_addPillar_62
  · replace hF := brF q hF
    refine v_bipush (v := (-3)) dX1_addPillar_9 (by decide) ?_
    obtain ⟨rfl, rfl⟩ := ret_use hF
    exact v_iret rfl dX1_addPillar_11
theorem dX1_addBench_0 : decode cX1_addBench 0 = .ok (.aload_n 0, 1) := by decide +kernel
theorem dX1_addBench_1 : decode cX1_addBench 1 = .ok (.getfield 56, 3) := by decide +kernel
theorem dX1_addBench_4 : decode cX1_addBench 4 = .ok (.bipush 8, 2) := by decide +kernel
theorem dX1_addBench_6 : decode cX1_addBench 6 = .ok (.if_icmp .lt 6, 3) := by decide +kernel
theorem dX1_addBench_9 : decode cX1_addBench 9 = .ok (.bipush (-3), 2) := by decide +kernel
theorem dX1_addBench_11 : decode cX1_addBench 11 = .ok (.ireturn, 1) := by decide +kernel
theorem dX1_addBench_12 : decode cX1_addBench 12 = .ok (.aload_n 0, 1) := by decide +kernel
theorem dX1_addBench_13 : decode cX1_addBench 13 = .ok (.getfield 31, 3) := by decide +kernel
theorem dX1_addBench_16 : decode cX1_addBench 16 = .ok (.aload_n 0, 1) := by decide +kernel
theorem dX1_addBench_17 : decode cX1_addBench 17 = .ok (.getfield 56, 3) := by decide +kernel
theorem dX1_addBench_20 : decode cX1_addBench 20 = .ok (.iload_n 1, 1) := by decide +kernel
theorem dX1_addBench_21 : decode cX1_addBench 21 = .ok (.iastore, 1) := by decide +kernel
theorem dX1_addBench_22 : decode cX1_addBench 22 = .ok (.aload_n 0, 1) := by decide +kernel
theorem dX1_addBench_23 : decode cX1_addBench 23 = .ok (.getfield 34, 3) := by decide +kernel
theorem dX1_addBench_26 : decode cX1_addBench 26 = .ok (.aload_n 0, 1) := by decide +kernel
theorem dX1_addBench_27 : decode cX1_addBench 27 = .ok (.getfield 56, 3) := by decide +kernel
theorem dX1_addBench_30 : decode cX1_addBench 30 = .ok (.iload_n 2, 1) := by decide +kernel
theorem dX1_addBench_31 : decode cX1_addBench 31 = .ok (.iastore, 1) := by decide +kernel
theorem dX1_addBench_32 : decode cX1_addBench 32 = .ok (.aload_n 0, 1) := by decide +kernel
theorem dX1_addBench_33 : decode cX1_addBench 33 = .ok (.getfield 37, 3) := by decide +kernel
theorem dX1_addBench_36 : decode cX1_addBench 36 = .ok (.aload_n 0, 1) := by decide +kernel
theorem dX1_addBench_37 : decode cX1_addBench 37 = .ok (.getfield 56, 3) := by decide +kernel
theorem dX1_addBench_40 : decode cX1_addBench 40 = .ok (.iload_n 3, 1) := by decide +kernel
theorem dX1_addBench_41 : decode cX1_addBench 41 = .ok (.iastore, 1) := by decide +kernel
theorem dX1_addBench_42 : decode cX1_addBench 42 = .ok (.aload_n 0, 1) := by decide +kernel
theorem dX1_addBench_43 : decode cX1_addBench 43 = .ok (.getfield 40, 3) := by decide +kernel
theorem dX1_addBench_46 : decode cX1_addBench 46 = .ok (.aload_n 0, 1) := by decide +kernel
theorem dX1_addBench_47 : decode cX1_addBench 47 = .ok (.getfield 56, 3) := by decide +kernel
theorem dX1_addBench_50 : decode cX1_addBench 50 = .ok (.iload 4, 2) := by decide +kernel
theorem dX1_addBench_52 : decode cX1_addBench 52 = .ok (.bastore, 1) := by decide +kernel
theorem dX1_addBench_53 : decode cX1_addBench 53 = .ok (.aload_n 0, 1) := by decide +kernel
theorem dX1_addBench_54 : decode cX1_addBench 54 = .ok (.dup, 1) := by decide +kernel
theorem dX1_addBench_55 : decode cX1_addBench 55 = .ok (.getfield 56, 3) := by decide +kernel
theorem dX1_addBench_58 : decode cX1_addBench 58 = .ok (.iconst 1, 1) := by decide +kernel
theorem dX1_addBench_59 : decode cX1_addBench 59 = .ok (.iadd, 1) := by decide +kernel
theorem dX1_addBench_60 : decode cX1_addBench 60 = .ok (.putfield 56, 3) := by decide +kernel
theorem dX1_addBench_63 : decode cX1_addBench 63 = .ok (.aload_n 0, 1) := by decide +kernel
theorem dX1_addBench_64 : decode cX1_addBench 64 = .ok (.aload_n 0, 1) := by decide +kernel
theorem dX1_addBench_65 : decode cX1_addBench 65 = .ok (.getfield 56, 3) := by decide +kernel
theorem dX1_addBench_68 : decode cX1_addBench 68 = .ok (.iconst 1, 1) := by decide +kernel
theorem dX1_addBench_69 : decode cX1_addBench 69 = .ok (.isub, 1) := by decide +kernel
theorem dX1_addBench_70 : decode cX1_addBench 70 = .ok (.invokevirtual 59, 3) := by decide +kernel
theorem dX1_addBench_73 : decode cX1_addBench 73 = .ok (.aload_n 0, 1) := by decide +kernel
theorem dX1_addBench_74 : decode cX1_addBench 74 = .ok (.getfield 56, 3) := by decide +kernel
theorem dX1_addBench_77 : decode cX1_addBench 77 = .ok (.iconst 1, 1) := by decide +kernel
theorem dX1_addBench_78 : decode cX1_addBench 78 = .ok (.isub, 1) := by decide +kernel
theorem dX1_addBench_79 : decode cX1_addBench 79 = .ok (.ireturn, 1) := by decide +kernel
def fX1_addBench (a1 : Int32) (a2 : Int32) (a3 : Int32) (a4 : Int32) (h : Hp) : Option (Int32 × Hp) := br ((gI h 1 0 7) < 8) (gd (ib (gI h 1 0 7) 8) (lb (sI h 26 0 (ix (gI h 1 0 7)) a1) (fun h2 => gd (ib (gI h2 1 0 7) 8) (lb (sI h2 27 0 (ix (gI h2 1 0 7)) a2) (fun h4 => gd (ib (gI h4 1 0 7) 8) (lb (sI h4 28 0 (ix (gI h4 1 0 7)) a3) (fun h6 => gd (ib (gI h6 1 0 7) 8) (lb (sI h6 29 0 (ix (gI h6 1 0 7)) (a4 &&& 1)) (fun h8 => lb (sI h8 1 0 7 ((gI h8 1 0 7) + 1)) (fun h9 => bd (fX1_measureBench ((gI h9 1 0 7) - 1) h9) (fun r10 h11 => some ((gI h11 1 0 7) - 1, h11)))))))))))) (some ((-3), h))
set_option maxRecDepth 20000 in
theorem tX1_addBench {X : Cz} {a1 : Int32} {a2 : Int32} {a3 : Int32} {a4 : Int32} {h hE : Hp} {rE : Int32} (hF : fX1_addBench a1 a2 a3 a4 h = some (rE, hE)) : Ct X mX1_addBench true [zr 1 0, zi a1, zi a2, zi a3, zi a4] h (some (zi rE)) hE := by
  refine Ct_of (by decide) (Nat.le_of_ble_eq_true rfl) (ls := [(0, zr 1 0), (1, zi a1), (2, zi a2), (3, zi a3), (4, zi a4)]) rfl ?_
  unfold fX1_addBench at hF
  refine v_aload_n (j := 0) dX1_addBench_0 rfl ?_
  refine v_getI (c := 1) rfl (Or.inl rfl) cz1 flX1_56 dX1_addBench_1 ?_
  refine v_bipush (v := 8) dX1_addBench_4 (by decide) ?_
  refine v_icmp_lt dX1_addBench_6 (by decide : _ = ((12 : Nat) : Int)) (fun q => ?_) (fun q => ?_)
  · replace hF := brT q hF
    refine v_aload_n (j := 0) dX1_addBench_12 rfl ?_
    refine v_getL (c := 1) rfl rfl rfl ly1_8 cz1 flX1_31 dX1_addBench_13 ?_
    refine v_aload_n (j := 0) dX1_addBench_16 rfl ?_
    refine v_getI (c := 1) rfl (Or.inl rfl) cz1 flX1_56 dX1_addBench_17 ?_
    refine v_iload_n (j := 1) dX1_addBench_20 rfl ?_
    replace hF := gd_use hF
    obtain ⟨q1, hF⟩ := hF
    refine v_iast rfl q1 dX1_addBench_21 ?_
    refine v_toph fun h2 eh2 => ?_
    replace hF := lb_use eh2 hF
    clear eh2
    refine v_aload_n (j := 0) dX1_addBench_22 rfl ?_
    refine v_getL (c := 1) rfl rfl rfl ly1_9 cz1 flX1_34 dX1_addBench_23 ?_
    refine v_aload_n (j := 0) dX1_addBench_26 rfl ?_
    refine v_getI (c := 1) rfl (Or.inl rfl) cz1 flX1_56 dX1_addBench_27 ?_
    refine v_iload_n (j := 2) dX1_addBench_30 rfl ?_
    replace hF := gd_use hF
    obtain ⟨q3, hF⟩ := hF
    refine v_iast rfl q3 dX1_addBench_31 ?_
    refine v_toph fun h4 eh4 => ?_
    replace hF := lb_use eh4 hF
    clear eh4
    refine v_aload_n (j := 0) dX1_addBench_32 rfl ?_
    refine v_getL (c := 1) rfl rfl rfl ly1_10 cz1 flX1_37 dX1_addBench_33 ?_
    refine v_aload_n (j := 0) dX1_addBench_36 rfl ?_
    refine v_getI (c := 1) rfl (Or.inl rfl) cz1 flX1_56 dX1_addBench_37 ?_
    refine v_iload_n (j := 3) dX1_addBench_40 rfl ?_
    replace hF := gd_use hF
    obtain ⟨q5, hF⟩ := hF
    refine v_iast rfl q5 dX1_addBench_41 ?_
    refine v_toph fun h6 eh6 => ?_
    replace hF := lb_use eh6 hF
    clear eh6
    refine v_aload_n (j := 0) dX1_addBench_42 rfl ?_
    refine v_getL (c := 1) rfl rfl rfl ly1_11 cz1 flX1_40 dX1_addBench_43 ?_
    refine v_aload_n (j := 0) dX1_addBench_46 rfl ?_
    refine v_getI (c := 1) rfl (Or.inl rfl) cz1 flX1_56 dX1_addBench_47 ?_
    refine v_iload (j := 4) dX1_addBench_50 rfl ?_
    replace hF := gd_use hF
    obtain ⟨q7, hF⟩ := hF
    refine v_zast rfl q7 dX1_addBench_52 ?_
    refine v_toph fun h8 eh8 => ?_
    replace hF := lb_use eh8 hF
    clear eh8
    refine v_aload_n (j := 0) dX1_addBench_53 rfl ?_
    refine v_dup dX1_addBench_54 rfl ?_
    refine v_getI (c := 1) rfl (Or.inl rfl) cz1 flX1_56 dX1_addBench_55 ?_
    refine v_iconst (v := 1) dX1_addBench_58 (by decide) ?_
    refine v_iadd dX1_addBench_59 ?_
    refine v_putI (c := 1) rfl rfl (Nat.le_of_ble_eq_true rfl) cz1 flX1_56 dX1_addBench_60 ?_
    refine v_toph fun h9 eh9 => ?_
    replace hF := lb_use eh9 hF
    clear eh9
    refine v_aload_n (j := 0) dX1_addBench_63 rfl ?_
    refine v_aload_n (j := 0) dX1_addBench_64 rfl ?_
    refine v_getI (c := 1) rfl (Or.inl rfl) cz1 flX1_56 dX1_addBench_65 ?_
    refine v_iconst (v := 1) dX1_addBench_68 (by decide) ?_
    refine v_isub dX1_addBench_69 ?_
    replace hF := bd_use hF
    obtain ⟨r10, h11, er10, hF⟩ := hF
    refine v_cV (hm := h11) (av := [zi ((gI h9 1 0 7) - 1)]) (st := []) (stn := []) (tX1_measureBench er10) lcX1_measureBench mlX1_59 imX1_measureBench seX1_measureBench rfl rfl rfl rfl ⟨by decide, by decide⟩ (Nat.le_of_ble_eq_true rfl) dX1_addBench_70 rfl rfl ?_
    clear er10
    refine v_aload_n (j := 0) dX1_addBench_73 rfl ?_
    refine v_getI (c := 1) rfl (Or.inl rfl) cz1 flX1_56 dX1_addBench_74 ?_
    refine v_iconst (v := 1) dX1_addBench_77 (by decide) ?_
    refine v_isub dX1_addBench_78 ?_
    obtain ⟨rfl, rfl⟩ := ret_use hF
    exact v_iret rfl dX1_addBench_79
  · replace hF := brF q hF
    refine v_bipush (v := (-3)) dX1_addBench_9 (by decide) ?_
    obtain ⟨rfl, rfl⟩ := ret_use hF
    exact v_iret rfl dX1_addBench_11
theorem dX1_hasUnit_0 : decode cX1_hasUnit 0 = .ok (.iload_n 1, 1) := by decide +kernel
theorem dX1_hasUnit_1 : decode cX1_hasUnit 1 = .ok (.ifCond .lt 29, 3) := by decide +kernel
theorem dX1_hasUnit_4 : decode cX1_hasUnit 4 = .ok (.iload_n 1, 1) := by decide +kernel
theorem dX1_hasUnit_5 : decode cX1_hasUnit 5 = .ok (.aload_n 0, 1) := by decide +kernel
theorem dX1_hasUnit_6 : decode cX1_hasUnit 6 = .ok (.getfield 56, 3) := by decide +kernel
theorem dX1_hasUnit_9 : decode cX1_hasUnit 9 = .ok (.if_icmp .ge 21, 3) := by decide +kernel
theorem dX1_hasUnit_12 : decode cX1_hasUnit 12 = .ok (.iload_n 2, 1) := by decide +kernel
theorem dX1_hasUnit_13 : decode cX1_hasUnit 13 = .ok (.ifCond .lt 17, 3) := by decide +kernel
theorem dX1_hasUnit_16 : decode cX1_hasUnit 16 = .ok (.iload_n 2, 1) := by decide +kernel
theorem dX1_hasUnit_17 : decode cX1_hasUnit 17 = .ok (.aload_n 0, 1) := by decide +kernel
theorem dX1_hasUnit_18 : decode cX1_hasUnit 18 = .ok (.getfield 37, 3) := by decide +kernel
theorem dX1_hasUnit_21 : decode cX1_hasUnit 21 = .ok (.iload_n 1, 1) := by decide +kernel
theorem dX1_hasUnit_22 : decode cX1_hasUnit 22 = .ok (.iaload, 1) := by decide +kernel
theorem dX1_hasUnit_23 : decode cX1_hasUnit 23 = .ok (.if_icmp .ge 7, 3) := by decide +kernel
theorem dX1_hasUnit_26 : decode cX1_hasUnit 26 = .ok (.iconst 1, 1) := by decide +kernel
theorem dX1_hasUnit_27 : decode cX1_hasUnit 27 = .ok (.goto 4, 3) := by decide +kernel
theorem dX1_hasUnit_30 : decode cX1_hasUnit 30 = .ok (.iconst 0, 1) := by decide +kernel
theorem dX1_hasUnit_31 : decode cX1_hasUnit 31 = .ok (.ireturn, 1) := by decide +kernel
def fX1_hasUnit (a1 : Int32) (a2 : Int32) (h : Hp) : Option (Int32 × Hp) := br (a1 < 0) (some (0, h)) (br ((gI h 1 0 7) ≤ a1) (some (0, h)) (br (a2 < 0) (some (0, h)) (gd (ib a1 8) (br ((gI h 28 0 (ix a1)) ≤ a2) (some (0, h)) (some (1, h))))))
set_option maxRecDepth 20000 in
theorem tX1_hasUnit {X : Cz} {a1 : Int32} {a2 : Int32} {h hE : Hp} {rE : Int32} (hF : fX1_hasUnit a1 a2 h = some (rE, hE)) : Ct X mX1_hasUnit true [zr 1 0, zi a1, zi a2] h (some (zi rE)) hE := by
  refine Ct_of (by decide) (Nat.le_of_ble_eq_true rfl) (ls := [(0, zr 1 0), (1, zi a1), (2, zi a2)]) rfl ?_
  unfold fX1_hasUnit at hF
  refine v_iload_n (j := 1) dX1_hasUnit_0 rfl ?_
  refine v_if_lt dX1_hasUnit_1 (by decide : _ = ((30 : Nat) : Int)) (fun q => ?_) (fun q => ?_)
  · replace hF := brT q hF
    refine v_iconst (v := 0) dX1_hasUnit_30 (by decide) ?_
    obtain ⟨rfl, rfl⟩ := ret_use hF
    exact v_zret rfl (Or.inl rfl) dX1_hasUnit_31
  · replace hF := brF q hF
    refine v_iload_n (j := 1) dX1_hasUnit_4 rfl ?_
    refine v_aload_n (j := 0) dX1_hasUnit_5 rfl ?_
    refine v_getI (c := 1) rfl (Or.inl rfl) cz1 flX1_56 dX1_hasUnit_6 ?_
    refine v_icmp_ge dX1_hasUnit_9 (by decide : _ = ((30 : Nat) : Int)) (fun q => ?_) (fun q => ?_)
    · replace hF := brT q hF
      refine v_iconst (v := 0) dX1_hasUnit_30 (by decide) ?_
      obtain ⟨rfl, rfl⟩ := ret_use hF
      exact v_zret rfl (Or.inl rfl) dX1_hasUnit_31
    · replace hF := brF q hF
      refine v_iload_n (j := 2) dX1_hasUnit_12 rfl ?_
      refine v_if_lt dX1_hasUnit_13 (by decide : _ = ((30 : Nat) : Int)) (fun q => ?_) (fun q => ?_)
      · replace hF := brT q hF
        refine v_iconst (v := 0) dX1_hasUnit_30 (by decide) ?_
        obtain ⟨rfl, rfl⟩ := ret_use hF
        exact v_zret rfl (Or.inl rfl) dX1_hasUnit_31
      · replace hF := brF q hF
        refine v_iload_n (j := 2) dX1_hasUnit_16 rfl ?_
        refine v_aload_n (j := 0) dX1_hasUnit_17 rfl ?_
        refine v_getL (c := 1) rfl rfl rfl ly1_10 cz1 flX1_37 dX1_hasUnit_18 ?_
        refine v_iload_n (j := 1) dX1_hasUnit_21 rfl ?_
        replace hF := gd_use hF
        obtain ⟨q1, hF⟩ := hF
        refine v_iald rfl q1 dX1_hasUnit_22 ?_
        refine v_icmp_ge dX1_hasUnit_23 (by decide : _ = ((30 : Nat) : Int)) (fun q => ?_) (fun q => ?_)
        · replace hF := brT q hF
          refine v_iconst (v := 0) dX1_hasUnit_30 (by decide) ?_
          obtain ⟨rfl, rfl⟩ := ret_use hF
          exact v_zret rfl (Or.inl rfl) dX1_hasUnit_31
        · replace hF := brF q hF
          refine v_iconst (v := 1) dX1_hasUnit_26 (by decide) ?_
          refine v_goto (tgt := 31) dX1_hasUnit_27 (by decide) ?_
          obtain ⟨rfl, rfl⟩ := ret_use hF
          exact v_zret rfl (Or.inr rfl) dX1_hasUnit_31
theorem dX1_hasRun_0 : decode cX1_hasRun 0 = .ok (.aload_n 0, 1) := by decide +kernel
theorem dX1_hasRun_1 : decode cX1_hasRun 1 = .ok (.iload_n 1, 1) := by decide +kernel
theorem dX1_hasRun_2 : decode cX1_hasRun 2 = .ok (.iload_n 2, 1) := by decide +kernel
theorem dX1_hasRun_3 : decode cX1_hasRun 3 = .ok (.invokevirtual 63, 3) := by decide +kernel
theorem dX1_hasRun_6 : decode cX1_hasRun 6 = .ok (.ifCond .eq 24, 3) := by decide +kernel
theorem dX1_hasRun_9 : decode cX1_hasRun 9 = .ok (.iload_n 3, 1) := by decide +kernel
theorem dX1_hasRun_10 : decode cX1_hasRun 10 = .ok (.iconst 1, 1) := by decide +kernel
theorem dX1_hasRun_11 : decode cX1_hasRun 11 = .ok (.if_icmp .lt 19, 3) := by decide +kernel
theorem dX1_hasRun_14 : decode cX1_hasRun 14 = .ok (.iload_n 3, 1) := by decide +kernel
theorem dX1_hasRun_15 : decode cX1_hasRun 15 = .ok (.aload_n 0, 1) := by decide +kernel
theorem dX1_hasRun_16 : decode cX1_hasRun 16 = .ok (.getfield 37, 3) := by decide +kernel
theorem dX1_hasRun_19 : decode cX1_hasRun 19 = .ok (.iload_n 1, 1) := by decide +kernel
theorem dX1_hasRun_20 : decode cX1_hasRun 20 = .ok (.iaload, 1) := by decide +kernel
theorem dX1_hasRun_21 : decode cX1_hasRun 21 = .ok (.iload_n 2, 1) := by decide +kernel
theorem dX1_hasRun_22 : decode cX1_hasRun 22 = .ok (.isub, 1) := by decide +kernel
theorem dX1_hasRun_23 : decode cX1_hasRun 23 = .ok (.if_icmp .gt 7, 3) := by decide +kernel
theorem dX1_hasRun_26 : decode cX1_hasRun 26 = .ok (.iconst 1, 1) := by decide +kernel
theorem dX1_hasRun_27 : decode cX1_hasRun 27 = .ok (.goto 4, 3) := by decide +kernel
theorem dX1_hasRun_30 : decode cX1_hasRun 30 = .ok (.iconst 0, 1) := by decide +kernel
theorem dX1_hasRun_31 : decode cX1_hasRun 31 = .ok (.ireturn, 1) := by decide +kernel
def fX1_hasRun (a1 : Int32) (a2 : Int32) (a3 : Int32) (h : Hp) : Option (Int32 × Hp) := bd (fX1_hasUnit a1 a2 h) (fun r1 h2 => br (r1 = 0) (some (0, h2)) (br (a3 < 1) (some (0, h2)) (gd (ib a1 8) (br (((gI h2 28 0 (ix a1)) - a2) < a3) (some (0, h2)) (some (1, h2))))))
set_option maxRecDepth 20000 in
theorem tX1_hasRun {X : Cz} {a1 : Int32} {a2 : Int32} {a3 : Int32} {h hE : Hp} {rE : Int32} (hF : fX1_hasRun a1 a2 a3 h = some (rE, hE)) : Ct X mX1_hasRun true [zr 1 0, zi a1, zi a2, zi a3] h (some (zi rE)) hE := by
  refine Ct_of (by decide) (Nat.le_of_ble_eq_true rfl) (ls := [(0, zr 1 0), (1, zi a1), (2, zi a2), (3, zi a3)]) rfl ?_
  unfold fX1_hasRun at hF
  refine v_aload_n (j := 0) dX1_hasRun_0 rfl ?_
  refine v_iload_n (j := 1) dX1_hasRun_1 rfl ?_
  refine v_iload_n (j := 2) dX1_hasRun_2 rfl ?_
  replace hF := bd_use hF
  obtain ⟨r1, h2, er1, hF⟩ := hF
  refine v_cV (hm := h2) (av := [zi a1, zi a2]) (st := []) (stn := [zi r1]) (tX1_hasUnit er1) lcX1_hasUnit mlX1_63 imX1_hasUnit seX1_hasUnit rfl rfl rfl rfl ⟨by decide, by decide⟩ (Nat.le_of_ble_eq_true rfl) dX1_hasRun_3 rfl rfl ?_
  clear er1
  refine v_if_eq dX1_hasRun_6 (by decide : _ = ((30 : Nat) : Int)) (fun q => ?_) (fun q => ?_)
  · replace hF := brT q hF
    refine v_iconst (v := 0) dX1_hasRun_30 (by decide) ?_
    obtain ⟨rfl, rfl⟩ := ret_use hF
    exact v_zret rfl (Or.inl rfl) dX1_hasRun_31
  · replace hF := brF q hF
    refine v_iload_n (j := 3) dX1_hasRun_9 rfl ?_
    refine v_iconst (v := 1) dX1_hasRun_10 (by decide) ?_
    refine v_icmp_lt dX1_hasRun_11 (by decide : _ = ((30 : Nat) : Int)) (fun q => ?_) (fun q => ?_)
    · replace hF := brT q hF
      refine v_iconst (v := 0) dX1_hasRun_30 (by decide) ?_
      obtain ⟨rfl, rfl⟩ := ret_use hF
      exact v_zret rfl (Or.inl rfl) dX1_hasRun_31
    · replace hF := brF q hF
      refine v_iload_n (j := 3) dX1_hasRun_14 rfl ?_
      refine v_aload_n (j := 0) dX1_hasRun_15 rfl ?_
      refine v_getL (c := 1) rfl rfl rfl ly1_10 cz1 flX1_37 dX1_hasRun_16 ?_
      refine v_iload_n (j := 1) dX1_hasRun_19 rfl ?_
      replace hF := gd_use hF
      obtain ⟨q3, hF⟩ := hF
      refine v_iald rfl q3 dX1_hasRun_20 ?_
      refine v_iload_n (j := 2) dX1_hasRun_21 rfl ?_
      refine v_isub dX1_hasRun_22 ?_
      refine v_icmp_gt dX1_hasRun_23 (by decide : _ = ((30 : Nat) : Int)) (fun q => ?_) (fun q => ?_)
      · replace hF := brT q hF
        refine v_iconst (v := 0) dX1_hasRun_30 (by decide) ?_
        obtain ⟨rfl, rfl⟩ := ret_use hF
        exact v_zret rfl (Or.inl rfl) dX1_hasRun_31
      · replace hF := brF q hF
        refine v_iconst (v := 1) dX1_hasRun_26 (by decide) ?_
        refine v_goto (tgt := 31) dX1_hasRun_27 (by decide) ?_
        obtain ⟨rfl, rfl⟩ := ret_use hF
        exact v_zret rfl (Or.inr rfl) dX1_hasRun_31
theorem dX1_isUnitSpot_0 : decode cX1_isUnitSpot 0 = .ok (.iload_n 1, 1) := by decide +kernel
theorem dX1_isUnitSpot_1 : decode cX1_isUnitSpot 1 = .ok (.ifCond .lt 22, 3) := by decide +kernel
theorem dX1_isUnitSpot_4 : decode cX1_isUnitSpot 4 = .ok (.aload_n 0, 1) := by decide +kernel
theorem dX1_isUnitSpot_5 : decode cX1_isUnitSpot 5 = .ok (.iload_n 1, 1) := by decide +kernel
theorem dX1_isUnitSpot_6 : decode cX1_isUnitSpot 6 = .ok (.bipush 32, 2) := by decide +kernel
theorem dX1_isUnitSpot_8 : decode cX1_isUnitSpot 8 = .ok (.idiv, 1) := by decide +kernel
theorem dX1_isUnitSpot_9 : decode cX1_isUnitSpot 9 = .ok (.iload_n 1, 1) := by decide +kernel
theorem dX1_isUnitSpot_10 : decode cX1_isUnitSpot 10 = .ok (.bipush 32, 2) := by decide +kernel
theorem dX1_isUnitSpot_12 : decode cX1_isUnitSpot 12 = .ok (.irem, 1) := by decide +kernel
theorem dX1_isUnitSpot_13 : decode cX1_isUnitSpot 13 = .ok (.invokevirtual 63, 3) := by decide +kernel
theorem dX1_isUnitSpot_16 : decode cX1_isUnitSpot 16 = .ok (.ifCond .eq 7, 3) := by decide +kernel
theorem dX1_isUnitSpot_19 : decode cX1_isUnitSpot 19 = .ok (.iconst 1, 1) := by decide +kernel
theorem dX1_isUnitSpot_20 : decode cX1_isUnitSpot 20 = .ok (.goto 4, 3) := by decide +kernel
theorem dX1_isUnitSpot_23 : decode cX1_isUnitSpot 23 = .ok (.iconst 0, 1) := by decide +kernel
theorem dX1_isUnitSpot_24 : decode cX1_isUnitSpot 24 = .ok (.ireturn, 1) := by decide +kernel
def fX1_isUnitSpot (a1 : Int32) (h : Hp) : Option (Int32 × Hp) := br (a1 < 0) (some (0, h)) (bd (fX1_hasUnit (a1 / 32) (a1 - a1 / 32 * 32) h) (fun r1 h2 => br (r1 = 0) (some (0, h2)) (some (1, h2))))
set_option maxRecDepth 20000 in
theorem tX1_isUnitSpot {X : Cz} {a1 : Int32} {h hE : Hp} {rE : Int32} (hF : fX1_isUnitSpot a1 h = some (rE, hE)) : Ct X mX1_isUnitSpot true [zr 1 0, zi a1] h (some (zi rE)) hE := by
  refine Ct_of (by decide) (Nat.le_of_ble_eq_true rfl) (ls := [(0, zr 1 0), (1, zi a1)]) rfl ?_
  unfold fX1_isUnitSpot at hF
  refine v_iload_n (j := 1) dX1_isUnitSpot_0 rfl ?_
  refine v_if_lt dX1_isUnitSpot_1 (by decide : _ = ((23 : Nat) : Int)) (fun q => ?_) (fun q => ?_)
  · replace hF := brT q hF
    refine v_iconst (v := 0) dX1_isUnitSpot_23 (by decide) ?_
    obtain ⟨rfl, rfl⟩ := ret_use hF
    exact v_zret rfl (Or.inl rfl) dX1_isUnitSpot_24
  · replace hF := brF q hF
    refine v_aload_n (j := 0) dX1_isUnitSpot_4 rfl ?_
    refine v_iload_n (j := 1) dX1_isUnitSpot_5 rfl ?_
    refine v_bipush (v := 32) dX1_isUnitSpot_6 (by decide) ?_
    refine v_idiv dX1_isUnitSpot_8 (by decide) ?_
    refine v_iload_n (j := 1) dX1_isUnitSpot_9 rfl ?_
    refine v_bipush (v := 32) dX1_isUnitSpot_10 (by decide) ?_
    refine v_irem dX1_isUnitSpot_12 (by decide) ?_
    replace hF := bd_use hF
    obtain ⟨r1, h2, er1, hF⟩ := hF
    refine v_cV (hm := h2) (av := [zi (a1 / 32), zi (a1 - a1 / 32 * 32)]) (st := []) (stn := [zi r1]) (tX1_hasUnit er1) lcX1_hasUnit mlX1_63 imX1_hasUnit seX1_hasUnit rfl rfl rfl rfl ⟨by decide, by decide⟩ (Nat.le_of_ble_eq_true rfl) dX1_isUnitSpot_13 rfl rfl ?_
    clear er1
    refine v_if_eq dX1_isUnitSpot_16 (by decide : _ = ((23 : Nat) : Int)) (fun q => ?_) (fun q => ?_)
    · replace hF := brT q hF
      refine v_iconst (v := 0) dX1_isUnitSpot_23 (by decide) ?_
      obtain ⟨rfl, rfl⟩ := ret_use hF
      exact v_zret rfl (Or.inl rfl) dX1_isUnitSpot_24
    · replace hF := brF q hF
      refine v_iconst (v := 1) dX1_isUnitSpot_19 (by decide) ?_
      refine v_goto (tgt := 24) dX1_isUnitSpot_20 (by decide) ?_
      obtain ⟨rfl, rfl⟩ := ret_use hF
      exact v_zret rfl (Or.inr rfl) dX1_isUnitSpot_24
theorem dX1_spotsEnd_0 : decode cX1_spotsEnd 0 = .ok (.aload_n 0, 1) := by decide +kernel
theorem dX1_spotsEnd_1 : decode cX1_spotsEnd 1 = .ok (.getfield 56, 3) := by decide +kernel
theorem dX1_spotsEnd_4 : decode cX1_spotsEnd 4 = .ok (.bipush 32, 2) := by decide +kernel
theorem dX1_spotsEnd_6 : decode cX1_spotsEnd 6 = .ok (.imul, 1) := by decide +kernel
theorem dX1_spotsEnd_7 : decode cX1_spotsEnd 7 = .ok (.ireturn, 1) := by decide +kernel
def fX1_spotsEnd (h : Hp) : Int32 := (gI h 1 0 7) * 32
set_option maxRecDepth 20000 in
theorem tX1_spotsEnd {X : Cz} (h : Hp) : Ct X mX1_spotsEnd true [zr 1 0] h (some (zi (fX1_spotsEnd h))) h := by
  refine Ct_of (by decide) (Nat.le_of_ble_eq_true rfl) (ls := [(0, zr 1 0)]) rfl ?_
  obtain ⟨rE, hF⟩ : ∃ z, fX1_spotsEnd h = z := ⟨_, rfl⟩
  rw [hF]
  unfold fX1_spotsEnd at hF
  refine v_aload_n (j := 0) dX1_spotsEnd_0 rfl ?_
  refine v_getI (c := 1) rfl (Or.inl rfl) cz1 flX1_56 dX1_spotsEnd_1 ?_
  refine v_bipush (v := 32) dX1_spotsEnd_4 (by decide) ?_
  refine v_imul dX1_spotsEnd_6 ?_
  subst hF
  exact v_iret rfl dX1_spotsEnd_7
theorem dX1_worthOf_0 : decode cX1_worthOf 0 = .ok (.iload_n 1, 1) := by decide +kernel
theorem dX1_worthOf_1 : decode cX1_worthOf 1 = .ok (.ifCond .lt 19, 3) := by decide +kernel
theorem dX1_worthOf_4 : decode cX1_worthOf 4 = .ok (.aload_n 0, 1) := by decide +kernel
theorem dX1_worthOf_5 : decode cX1_worthOf 5 = .ok (.iload_n 1, 1) := by decide +kernel
theorem dX1_worthOf_6 : decode cX1_worthOf 6 = .ok (.bipush 32, 2) := by decide +kernel
theorem dX1_worthOf_8 : decode cX1_worthOf 8 = .ok (.idiv, 1) := by decide +kernel
theorem dX1_worthOf_9 : decode cX1_worthOf 9 = .ok (.iload_n 1, 1) := by decide +kernel
theorem dX1_worthOf_10 : decode cX1_worthOf 10 = .ok (.bipush 32, 2) := by decide +kernel
theorem dX1_worthOf_12 : decode cX1_worthOf 12 = .ok (.irem, 1) := by decide +kernel
theorem dX1_worthOf_13 : decode cX1_worthOf 13 = .ok (.iload_n 2, 1) := by decide +kernel
theorem dX1_worthOf_14 : decode cX1_worthOf 14 = .ok (.invokevirtual 67, 3) := by decide +kernel
theorem dX1_worthOf_17 : decode cX1_worthOf 17 = .ok (.ifCond .ne 5, 3) := by decide +kernel
theorem dX1_worthOf_20 : decode cX1_worthOf 20 = .ok (.iconst (-1), 1) := by decide +kernel
theorem dX1_worthOf_21 : decode cX1_worthOf 21 = .ok (.ireturn, 1) := by decide +kernel
theorem dX1_worthOf_22 : decode cX1_worthOf 22 = .ok (.iconst 0, 1) := by decide +kernel
theorem dX1_worthOf_23 : decode cX1_worthOf 23 = .ok (.istore 4, 2) := by decide +kernel
theorem dX1_worthOf_25 : decode cX1_worthOf 25 = .ok (.iconst 0, 1) := by decide +kernel
theorem dX1_worthOf_26 : decode cX1_worthOf 26 = .ok (.istore 5, 2) := by decide +kernel
theorem dX1_worthOf_28 : decode cX1_worthOf 28 = .ok (.iload_n 1, 1) := by decide +kernel
theorem dX1_worthOf_29 : decode cX1_worthOf 29 = .ok (.istore 6, 2) := by decide +kernel
theorem dX1_worthOf_31 : decode cX1_worthOf 31 = .ok (.iload 6, 2) := by decide +kernel
theorem dX1_worthOf_33 : decode cX1_worthOf 33 = .ok (.iload_n 1, 1) := by decide +kernel
theorem dX1_worthOf_34 : decode cX1_worthOf 34 = .ok (.iload_n 2, 1) := by decide +kernel
theorem dX1_worthOf_35 : decode cX1_worthOf 35 = .ok (.iadd, 1) := by decide +kernel
theorem dX1_worthOf_36 : decode cX1_worthOf 36 = .ok (.if_icmp .ge 51, 3) := by decide +kernel
theorem dX1_worthOf_39 : decode cX1_worthOf 39 = .ok (.iload 4, 2) := by decide +kernel
theorem dX1_worthOf_41 : decode cX1_worthOf 41 = .ok (.aload_n 0, 1) := by decide +kernel
theorem dX1_worthOf_42 : decode cX1_worthOf 42 = .ok (.getfield 44, 3) := by decide +kernel
theorem dX1_worthOf_45 : decode cX1_worthOf 45 = .ok (.iload 6, 2) := by decide +kernel
theorem dX1_worthOf_47 : decode cX1_worthOf 47 = .ok (.iaload, 1) := by decide +kernel
theorem dX1_worthOf_48 : decode cX1_worthOf 48 = .ok (.aload_n 0, 1) := by decide +kernel
theorem dX1_worthOf_49 : decode cX1_worthOf 49 = .ok (.getfield 47, 3) := by decide +kernel
theorem dX1_worthOf_52 : decode cX1_worthOf 52 = .ok (.iload 6, 2) := by decide +kernel
theorem dX1_worthOf_54 : decode cX1_worthOf 54 = .ok (.iaload, 1) := by decide +kernel
theorem dX1_worthOf_55 : decode cX1_worthOf 55 = .ok (.ifCond .ne 7, 3) := by decide +kernel
theorem dX1_worthOf_58 : decode cX1_worthOf 58 = .ok (.iconst 1, 1) := by decide +kernel
theorem dX1_worthOf_59 : decode cX1_worthOf 59 = .ok (.goto 4, 3) := by decide +kernel
theorem dX1_worthOf_62 : decode cX1_worthOf 62 = .ok (.iconst 0, 1) := by decide +kernel
theorem dX1_worthOf_63 : decode cX1_worthOf 63 = .ok (.iadd, 1) := by decide +kernel
theorem dX1_worthOf_64 : decode cX1_worthOf 64 = .ok (.iadd, 1) := by decide +kernel
theorem dX1_worthOf_65 : decode cX1_worthOf 65 = .ok (.istore 4, 2) := by decide +kernel
theorem dX1_worthOf_67 : decode cX1_worthOf 67 = .ok (.iload 5, 2) := by decide +kernel
theorem dX1_worthOf_69 : decode cX1_worthOf 69 = .ok (.aload_n 0, 1) := by decide +kernel
theorem dX1_worthOf_70 : decode cX1_worthOf 70 = .ok (.getfield 44, 3) := by decide +kernel
theorem dX1_worthOf_73 : decode cX1_worthOf 73 = .ok (.iload 6, 2) := by decide +kernel
theorem dX1_worthOf_75 : decode cX1_worthOf 75 = .ok (.iaload, 1) := by decide +kernel
theorem dX1_worthOf_76 : decode cX1_worthOf 76 = .ok (.invokestatic 71, 3) := by decide +kernel
theorem dX1_worthOf_79 : decode cX1_worthOf 79 = .ok (.istore 5, 2) := by decide +kernel
theorem dX1_worthOf_81 : decode cX1_worthOf 81 = .ok (.iinc 6 1, 3) := by decide +kernel
theorem dX1_worthOf_84 : decode cX1_worthOf 84 = .ok (.goto (-53), 3) := by decide +kernel
theorem dX1_worthOf_87 : decode cX1_worthOf 87 = .ok (.iload 4, 2) := by decide +kernel
theorem dX1_worthOf_89 : decode cX1_worthOf 89 = .ok (.iload_n 3, 1) := by decide +kernel
theorem dX1_worthOf_90 : decode cX1_worthOf 90 = .ok (.iload 5, 2) := by decide +kernel
theorem dX1_worthOf_92 : decode cX1_worthOf 92 = .ok (.imul, 1) := by decide +kernel
theorem dX1_worthOf_93 : decode cX1_worthOf 93 = .ok (.iadd, 1) := by decide +kernel
theorem dX1_worthOf_94 : decode cX1_worthOf 94 = .ok (.ireturn, 1) := by decide +kernel
def fX1_worthOf_L31 : Nat → Int32 → Int32 → Int32 → Int32 → Int32 → Int32 → Hp → Option ((Int32 × Int32 × Int32) × Hp)
  | 0, _, _, _, _, _, _, _ => none
  | n + 1, a1, a2, a3, a4, a5, a6, h => br ((a1 + a2) ≤ a6) (some ((a4, a5, a6), h)) (gd (ib a6 256) (gd (ib a6 256) (lb (fun (x6 : Int32) (x7 : Int32) (x8 : Int32) (h9 : Hp) => lb (x6 + (x7 + x8)) (fun v10 => gd (ib a6 256) (lb (mxI a5 (gI h9 30 0 (ix a6))) (fun v12 => lb (a6 + 1) (fun v13 => fX1_worthOf_L31 n a1 a2 a3 v10 v12 v13 h9))))) (fun j5 => br ((gI h 31 0 (ix a6)) = 0) (j5 a4 (gI h 30 0 (ix a6)) 1 h) (j5 a4 (gI h 30 0 (ix a6)) 0 h)))))
def fX1_worthOf (a1 : Int32) (a2 : Int32) (a3 : Int32) (h : Hp) : Option (Int32 × Hp) := br (a1 < 0) (some ((-1), h)) (bd (fX1_hasRun (a1 / 32) (a1 - a1 / 32 * 32) a2 h) (fun r1 h2 => br (r1 = 0) (some ((-1), h2)) (bd (fX1_worthOf_L31 FU a1 a2 a3 0 0 a1 h2) (fun t15 h14 => lb t15.1 (fun v16 => lb t15.2.1 (fun v17 => lb t15.2.2 (fun v18 => some (v16 + (a3 * v17), h14))))))))
set_option maxRecDepth 20000 in
theorem tX1_worthOf_L31 {X : Cz} {h0 : Hp} {r : Option AV} {hE : Hp} : ∀ (n : Nat) (a1 : Int32) (a2 : Int32) (a3 : Int32) (a4 : Int32) (a5 : Int32) (a6 : Int32) (h : Hp) (z : (Int32 × Int32 × Int32) × Hp), fX1_worthOf_L31 n a1 a2 a3 a4 a5 a6 h = some z → V X mX1_worthOf true h0 87 [(0, zr 1 0), (1, zi a1), (2, zi a2), (3, zi a3), (4, zi z.1.1), (5, zi z.1.2.1), (6, zi z.1.2.2)] [] z.2 r hE → V X mX1_worthOf true h0 31 [(0, zr 1 0), (1, zi a1), (2, zi a2), (3, zi a3), (4, zi a4), (5, zi a5), (6, zi a6)] [] h r hE := by
  intro n
  induction n with
  | zero => intro a1 a2 a3 a4 a5 a6 h z hF k; cases hF
  | succ n ih =>
    intro a1 a2 a3 a4 a5 a6 h z hF k
    rw [fX1_worthOf_L31] at hF
    refine v_iload (j := 6) dX1_worthOf_31 rfl ?_
    refine v_iload_n (j := 1) dX1_worthOf_33 rfl ?_
    refine v_iload_n (j := 2) dX1_worthOf_34 rfl ?_
    refine v_iadd dX1_worthOf_35 ?_
    refine v_icmp_ge dX1_worthOf_36 (by decide : _ = ((87 : Nat) : Int)) (fun q => ?_) (fun q => ?_)
    · replace hF := brT q hF
      cases hF
      exact k
    · replace hF := brF q hF
      refine v_iload (j := 4) dX1_worthOf_39 rfl ?_
      refine v_aload_n (j := 0) dX1_worthOf_41 rfl ?_
      refine v_getL (c := 1) rfl rfl rfl ly1_12 cz1 flX1_44 dX1_worthOf_42 ?_
      refine v_iload (j := 6) dX1_worthOf_45 rfl ?_
      replace hF := gd_use hF
      obtain ⟨q3, hF⟩ := hF
      refine v_iald rfl q3 dX1_worthOf_47 ?_
      refine v_aload_n (j := 0) dX1_worthOf_48 rfl ?_
      refine v_getL (c := 1) rfl rfl rfl ly1_13 cz1 flX1_47 dX1_worthOf_49 ?_
      refine v_iload (j := 6) dX1_worthOf_52 rfl ?_
      replace hF := gd_use hF
      obtain ⟨q4, hF⟩ := hF
      refine v_iald rfl q4 dX1_worthOf_54 ?_
      replace hF := lb_ex hF
      obtain ⟨j5, ej5, hF⟩ := hF
      have j5V : ∀ (x6 : Int32) (x7 : Int32) (x8 : Int32) (h9 : Hp), j5 x6 x7 x8 h9 = some z → V X mX1_worthOf true h0 63 [(0, zr 1 0), (1, zi a1), (2, zi a2), (3, zi a3), (5, zi a5), (6, zi a6)] [zi x8, zi x7, zi x6] h9 r hE := by
        intro x6 x7 x8 h9 hF
        subst ej5
        refine v_iadd dX1_worthOf_63 ?_
        refine v_iadd dX1_worthOf_64 ?_
        refine v_topi fun v10 ev10 => ?_
        replace hF := lb_use ev10 hF
        clear ev10
        refine v_istore (ls' := [(4, zi v10), (0, zr 1 0), (1, zi a1), (2, zi a2), (3, zi a3), (5, zi a5), (6, zi a6)]) dX1_worthOf_65 (by decide) rfl ?_
        refine v_iload (j := 5) dX1_worthOf_67 rfl ?_
        refine v_aload_n (j := 1) dX1_worthOf_69 rfl ?_
        refine v_getL (c := 1) rfl rfl rfl ly1_12 cz1 flX1_44 dX1_worthOf_70 ?_
        refine v_iload (j := 6) dX1_worthOf_73 rfl ?_
        replace hF := gd_use hF
        obtain ⟨q11, hF⟩ := hF
        refine v_iald rfl q11 dX1_worthOf_75 ?_
        refine v_J9_max_7cf53 mlX1_71 (by decide) (Nat.le_of_ble_eq_true rfl) dX1_worthOf_76 ?_
        refine v_topi fun v12 ev12 => ?_
        replace hF := lb_use ev12 hF
        clear ev12
        refine v_istore (ls' := [(5, zi v12), (4, zi v10), (0, zr 1 0), (1, zi a1), (2, zi a2), (3, zi a3), (6, zi a6)]) dX1_worthOf_79 (by decide) rfl ?_
        obtain ⟨v13, ev13⟩ : ∃ y : Int32, y = a6 + 1 := ⟨_, rfl⟩
        replace hF := lb_use ev13 hF
        refine v_iinc (j := 6) (v := v13) (ls' := [(6, zi v13), (5, zi v12), (4, zi v10), (0, zr 1 0), (1, zi a1), (2, zi a2), (3, zi a3)]) dX1_worthOf_81 rfl (by rw [ev13]; rfl) (by decide) rfl ?_
        clear ev13
        refine v_goto (tgt := 31) dX1_worthOf_84 (by decide) ?_
        refine v_sub [3, 4, 5, 6, 2, 1, 0] rfl ?_
        exact ih a1 a2 a3 v10 v12 v13 h9 _ hF k
      clear ej5
      refine v_if_ne dX1_worthOf_55 (by decide : _ = ((62 : Nat) : Int)) (fun q => ?_) (fun q => ?_)
      · replace hF := brF q hF
        refine v_iconst (v := 0) dX1_worthOf_62 (by decide) ?_
        refine v_sub [0, 1, 2, 3, 5, 6] rfl ?_
        exact j5V a4 (gI h 30 0 (ix a6)) 0 h hF
      · replace hF := brT (Decidable.not_not.mp q) hF
        refine v_iconst (v := 1) dX1_worthOf_58 (by decide) ?_
        refine v_goto (tgt := 63) dX1_worthOf_59 (by decide) ?_
        refine v_sub [0, 1, 2, 3, 5, 6] rfl ?_
        exact j5V a4 (gI h 30 0 (ix a6)) 1 h hF
set_option maxRecDepth 20000 in
theorem tX1_worthOf {X : Cz} {a1 : Int32} {a2 : Int32} {a3 : Int32} {h hE : Hp} {rE : Int32} (hF : fX1_worthOf a1 a2 a3 h = some (rE, hE)) : Ct X mX1_worthOf true [zr 1 0, zi a1, zi a2, zi a3] h (some (zi rE)) hE := by
  refine Ct_of (by decide) (Nat.le_of_ble_eq_true rfl) (ls := [(0, zr 1 0), (1, zi a1), (2, zi a2), (3, zi a3)]) rfl ?_
  unfold fX1_worthOf at hF
  refine v_iload_n (j := 1) dX1_worthOf_0 rfl ?_
  refine v_if_lt dX1_worthOf_1 (by decide : _ = ((20 : Nat) : Int)) (fun q => ?_) (fun q => ?_)
  · replace hF := brT q hF
    refine v_iconst (v := (-1)) dX1_worthOf_20 (by decide) ?_
    obtain ⟨rfl, rfl⟩ := ret_use hF
    exact v_iret rfl dX1_worthOf_21
  · replace hF := brF q hF
    refine v_aload_n (j := 0) dX1_worthOf_4 rfl ?_
    refine v_iload_n (j := 1) dX1_worthOf_5 rfl ?_
    refine v_bipush (v := 32) dX1_worthOf_6 (by decide) ?_
    refine v_idiv dX1_worthOf_8 (by decide) ?_
    refine v_iload_n (j := 1) dX1_worthOf_9 rfl ?_
    refine v_bipush (v := 32) dX1_worthOf_10 (by decide) ?_
    refine v_irem dX1_worthOf_12 (by decide) ?_
    refine v_iload_n (j := 2) dX1_worthOf_13 rfl ?_
    replace hF := bd_use hF
    obtain ⟨r1, h2, er1, hF⟩ := hF
    refine v_cV (hm := h2) (av := [zi (a1 / 32), zi (a1 - a1 / 32 * 32), zi a2]) (st := []) (stn := [zi r1]) (tX1_hasRun er1) lcX1_hasRun mlX1_67 imX1_hasRun seX1_hasRun rfl rfl rfl rfl ⟨by decide, by decide⟩ (Nat.le_of_ble_eq_true rfl) dX1_worthOf_14 rfl rfl ?_
    clear er1
    refine v_if_ne dX1_worthOf_17 (by decide : _ = ((22 : Nat) : Int)) (fun q => ?_) (fun q => ?_)
    · replace hF := brF q hF
      refine v_iconst (v := 0) dX1_worthOf_22 (by decide) ?_
      refine v_istore (ls' := [(4, zi 0), (0, zr 1 0), (1, zi a1), (2, zi a2), (3, zi a3)]) dX1_worthOf_23 (by decide) rfl ?_
      refine v_iconst (v := 0) dX1_worthOf_25 (by decide) ?_
      refine v_istore (ls' := [(5, zi 0), (4, zi 0), (0, zr 1 0), (1, zi a1), (2, zi a2), (3, zi a3)]) dX1_worthOf_26 (by decide) rfl ?_
      refine v_iload_n (j := 3) dX1_worthOf_28 rfl ?_
      refine v_istore (ls' := [(6, zi a1), (5, zi 0), (4, zi 0), (0, zr 1 0), (1, zi a1), (2, zi a2), (3, zi a3)]) dX1_worthOf_29 (by decide) rfl ?_
      refine v_sub [3, 4, 5, 6, 2, 1, 0] rfl ?_
      replace hF := bd_use hF
      obtain ⟨t15, h14, et15, hF⟩ := hF
      refine tX1_worthOf_L31 _ a1 a2 a3 0 0 a1 h2 _ et15 ?_
      clear et15
      obtain ⟨v16, v17, v18⟩ := t15
      replace hF := lb_use (x := v16) rfl hF
      replace hF := lb_use (x := v17) rfl hF
      replace hF := lb_use (x := v18) rfl hF
      refine v_iload (j := 4) dX1_worthOf_87 rfl ?_
      refine v_iload_n (j := 3) dX1_worthOf_89 rfl ?_
      refine v_iload (j := 5) dX1_worthOf_90 rfl ?_
      refine v_imul dX1_worthOf_92 ?_
      refine v_iadd dX1_worthOf_93 ?_
      obtain ⟨rfl, rfl⟩ := ret_use hF
      exact v_iret rfl dX1_worthOf_94
    · replace hF := brT (Decidable.not_not.mp q) hF
      refine v_iconst (v := (-1)) dX1_worthOf_20 (by decide) ?_
      obtain ⟨rfl, rfl⟩ := ret_use hF
      exact v_iret rfl dX1_worthOf_21
