/-! functions and ties, printed by program (wip/gen/dec.py) -/
theorem dX0_init_0 : decode cX0_init 0 = .ok (.aload_n 0, 1) := by decide +kernel
theorem dX0_init_1 : decode cX0_init 1 = .ok (.invokespecial 3, 3) := by decide +kernel
theorem dX0_init_4 : decode cX0_init 4 = .ok (.aload_n 0, 1) := by decide +kernel
theorem dX0_init_5 : decode cX0_init 5 = .ok (.bipush 8, 2) := by decide +kernel
theorem dX0_init_7 : decode cX0_init 7 = .ok (.newarray .int, 2) := by decide +kernel
theorem dX0_init_9 : decode cX0_init 9 = .ok (.putfield 9, 3) := by decide +kernel
theorem dX0_init_12 : decode cX0_init 12 = .ok (.aload_n 0, 1) := by decide +kernel
theorem dX0_init_13 : decode cX0_init 13 = .ok (.bipush 8, 2) := by decide +kernel
theorem dX0_init_15 : decode cX0_init 15 = .ok (.newarray .int, 2) := by decide +kernel
theorem dX0_init_17 : decode cX0_init 17 = .ok (.putfield 15, 3) := by decide +kernel
theorem dX0_init_20 : decode cX0_init 20 = .ok (.aload_n 0, 1) := by decide +kernel
theorem dX0_init_21 : decode cX0_init 21 = .ok (.bipush 8, 2) := by decide +kernel
theorem dX0_init_23 : decode cX0_init 23 = .ok (.newarray .int, 2) := by decide +kernel
theorem dX0_init_25 : decode cX0_init 25 = .ok (.putfield 18, 3) := by decide +kernel
theorem dX0_init_28 : decode cX0_init 28 = .ok (.aload_n 0, 1) := by decide +kernel
theorem dX0_init_29 : decode cX0_init 29 = .ok (.bipush 8, 2) := by decide +kernel
theorem dX0_init_31 : decode cX0_init 31 = .ok (.newarray .int, 2) := by decide +kernel
theorem dX0_init_33 : decode cX0_init 33 = .ok (.putfield 21, 3) := by decide +kernel
theorem dX0_init_36 : decode cX0_init 36 = .ok (.aload_n 0, 1) := by decide +kernel
theorem dX0_init_37 : decode cX0_init 37 = .ok (.bipush 96, 2) := by decide +kernel
theorem dX0_init_39 : decode cX0_init 39 = .ok (.newarray .int, 2) := by decide +kernel
theorem dX0_init_41 : decode cX0_init 41 = .ok (.putfield 24, 3) := by decide +kernel
theorem dX0_init_44 : decode cX0_init 44 = .ok (.aload_n 0, 1) := by decide +kernel
theorem dX0_init_45 : decode cX0_init 45 = .ok (.sipush 3328, 3) := by decide +kernel
theorem dX0_init_48 : decode cX0_init 48 = .ok (.newarray .int, 2) := by decide +kernel
theorem dX0_init_50 : decode cX0_init 50 = .ok (.putfield 27, 3) := by decide +kernel
theorem dX0_init_53 : decode cX0_init 53 = .ok (.aload_n 0, 1) := by decide +kernel
theorem dX0_init_54 : decode cX0_init 54 = .ok (.sipush 256, 3) := by decide +kernel
theorem dX0_init_57 : decode cX0_init 57 = .ok (.newarray .int, 2) := by decide +kernel
theorem dX0_init_59 : decode cX0_init 59 = .ok (.putfield 30, 3) := by decide +kernel
theorem dX0_init_62 : decode cX0_init 62 = .ok (.aload_n 0, 1) := by decide +kernel
theorem dX0_init_63 : decode cX0_init 63 = .ok (.bipush 12, 2) := by decide +kernel
theorem dX0_init_65 : decode cX0_init 65 = .ok (.newarray .int, 2) := by decide +kernel
theorem dX0_init_67 : decode cX0_init 67 = .ok (.putfield 33, 3) := by decide +kernel
theorem dX0_init_70 : decode cX0_init 70 = .ok (.aload_n 0, 1) := by decide +kernel
theorem dX0_init_71 : decode cX0_init 71 = .ok (.bipush 12, 2) := by decide +kernel
theorem dX0_init_73 : decode cX0_init 73 = .ok (.newarray .int, 2) := by decide +kernel
theorem dX0_init_75 : decode cX0_init 75 = .ok (.putfield 36, 3) := by decide +kernel
theorem dX0_init_78 : decode cX0_init 78 = .ok (.aload_n 0, 1) := by decide +kernel
theorem dX0_init_79 : decode cX0_init 79 = .ok (.bipush 12, 2) := by decide +kernel
theorem dX0_init_81 : decode cX0_init 81 = .ok (.newarray .int, 2) := by decide +kernel
theorem dX0_init_83 : decode cX0_init 83 = .ok (.putfield 39, 3) := by decide +kernel
theorem dX0_init_86 : decode cX0_init 86 = .ok (.return_, 1) := by decide +kernel
def fX0_init (a0 : Nat) (h : Hp) : Option (Unit × Hp) := lb (gN h 13) (fun z1 => lb (nw h 13 8) (fun h2 => lb (sR h2 0 a0 1 (some z1)) (fun h3 => lb (gN h3 14) (fun z4 => lb (nw h3 14 8) (fun h5 => lb (sR h5 0 a0 2 (some z4)) (fun h6 => lb (gN h6 15) (fun z7 => lb (nw h6 15 8) (fun h8 => lb (sR h8 0 a0 3 (some z7)) (fun h9 => lb (gN h9 16) (fun z10 => lb (nw h9 16 8) (fun h11 => lb (sR h11 0 a0 4 (some z10)) (fun h12 => lb (gN h12 17) (fun z13 => lb (nw h12 17 96) (fun h14 => lb (sR h14 0 a0 5 (some z13)) (fun h15 => lb (gN h15 18) (fun z16 => lb (nw h15 18 3328) (fun h17 => lb (sR h17 0 a0 6 (some z16)) (fun h18 => lb (gN h18 19) (fun z19 => lb (nw h18 19 256) (fun h20 => lb (sR h20 0 a0 7 (some z19)) (fun h21 => lb (gN h21 20) (fun z22 => lb (nw h21 20 12) (fun h23 => lb (sR h23 0 a0 8 (some z22)) (fun h24 => lb (gN h24 21) (fun z25 => lb (nw h24 21 12) (fun h26 => lb (sR h26 0 a0 10 (some z25)) (fun h27 => lb (gN h27 22) (fun z28 => lb (nw h27 22 12) (fun h29 => lb (sR h29 0 a0 11 (some z28)) (fun h30 => some ((), h30)))))))))))))))))))))))))))))))
set_option maxRecDepth 20000 in
theorem tX0_init {X : Cz} {a0 : Nat} {h hE : Hp} {rE : Unit} (hF : fX0_init a0 h = some (rE, hE)) : Ct X mX0_init false [zr 0 a0] h (none) hE := by
  refine Ct_of (by decide) (Nat.le_of_ble_eq_true rfl) (ls := [(0, zr 0 a0)]) rfl ?_
  unfold fX0_init at hF
  refine v_aload_n (j := 0) dX0_init_0 rfl ?_
  refine v_objI mlX0_3 oiI oiC (by decide) (Nat.le_of_ble_eq_true rfl) dX0_init_1 ?_
  refine v_aload_n (j := 0) dX0_init_4 rfl ?_
  refine v_bipush (v := 8) dX0_init_5 (by decide) ?_
  refine v_newa (k := 13) (idx := 0) (at0 := .int) rfl (by decide) rfl ac_int (by decide) (by decide) (by decide) (Or.inl rfl) dX0_init_7 ?_
  refine v_topr fun z1 ez1 => ?_
  replace hF := lb_use ez1 hF
  clear ez1
  refine v_toph fun h2 eh2 => ?_
  replace hF := lb_use eh2 hF
  clear eh2
  refine v_putFR (o := some z1) (c := 0) (k2 := 13) rfl rfl (Nat.le_of_ble_eq_true rfl) rfl (Or.inl rfl) cz0 flX0_9 rfl (fun q hq => by cases hq; rfl) dX0_init_9 ?_
  refine v_toph fun h3 eh3 => ?_
  replace hF := lb_use eh3 hF
  clear eh3
  refine v_aload_n (j := 0) dX0_init_12 rfl ?_
  refine v_bipush (v := 8) dX0_init_13 (by decide) ?_
  refine v_newa (k := 14) (idx := 0) (at0 := .int) rfl (by decide) rfl ac_int (by decide) (by decide) (by decide) (Or.inl rfl) dX0_init_15 ?_
  refine v_topr fun z4 ez4 => ?_
  replace hF := lb_use ez4 hF
  clear ez4
  refine v_toph fun h5 eh5 => ?_
  replace hF := lb_use eh5 hF
  clear eh5
  refine v_putFR (o := some z4) (c := 0) (k2 := 14) rfl rfl (Nat.le_of_ble_eq_true rfl) rfl (Or.inl rfl) cz0 flX0_15 rfl (fun q hq => by cases hq; rfl) dX0_init_17 ?_
  refine v_toph fun h6 eh6 => ?_
  replace hF := lb_use eh6 hF
  clear eh6
  refine v_aload_n (j := 0) dX0_init_20 rfl ?_
  refine v_bipush (v := 8) dX0_init_21 (by decide) ?_
  refine v_newa (k := 15) (idx := 0) (at0 := .int) rfl (by decide) rfl ac_int (by decide) (by decide) (by decide) (Or.inl rfl) dX0_init_23 ?_
  refine v_topr fun z7 ez7 => ?_
  replace hF := lb_use ez7 hF
  clear ez7
  refine v_toph fun h8 eh8 => ?_
  replace hF := lb_use eh8 hF
  clear eh8
  refine v_putFR (o := some z7) (c := 0) (k2 := 15) rfl rfl (Nat.le_of_ble_eq_true rfl) rfl (Or.inl rfl) cz0 flX0_18 rfl (fun q hq => by cases hq; rfl) dX0_init_25 ?_
  refine v_toph fun h9 eh9 => ?_
  replace hF := lb_use eh9 hF
  clear eh9
  refine v_aload_n (j := 0) dX0_init_28 rfl ?_
  refine v_bipush (v := 8) dX0_init_29 (by decide) ?_
  refine v_newa (k := 16) (idx := 0) (at0 := .int) rfl (by decide) rfl ac_int (by decide) (by decide) (by decide) (Or.inl rfl) dX0_init_31 ?_
  refine v_topr fun z10 ez10 => ?_
  replace hF := lb_use ez10 hF
  clear ez10
  refine v_toph fun h11 eh11 => ?_
  replace hF := lb_use eh11 hF
  clear eh11
  refine v_putFR (o := some z10) (c := 0) (k2 := 16) rfl rfl (Nat.le_of_ble_eq_true rfl) rfl (Or.inl rfl) cz0 flX0_21 rfl (fun q hq => by cases hq; rfl) dX0_init_33 ?_
  refine v_toph fun h12 eh12 => ?_
  replace hF := lb_use eh12 hF
  clear eh12
  refine v_aload_n (j := 0) dX0_init_36 rfl ?_
  refine v_bipush (v := 96) dX0_init_37 (by decide) ?_
  refine v_newa (k := 17) (idx := 0) (at0 := .int) rfl (by decide) rfl ac_int (by decide) (by decide) (by decide) (Or.inl rfl) dX0_init_39 ?_
  refine v_topr fun z13 ez13 => ?_
  replace hF := lb_use ez13 hF
  clear ez13
  refine v_toph fun h14 eh14 => ?_
  replace hF := lb_use eh14 hF
  clear eh14
  refine v_putFR (o := some z13) (c := 0) (k2 := 17) rfl rfl (Nat.le_of_ble_eq_true rfl) rfl (Or.inl rfl) cz0 flX0_24 rfl (fun q hq => by cases hq; rfl) dX0_init_41 ?_
  refine v_toph fun h15 eh15 => ?_
  replace hF := lb_use eh15 hF
  clear eh15
  refine v_aload_n (j := 0) dX0_init_44 rfl ?_
  refine v_sipush (v := 3328) dX0_init_45 (by decide) ?_
  refine v_newa (k := 18) (idx := 0) (at0 := .int) rfl (by decide) rfl ac_int (by decide) (by decide) (by decide) (Or.inl rfl) dX0_init_48 ?_
  refine v_topr fun z16 ez16 => ?_
  replace hF := lb_use ez16 hF
  clear ez16
  refine v_toph fun h17 eh17 => ?_
  replace hF := lb_use eh17 hF
  clear eh17
  refine v_putFR (o := some z16) (c := 0) (k2 := 18) rfl rfl (Nat.le_of_ble_eq_true rfl) rfl (Or.inl rfl) cz0 flX0_27 rfl (fun q hq => by cases hq; rfl) dX0_init_50 ?_
  refine v_toph fun h18 eh18 => ?_
  replace hF := lb_use eh18 hF
  clear eh18
  refine v_aload_n (j := 0) dX0_init_53 rfl ?_
  refine v_sipush (v := 256) dX0_init_54 (by decide) ?_
  refine v_newa (k := 19) (idx := 0) (at0 := .int) rfl (by decide) rfl ac_int (by decide) (by decide) (by decide) (Or.inl rfl) dX0_init_57 ?_
  refine v_topr fun z19 ez19 => ?_
  replace hF := lb_use ez19 hF
  clear ez19
  refine v_toph fun h20 eh20 => ?_
  replace hF := lb_use eh20 hF
  clear eh20
  refine v_putFR (o := some z19) (c := 0) (k2 := 19) rfl rfl (Nat.le_of_ble_eq_true rfl) rfl (Or.inl rfl) cz0 flX0_30 rfl (fun q hq => by cases hq; rfl) dX0_init_59 ?_
  refine v_toph fun h21 eh21 => ?_
  replace hF := lb_use eh21 hF
  clear eh21
  refine v_aload_n (j := 0) dX0_init_62 rfl ?_
  refine v_bipush (v := 12) dX0_init_63 (by decide) ?_
  refine v_newa (k := 20) (idx := 0) (at0 := .int) rfl (by decide) rfl ac_int (by decide) (by decide) (by decide) (Or.inl rfl) dX0_init_65 ?_
  refine v_topr fun z22 ez22 => ?_
  replace hF := lb_use ez22 hF
  clear ez22
  refine v_toph fun h23 eh23 => ?_
  replace hF := lb_use eh23 hF
  clear eh23
  refine v_putFR (o := some z22) (c := 0) (k2 := 20) rfl rfl (Nat.le_of_ble_eq_true rfl) rfl (Or.inl rfl) cz0 flX0_33 rfl (fun q hq => by cases hq; rfl) dX0_init_67 ?_
  refine v_toph fun h24 eh24 => ?_
  replace hF := lb_use eh24 hF
  clear eh24
  refine v_aload_n (j := 0) dX0_init_70 rfl ?_
  refine v_bipush (v := 12) dX0_init_71 (by decide) ?_
  refine v_newa (k := 21) (idx := 0) (at0 := .int) rfl (by decide) rfl ac_int (by decide) (by decide) (by decide) (Or.inl rfl) dX0_init_73 ?_
  refine v_topr fun z25 ez25 => ?_
  replace hF := lb_use ez25 hF
  clear ez25
  refine v_toph fun h26 eh26 => ?_
  replace hF := lb_use eh26 hF
  clear eh26
  refine v_putFR (o := some z25) (c := 0) (k2 := 21) rfl rfl (Nat.le_of_ble_eq_true rfl) rfl (Or.inl rfl) cz0 flX0_36 rfl (fun q hq => by cases hq; rfl) dX0_init_75 ?_
  refine v_toph fun h27 eh27 => ?_
  replace hF := lb_use eh27 hF
  clear eh27
  refine v_aload_n (j := 0) dX0_init_78 rfl ?_
  refine v_bipush (v := 12) dX0_init_79 (by decide) ?_
  refine v_newa (k := 22) (idx := 0) (at0 := .int) rfl (by decide) rfl ac_int (by decide) (by decide) (by decide) (Or.inl rfl) dX0_init_81 ?_
  refine v_topr fun z28 ez28 => ?_
  replace hF := lb_use ez28 hF
  clear ez28
  refine v_toph fun h29 eh29 => ?_
  replace hF := lb_use eh29 hF
  clear eh29
  refine v_putFR (o := some z28) (c := 0) (k2 := 22) rfl rfl (Nat.le_of_ble_eq_true rfl) rfl (Or.inl rfl) cz0 flX0_39 rfl (fun q hq => by cases hq; rfl) dX0_init_83 ?_
  refine v_toph fun h30 eh30 => ?_
  replace hF := lb_use eh30 hF
  clear eh30
  cases hF
  exact v_vret rfl dX0_init_86
theorem dX0_noteOffer_0 : decode cX0_noteOffer 0 = .ok (.aload_n 0, 1) := by decide +kernel
theorem dX0_noteOffer_1 : decode cX0_noteOffer 1 = .ok (.getfield 24, 3) := by decide +kernel
theorem dX0_noteOffer_4 : decode cX0_noteOffer 4 = .ok (.iload_n 1, 1) := by decide +kernel
theorem dX0_noteOffer_5 : decode cX0_noteOffer 5 = .ok (.bipush 12, 2) := by decide +kernel
theorem dX0_noteOffer_7 : decode cX0_noteOffer 7 = .ok (.imul, 1) := by decide +kernel
theorem dX0_noteOffer_8 : decode cX0_noteOffer 8 = .ok (.iload_n 2, 1) := by decide +kernel
theorem dX0_noteOffer_9 : decode cX0_noteOffer 9 = .ok (.iadd, 1) := by decide +kernel
theorem dX0_noteOffer_10 : decode cX0_noteOffer 10 = .ok (.iload_n 3, 1) := by decide +kernel
theorem dX0_noteOffer_11 : decode cX0_noteOffer 11 = .ok (.iastore, 1) := by decide +kernel
theorem dX0_noteOffer_12 : decode cX0_noteOffer 12 = .ok (.return_, 1) := by decide +kernel
def fX0_noteOffer (a1 : Int32) (a2 : Int32) (a3 : Int32) (h : Hp) : Option (Unit × Hp) := gd (ib ((a1 * 12) + a2) 96) (lb (sI h 17 0 (ix ((a1 * 12) + a2)) a3) (fun h2 => some ((), h2)))
set_option maxRecDepth 20000 in
theorem tX0_noteOffer {X : Cz} {a1 : Int32} {a2 : Int32} {a3 : Int32} {h hE : Hp} {rE : Unit} (hF : fX0_noteOffer a1 a2 a3 h = some (rE, hE)) : Ct X mX0_noteOffer true [zr 0 0, zi a1, zi a2, zi a3] h (none) hE := by
  refine Ct_of (by decide) (Nat.le_of_ble_eq_true rfl) (ls := [(0, zr 0 0), (1, zi a1), (2, zi a2), (3, zi a3)]) rfl ?_
  unfold fX0_noteOffer at hF
  refine v_aload_n (j := 0) dX0_noteOffer_0 rfl ?_
  refine v_getL (c := 0) rfl rfl rfl ly0_5 cz0 flX0_24 dX0_noteOffer_1 ?_
  refine v_iload_n (j := 1) dX0_noteOffer_4 rfl ?_
  refine v_bipush (v := 12) dX0_noteOffer_5 (by decide) ?_
  refine v_imul dX0_noteOffer_7 ?_
  refine v_iload_n (j := 2) dX0_noteOffer_8 rfl ?_
  refine v_iadd dX0_noteOffer_9 ?_
  refine v_iload_n (j := 3) dX0_noteOffer_10 rfl ?_
  replace hF := gd_use hF
  obtain ⟨q1, hF⟩ := hF
  refine v_iast rfl q1 dX0_noteOffer_11 ?_
  refine v_toph fun h2 eh2 => ?_
  replace hF := lb_use eh2 hF
  clear eh2
  cases hF
  exact v_vret rfl dX0_noteOffer_12
theorem dX0_putUp_0 : decode cX0_putUp 0 = .ok (.aload_n 0, 1) := by decide +kernel
theorem dX0_putUp_1 : decode cX0_putUp 1 = .ok (.getfield 42, 3) := by decide +kernel
theorem dX0_putUp_4 : decode cX0_putUp 4 = .ok (.bipush 8, 2) := by decide +kernel
theorem dX0_putUp_6 : decode cX0_putUp 6 = .ok (.if_icmp .lt 6, 3) := by decide +kernel
theorem dX0_putUp_9 : decode cX0_putUp 9 = .ok (.bipush (-3), 2) := by decide +kernel
theorem dX0_putUp_11 : decode cX0_putUp 11 = .ok (.ireturn, 1) := by decide +kernel
theorem dX0_putUp_12 : decode cX0_putUp 12 = .ok (.aload_n 0, 1) := by decide +kernel
theorem dX0_putUp_13 : decode cX0_putUp 13 = .ok (.getfield 9, 3) := by decide +kernel
theorem dX0_putUp_16 : decode cX0_putUp 16 = .ok (.aload_n 0, 1) := by decide +kernel
theorem dX0_putUp_17 : decode cX0_putUp 17 = .ok (.getfield 42, 3) := by decide +kernel
theorem dX0_putUp_20 : decode cX0_putUp 20 = .ok (.iload_n 1, 1) := by decide +kernel
theorem dX0_putUp_21 : decode cX0_putUp 21 = .ok (.iastore, 1) := by decide +kernel
theorem dX0_putUp_22 : decode cX0_putUp 22 = .ok (.aload_n 0, 1) := by decide +kernel
theorem dX0_putUp_23 : decode cX0_putUp 23 = .ok (.getfield 15, 3) := by decide +kernel
theorem dX0_putUp_26 : decode cX0_putUp 26 = .ok (.aload_n 0, 1) := by decide +kernel
theorem dX0_putUp_27 : decode cX0_putUp 27 = .ok (.getfield 42, 3) := by decide +kernel
theorem dX0_putUp_30 : decode cX0_putUp 30 = .ok (.iload_n 2, 1) := by decide +kernel
theorem dX0_putUp_31 : decode cX0_putUp 31 = .ok (.iastore, 1) := by decide +kernel
theorem dX0_putUp_32 : decode cX0_putUp 32 = .ok (.aload_n 0, 1) := by decide +kernel
theorem dX0_putUp_33 : decode cX0_putUp 33 = .ok (.getfield 18, 3) := by decide +kernel
theorem dX0_putUp_36 : decode cX0_putUp 36 = .ok (.aload_n 0, 1) := by decide +kernel
theorem dX0_putUp_37 : decode cX0_putUp 37 = .ok (.getfield 42, 3) := by decide +kernel
theorem dX0_putUp_40 : decode cX0_putUp 40 = .ok (.iload_n 3, 1) := by decide +kernel
theorem dX0_putUp_41 : decode cX0_putUp 41 = .ok (.iastore, 1) := by decide +kernel
theorem dX0_putUp_42 : decode cX0_putUp 42 = .ok (.aload_n 0, 1) := by decide +kernel
theorem dX0_putUp_43 : decode cX0_putUp 43 = .ok (.getfield 21, 3) := by decide +kernel
theorem dX0_putUp_46 : decode cX0_putUp 46 = .ok (.aload_n 0, 1) := by decide +kernel
theorem dX0_putUp_47 : decode cX0_putUp 47 = .ok (.getfield 42, 3) := by decide +kernel
theorem dX0_putUp_50 : decode cX0_putUp 50 = .ok (.iload 4, 2) := by decide +kernel
theorem dX0_putUp_52 : decode cX0_putUp 52 = .ok (.iastore, 1) := by decide +kernel
theorem dX0_putUp_53 : decode cX0_putUp 53 = .ok (.iconst 0, 1) := by decide +kernel
theorem dX0_putUp_54 : decode cX0_putUp 54 = .ok (.istore 5, 2) := by decide +kernel
theorem dX0_putUp_56 : decode cX0_putUp 56 = .ok (.iload 5, 2) := by decide +kernel
theorem dX0_putUp_58 : decode cX0_putUp 58 = .ok (.bipush 12, 2) := by decide +kernel
theorem dX0_putUp_60 : decode cX0_putUp 60 = .ok (.if_icmp .ge 20, 3) := by decide +kernel
theorem dX0_putUp_63 : decode cX0_putUp 63 = .ok (.aload_n 0, 1) := by decide +kernel
theorem dX0_putUp_64 : decode cX0_putUp 64 = .ok (.aload_n 0, 1) := by decide +kernel
theorem dX0_putUp_65 : decode cX0_putUp 65 = .ok (.getfield 42, 3) := by decide +kernel
theorem dX0_putUp_68 : decode cX0_putUp 68 = .ok (.iload 5, 2) := by decide +kernel
theorem dX0_putUp_70 : decode cX0_putUp 70 = .ok (.iconst 0, 1) := by decide +kernel
theorem dX0_putUp_71 : decode cX0_putUp 71 = .ok (.invokevirtual 46, 3) := by decide +kernel
theorem dX0_putUp_74 : decode cX0_putUp 74 = .ok (.iinc 5 1, 3) := by decide +kernel
theorem dX0_putUp_77 : decode cX0_putUp 77 = .ok (.goto (-21), 3) := by decide +kernel
theorem dX0_putUp_80 : decode cX0_putUp 80 = .ok (.aload_n 0, 1) := by decide +kernel
theorem dX0_putUp_81 : decode cX0_putUp 81 = .ok (.dup, 1) := by decide +kernel
theorem dX0_putUp_82 : decode cX0_putUp 82 = .ok (.getfield 42, 3) := by decide +kernel
theorem dX0_putUp_85 : decode cX0_putUp 85 = .ok (.iconst 1, 1) := by decide +kernel
theorem dX0_putUp_86 : decode cX0_putUp 86 = .ok (.iadd, 1) := by decide +kernel
theorem dX0_putUp_87 : decode cX0_putUp 87 = .ok (.putfield 42, 3) := by decide +kernel
theorem dX0_putUp_90 : decode cX0_putUp 90 = .ok (.aload_n 0, 1) := by decide +kernel
theorem dX0_putUp_91 : decode cX0_putUp 91 = .ok (.getfield 42, 3) := by decide +kernel
theorem dX0_putUp_94 : decode cX0_putUp 94 = .ok (.iconst 1, 1) := by decide +kernel
theorem dX0_putUp_95 : decode cX0_putUp 95 = .ok (.isub, 1) := by decide +kernel
theorem dX0_putUp_96 : decode cX0_putUp 96 = .ok (.ireturn, 1) := by decide +kernel
def fX0_putUp_L56 : Nat → Int32 → Hp → Option ((Int32) × Hp)
  | 0, _, _ => none
  | n + 1, a5, h => br (12 ≤ a5) (some ((a5), h)) (bd (fX0_noteOffer (gI h 0 0 0) a5 0 h) (fun r9 h10 => lb (a5 + 1) (fun v11 => fX0_putUp_L56 n v11 h10)))
def fX0_putUp (a1 : Int32) (a2 : Int32) (a3 : Int32) (a4 : Int32) (h : Hp) : Option (Int32 × Hp) := br ((gI h 0 0 0) < 8) (gd (ib (gI h 0 0 0) 8) (lb (sI h 13 0 (ix (gI h 0 0 0)) a1) (fun h2 => gd (ib (gI h2 0 0 0) 8) (lb (sI h2 14 0 (ix (gI h2 0 0 0)) a2) (fun h4 => gd (ib (gI h4 0 0 0) 8) (lb (sI h4 15 0 (ix (gI h4 0 0 0)) a3) (fun h6 => gd (ib (gI h6 0 0 0) 8) (lb (sI h6 16 0 (ix (gI h6 0 0 0)) a4) (fun h8 => bd (fX0_putUp_L56 FU 0 h8) (fun v14 h12 => lb (sI h12 0 0 0 ((gI h12 0 0 0) + 1)) (fun h15 => some ((gI h15 0 0 0) - 1, h15)))))))))))) (some ((-3), h))
set_option maxRecDepth 20000 in
theorem tX0_putUp_L56 {X : Cz} {h0 : Hp} {r : Option AV} {hE : Hp} : ∀ (n : Nat) (a5 : Int32) (h : Hp) (z : (Int32) × Hp), fX0_putUp_L56 n a5 h = some z → V X mX0_putUp true h0 80 [(0, zr 0 0), (5, zi z.1)] [] z.2 r hE → V X mX0_putUp true h0 56 [(0, zr 0 0), (5, zi a5)] [] h r hE := by
  intro n
  induction n with
  | zero => intro a5 h z hF k; cases hF
  | succ n ih =>
    intro a5 h z hF k
    rw [fX0_putUp_L56] at hF
    refine v_iload (j := 1) dX0_putUp_56 rfl ?_
    refine v_bipush (v := 12) dX0_putUp_58 (by decide) ?_
    refine v_icmp_ge dX0_putUp_60 (by decide : _ = ((80 : Nat) : Int)) (fun q => ?_) (fun q => ?_)
    · replace hF := brT q hF
      cases hF
      exact k
    · replace hF := brF q hF
      refine v_aload_n (j := 0) dX0_putUp_63 rfl ?_
      refine v_aload_n (j := 0) dX0_putUp_64 rfl ?_
      refine v_getI (c := 0) rfl (Or.inl rfl) cz0 flX0_42 dX0_putUp_65 ?_
      refine v_iload (j := 1) dX0_putUp_68 rfl ?_
      refine v_iconst (v := 0) dX0_putUp_70 (by decide) ?_
      replace hF := bd_use hF
      obtain ⟨r9, h10, er9, hF⟩ := hF
      refine v_cV (hm := h10) (av := [zi (gI h 0 0 0), zi a5, zi 0]) (st := []) (stn := []) (tX0_noteOffer er9) lcX0_noteOffer mlX0_46 imX0_noteOffer seX0_noteOffer rfl rfl rfl rfl ⟨by decide, by decide⟩ (Nat.le_of_ble_eq_true rfl) dX0_putUp_71 rfl rfl ?_
      clear er9
      obtain ⟨v11, ev11⟩ : ∃ y : Int32, y = a5 + 1 := ⟨_, rfl⟩
      replace hF := lb_use ev11 hF
      refine v_iinc (j := 1) (v := v11) (ls' := [(5, zi v11), (0, zr 0 0)]) dX0_putUp_74 rfl (by rw [ev11]; rfl) (by decide) rfl ?_
      clear ev11
      refine v_goto (tgt := 56) dX0_putUp_77 (by decide) ?_
      refine v_sub [1, 0] rfl ?_
      exact ih v11 h10 _ hF k
set_option maxRecDepth 20000 in
theorem tX0_putUp {X : Cz} {a1 : Int32} {a2 : Int32} {a3 : Int32} {a4 : Int32} {h hE : Hp} {rE : Int32} (hF : fX0_putUp a1 a2 a3 a4 h = some (rE, hE)) : Ct X mX0_putUp true [zr 0 0, zi a1, zi a2, zi a3, zi a4] h (some (zi rE)) hE := by
  refine Ct_of (by decide) (Nat.le_of_ble_eq_true rfl) (ls := [(0, zr 0 0), (1, zi a1), (2, zi a2), (3, zi a3), (4, zi a4)]) rfl ?_
  unfold fX0_putUp at hF
  refine v_aload_n (j := 0) dX0_putUp_0 rfl ?_
  refine v_getI (c := 0) rfl (Or.inl rfl) cz0 flX0_42 dX0_putUp_1 ?_
  refine v_bipush (v := 8) dX0_putUp_4 (by decide) ?_
  refine v_icmp_lt dX0_putUp_6 (by decide : _ = ((12 : Nat) : Int)) (fun q => ?_) (fun q => ?_)
  · replace hF := brT q hF
    refine v_aload_n (j := 0) dX0_putUp_12 rfl ?_
    refine v_getL (c := 0) rfl rfl rfl ly0_1 cz0 flX0_9 dX0_putUp_13 ?_
    refine v_aload_n (j := 0) dX0_putUp_16 rfl ?_
    refine v_getI (c := 0) rfl (Or.inl rfl) cz0 flX0_42 dX0_putUp_17 ?_
    refine v_iload_n (j := 1) dX0_putUp_20 rfl ?_
    replace hF := gd_use hF
    obtain ⟨q1, hF⟩ := hF
    refine v_iast rfl q1 dX0_putUp_21 ?_
    refine v_toph fun h2 eh2 => ?_
    replace hF := lb_use eh2 hF
    clear eh2
    refine v_aload_n (j := 0) dX0_putUp_22 rfl ?_
    refine v_getL (c := 0) rfl rfl rfl ly0_2 cz0 flX0_15 dX0_putUp_23 ?_
    refine v_aload_n (j := 0) dX0_putUp_26 rfl ?_
    refine v_getI (c := 0) rfl (Or.inl rfl) cz0 flX0_42 dX0_putUp_27 ?_
    refine v_iload_n (j := 2) dX0_putUp_30 rfl ?_
    replace hF := gd_use hF
    obtain ⟨q3, hF⟩ := hF
    refine v_iast rfl q3 dX0_putUp_31 ?_
    refine v_toph fun h4 eh4 => ?_
    replace hF := lb_use eh4 hF
    clear eh4
    refine v_aload_n (j := 0) dX0_putUp_32 rfl ?_
    refine v_getL (c := 0) rfl rfl rfl ly0_3 cz0 flX0_18 dX0_putUp_33 ?_
    refine v_aload_n (j := 0) dX0_putUp_36 rfl ?_
    refine v_getI (c := 0) rfl (Or.inl rfl) cz0 flX0_42 dX0_putUp_37 ?_
    refine v_iload_n (j := 3) dX0_putUp_40 rfl ?_
    replace hF := gd_use hF
    obtain ⟨q5, hF⟩ := hF
    refine v_iast rfl q5 dX0_putUp_41 ?_
    refine v_toph fun h6 eh6 => ?_
    replace hF := lb_use eh6 hF
    clear eh6
    refine v_aload_n (j := 0) dX0_putUp_42 rfl ?_
    refine v_getL (c := 0) rfl rfl rfl ly0_4 cz0 flX0_21 dX0_putUp_43 ?_
    refine v_aload_n (j := 0) dX0_putUp_46 rfl ?_
    refine v_getI (c := 0) rfl (Or.inl rfl) cz0 flX0_42 dX0_putUp_47 ?_
    refine v_iload (j := 4) dX0_putUp_50 rfl ?_
    replace hF := gd_use hF
    obtain ⟨q7, hF⟩ := hF
    refine v_iast rfl q7 dX0_putUp_52 ?_
    refine v_toph fun h8 eh8 => ?_
    replace hF := lb_use eh8 hF
    clear eh8
    refine v_iconst (v := 0) dX0_putUp_53 (by decide) ?_
    refine v_istore (ls' := [(5, zi 0), (0, zr 0 0), (1, zi a1), (2, zi a2), (3, zi a3), (4, zi a4)]) dX0_putUp_54 (by decide) rfl ?_
    refine v_sub [1, 0] rfl ?_
    replace hF := bd_use hF
    obtain ⟨v14, h12, ev14, hF⟩ := hF
    refine tX0_putUp_L56 _ 0 h8 _ ev14 ?_
    clear ev14
    refine v_aload_n (j := 0) dX0_putUp_80 rfl ?_
    refine v_dup dX0_putUp_81 rfl ?_
    refine v_getI (c := 0) rfl (Or.inl rfl) cz0 flX0_42 dX0_putUp_82 ?_
    refine v_iconst (v := 1) dX0_putUp_85 (by decide) ?_
    refine v_iadd dX0_putUp_86 ?_
    refine v_putI (c := 0) rfl rfl (Nat.le_of_ble_eq_true rfl) cz0 flX0_42 dX0_putUp_87 ?_
    refine v_toph fun h15 eh15 => ?_
    replace hF := lb_use eh15 hF
    clear eh15
    refine v_aload_n (j := 0) dX0_putUp_90 rfl ?_
    refine v_getI (c := 0) rfl (Or.inl rfl) cz0 flX0_42 dX0_putUp_91 ?_
    refine v_iconst (v := 1) dX0_putUp_94 (by decide) ?_
    refine v_isub dX0_putUp_95 ?_
    obtain ⟨rfl, rfl⟩ := ret_use hF
    exact v_iret rfl dX0_putUp_96
  · replace hF := brF q hF
    refine v_bipush (v := (-3)) dX0_putUp_9 (by decide) ?_
    obtain ⟨rfl, rfl⟩ := ret_use hF
    exact v_iret rfl dX0_putUp_11
theorem dX0_isLot_0 : decode cX0_isLot 0 = .ok (.iload_n 1, 1) := by decide +kernel
theorem dX0_isLot_1 : decode cX0_isLot 1 = .ok (.ifCond .lt 15, 3) := by decide +kernel
theorem dX0_isLot_4 : decode cX0_isLot 4 = .ok (.iload_n 1, 1) := by decide +kernel
theorem dX0_isLot_5 : decode cX0_isLot 5 = .ok (.aload_n 0, 1) := by decide +kernel
theorem dX0_isLot_6 : decode cX0_isLot 6 = .ok (.getfield 42, 3) := by decide +kernel
theorem dX0_isLot_9 : decode cX0_isLot 9 = .ok (.if_icmp .ge 7, 3) := by decide +kernel
theorem dX0_isLot_12 : decode cX0_isLot 12 = .ok (.iconst 1, 1) := by decide +kernel
theorem dX0_isLot_13 : decode cX0_isLot 13 = .ok (.goto 4, 3) := by decide +kernel
theorem dX0_isLot_16 : decode cX0_isLot 16 = .ok (.iconst 0, 1) := by decide +kernel
theorem dX0_isLot_17 : decode cX0_isLot 17 = .ok (.ireturn, 1) := by decide +kernel
def fX0_isLot (a1 : Int32) (h : Hp) : Int32 := br (a1 < 0) (0) (br ((gI h 0 0 0) ≤ a1) (0) (1))
set_option maxRecDepth 20000 in
theorem tX0_isLot {X : Cz} (a1 : Int32) (h : Hp) : Ct X mX0_isLot true [zr 0 0, zi a1] h (some (zi (fX0_isLot a1 h))) h := by
  refine Ct_of (by decide) (Nat.le_of_ble_eq_true rfl) (ls := [(0, zr 0 0), (1, zi a1)]) rfl ?_
  obtain ⟨rE, hF⟩ : ∃ z, fX0_isLot a1 h = z := ⟨_, rfl⟩
  rw [hF]
  unfold fX0_isLot at hF
  refine v_iload_n (j := 1) dX0_isLot_0 rfl ?_
  refine v_if_lt dX0_isLot_1 (by decide : _ = ((16 : Nat) : Int)) (fun q => ?_) (fun q => ?_)
  · replace hF := brT q hF
    refine v_iconst (v := 0) dX0_isLot_16 (by decide) ?_
    subst hF
    exact v_zret rfl (Or.inl rfl) dX0_isLot_17
  · replace hF := brF q hF
    refine v_iload_n (j := 1) dX0_isLot_4 rfl ?_
    refine v_aload_n (j := 0) dX0_isLot_5 rfl ?_
    refine v_getI (c := 0) rfl (Or.inl rfl) cz0 flX0_42 dX0_isLot_6 ?_
    refine v_icmp_ge dX0_isLot_9 (by decide : _ = ((16 : Nat) : Int)) (fun q => ?_) (fun q => ?_)
    · replace hF := brT q hF
      refine v_iconst (v := 0) dX0_isLot_16 (by decide) ?_
      subst hF
      exact v_zret rfl (Or.inl rfl) dX0_isLot_17
    · replace hF := brF q hF
      refine v_iconst (v := 1) dX0_isLot_12 (by decide) ?_
      refine v_goto (tgt := 17) dX0_isLot_13 (by decide) ?_
      subst hF
      exact v_zret rfl (Or.inr rfl) dX0_isLot_17
theorem zX0_isLot (a1 : Int32) (h : Hp) : fX0_isLot a1 h = 0 ∨ fX0_isLot a1 h = 1 := by
  unfold fX0_isLot
  try unfold br
  try unfold lb
  try dsimp only
  repeat' split
  all_goals first | exact Or.inl rfl | exact Or.inr rfl
theorem dX0_dropOffersOf_0 : decode cX0_dropOffersOf 0 = .ok (.iconst 0, 1) := by decide +kernel
theorem dX0_dropOffersOf_1 : decode cX0_dropOffersOf 1 = .ok (.istore_n 2, 1) := by decide +kernel
theorem dX0_dropOffersOf_2 : decode cX0_dropOffersOf 2 = .ok (.iload_n 2, 1) := by decide +kernel
theorem dX0_dropOffersOf_3 : decode cX0_dropOffersOf 3 = .ok (.aload_n 0, 1) := by decide +kernel
theorem dX0_dropOffersOf_4 : decode cX0_dropOffersOf 4 = .ok (.getfield 42, 3) := by decide +kernel
theorem dX0_dropOffersOf_7 : decode cX0_dropOffersOf 7 = .ok (.if_icmp .ge 16, 3) := by decide +kernel
theorem dX0_dropOffersOf_10 : decode cX0_dropOffersOf 10 = .ok (.aload_n 0, 1) := by decide +kernel
theorem dX0_dropOffersOf_11 : decode cX0_dropOffersOf 11 = .ok (.iload_n 2, 1) := by decide +kernel
theorem dX0_dropOffersOf_12 : decode cX0_dropOffersOf 12 = .ok (.iload_n 1, 1) := by decide +kernel
theorem dX0_dropOffersOf_13 : decode cX0_dropOffersOf 13 = .ok (.iconst 0, 1) := by decide +kernel
theorem dX0_dropOffersOf_14 : decode cX0_dropOffersOf 14 = .ok (.invokevirtual 46, 3) := by decide +kernel
theorem dX0_dropOffersOf_17 : decode cX0_dropOffersOf 17 = .ok (.iinc 2 1, 3) := by decide +kernel
theorem dX0_dropOffersOf_20 : decode cX0_dropOffersOf 20 = .ok (.goto (-18), 3) := by decide +kernel
theorem dX0_dropOffersOf_23 : decode cX0_dropOffersOf 23 = .ok (.return_, 1) := by decide +kernel
def fX0_dropOffersOf_L2 : Nat → Int32 → Int32 → Hp → Option ((Int32) × Hp)
  | 0, _, _, _ => none
  | n + 1, a1, a2, h => br ((gI h 0 0 0) ≤ a2) (some ((a2), h)) (bd (fX0_noteOffer a2 a1 0 h) (fun r1 h2 => lb (a2 + 1) (fun v3 => fX0_dropOffersOf_L2 n a1 v3 h2)))
def fX0_dropOffersOf (a1 : Int32) (h : Hp) : Option (Unit × Hp) := bd (fX0_dropOffersOf_L2 FU a1 0 h) (fun v6 h4 => some ((), h4))
set_option maxRecDepth 20000 in
theorem tX0_dropOffersOf_L2 {X : Cz} {h0 : Hp} {r : Option AV} {hE : Hp} : ∀ (n : Nat) (a1 : Int32) (a2 : Int32) (h : Hp) (z : (Int32) × Hp), fX0_dropOffersOf_L2 n a1 a2 h = some z → V X mX0_dropOffersOf true h0 23 [(0, zr 0 0), (1, zi a1), (2, zi z.1)] [] z.2 r hE → V X mX0_dropOffersOf true h0 2 [(0, zr 0 0), (1, zi a1), (2, zi a2)] [] h r hE := by
  intro n
  induction n with
  | zero => intro a1 a2 h z hF k; cases hF
  | succ n ih =>
    intro a1 a2 h z hF k
    rw [fX0_dropOffersOf_L2] at hF
    refine v_iload_n (j := 2) dX0_dropOffersOf_2 rfl ?_
    refine v_aload_n (j := 0) dX0_dropOffersOf_3 rfl ?_
    refine v_getI (c := 0) rfl (Or.inl rfl) cz0 flX0_42 dX0_dropOffersOf_4 ?_
    refine v_icmp_ge dX0_dropOffersOf_7 (by decide : _ = ((23 : Nat) : Int)) (fun q => ?_) (fun q => ?_)
    · replace hF := brT q hF
      cases hF
      exact k
    · replace hF := brF q hF
      refine v_aload_n (j := 0) dX0_dropOffersOf_10 rfl ?_
      refine v_iload_n (j := 2) dX0_dropOffersOf_11 rfl ?_
      refine v_iload_n (j := 1) dX0_dropOffersOf_12 rfl ?_
      refine v_iconst (v := 0) dX0_dropOffersOf_13 (by decide) ?_
      replace hF := bd_use hF
      obtain ⟨r1, h2, er1, hF⟩ := hF
      refine v_cV (hm := h2) (av := [zi a2, zi a1, zi 0]) (st := []) (stn := []) (tX0_noteOffer er1) lcX0_noteOffer mlX0_46 imX0_noteOffer seX0_noteOffer rfl rfl rfl rfl ⟨by decide, by decide⟩ (Nat.le_of_ble_eq_true rfl) dX0_dropOffersOf_14 rfl rfl ?_
      clear er1
      obtain ⟨v3, ev3⟩ : ∃ y : Int32, y = a2 + 1 := ⟨_, rfl⟩
      replace hF := lb_use ev3 hF
      refine v_iinc (j := 2) (v := v3) (ls' := [(2, zi v3), (0, zr 0 0), (1, zi a1)]) dX0_dropOffersOf_17 rfl (by rw [ev3]; rfl) (by decide) rfl ?_
      clear ev3
      refine v_goto (tgt := 2) dX0_dropOffersOf_20 (by decide) ?_
      refine v_sub [1, 2, 0] rfl ?_
      exact ih a1 v3 h2 _ hF k
set_option maxRecDepth 20000 in
theorem tX0_dropOffersOf {X : Cz} {a1 : Int32} {h hE : Hp} {rE : Unit} (hF : fX0_dropOffersOf a1 h = some (rE, hE)) : Ct X mX0_dropOffersOf true [zr 0 0, zi a1] h (none) hE := by
  refine Ct_of (by decide) (Nat.le_of_ble_eq_true rfl) (ls := [(0, zr 0 0), (1, zi a1)]) rfl ?_
  unfold fX0_dropOffersOf at hF
  refine v_iconst (v := 0) dX0_dropOffersOf_0 (by decide) ?_
  refine v_istore_n (ls' := [(2, zi 0), (0, zr 0 0), (1, zi a1)]) dX0_dropOffersOf_1 (by decide) rfl ?_
  refine v_sub [1, 2, 0] rfl ?_
  replace hF := bd_use hF
  obtain ⟨v6, h4, ev6, hF⟩ := hF
  refine tX0_dropOffersOf_L2 _ a1 0 h _ ev6 ?_
  clear ev6
  cases hF
  exact v_vret rfl dX0_dropOffersOf_23
theorem dX0_sumWithLot_0 : decode cX0_sumWithLot 0 = .ok (.aload_n 0, 1) := by decide +kernel
theorem dX0_sumWithLot_1 : decode cX0_sumWithLot 1 = .ok (.getfield 24, 3) := by decide +kernel
theorem dX0_sumWithLot_4 : decode cX0_sumWithLot 4 = .ok (.iload_n 2, 1) := by decide +kernel
theorem dX0_sumWithLot_5 : decode cX0_sumWithLot 5 = .ok (.bipush 12, 2) := by decide +kernel
theorem dX0_sumWithLot_7 : decode cX0_sumWithLot 7 = .ok (.imul, 1) := by decide +kernel
theorem dX0_sumWithLot_8 : decode cX0_sumWithLot 8 = .ok (.iload_n 1, 1) := by decide +kernel
theorem dX0_sumWithLot_9 : decode cX0_sumWithLot 9 = .ok (.iadd, 1) := by decide +kernel
theorem dX0_sumWithLot_10 : decode cX0_sumWithLot 10 = .ok (.iaload, 1) := by decide +kernel
theorem dX0_sumWithLot_11 : decode cX0_sumWithLot 11 = .ok (.istore 4, 2) := by decide +kernel
theorem dX0_sumWithLot_13 : decode cX0_sumWithLot 13 = .ok (.iload 4, 2) := by decide +kernel
theorem dX0_sumWithLot_15 : decode cX0_sumWithLot 15 = .ok (.ifCond .le 11, 3) := by decide +kernel
theorem dX0_sumWithLot_18 : decode cX0_sumWithLot 18 = .ok (.iload_n 3, 1) := by decide +kernel
theorem dX0_sumWithLot_19 : decode cX0_sumWithLot 19 = .ok (.iload_n 2, 1) := by decide +kernel
theorem dX0_sumWithLot_20 : decode cX0_sumWithLot 20 = .ok (.ishr, 1) := by decide +kernel
theorem dX0_sumWithLot_21 : decode cX0_sumWithLot 21 = .ok (.iconst 1, 1) := by decide +kernel
theorem dX0_sumWithLot_22 : decode cX0_sumWithLot 22 = .ok (.iand, 1) := by decide +kernel
theorem dX0_sumWithLot_23 : decode cX0_sumWithLot 23 = .ok (.ifCond .eq 5, 3) := by decide +kernel
theorem dX0_sumWithLot_26 : decode cX0_sumWithLot 26 = .ok (.iconst (-1), 1) := by decide +kernel
theorem dX0_sumWithLot_27 : decode cX0_sumWithLot 27 = .ok (.ireturn, 1) := by decide +kernel
theorem dX0_sumWithLot_28 : decode cX0_sumWithLot 28 = .ok (.iload 4, 2) := by decide +kernel
theorem dX0_sumWithLot_30 : decode cX0_sumWithLot 30 = .ok (.aload_n 0, 1) := by decide +kernel
theorem dX0_sumWithLot_31 : decode cX0_sumWithLot 31 = .ok (.getfield 27, 3) := by decide +kernel
theorem dX0_sumWithLot_34 : decode cX0_sumWithLot 34 = .ok (.iload_n 1, 1) := by decide +kernel
theorem dX0_sumWithLot_35 : decode cX0_sumWithLot 35 = .ok (.iconst 1, 1) := by decide +kernel
theorem dX0_sumWithLot_36 : decode cX0_sumWithLot 36 = .ok (.iadd, 1) := by decide +kernel
theorem dX0_sumWithLot_37 : decode cX0_sumWithLot 37 = .ok (.sipush 256, 3) := by decide +kernel
theorem dX0_sumWithLot_40 : decode cX0_sumWithLot 40 = .ok (.imul, 1) := by decide +kernel
theorem dX0_sumWithLot_41 : decode cX0_sumWithLot 41 = .ok (.iload_n 3, 1) := by decide +kernel
theorem dX0_sumWithLot_42 : decode cX0_sumWithLot 42 = .ok (.iconst 1, 1) := by decide +kernel
theorem dX0_sumWithLot_43 : decode cX0_sumWithLot 43 = .ok (.iload_n 2, 1) := by decide +kernel
theorem dX0_sumWithLot_44 : decode cX0_sumWithLot 44 = .ok (.ishl, 1) := by decide +kernel
theorem dX0_sumWithLot_45 : decode cX0_sumWithLot 45 = .ok (.ior, 1) := by decide +kernel
theorem dX0_sumWithLot_46 : decode cX0_sumWithLot 46 = .ok (.iadd, 1) := by decide +kernel
theorem dX0_sumWithLot_47 : decode cX0_sumWithLot 47 = .ok (.iaload, 1) := by decide +kernel
theorem dX0_sumWithLot_48 : decode cX0_sumWithLot 48 = .ok (.iadd, 1) := by decide +kernel
theorem dX0_sumWithLot_49 : decode cX0_sumWithLot 49 = .ok (.ireturn, 1) := by decide +kernel
def fX0_sumWithLot (a1 : Int32) (a2 : Int32) (a3 : Int32) (h : Hp) : Option (Int32 × Hp) := gd (ib ((a2 * 12) + a1) 96) (lb (gI h 17 0 (ix ((a2 * 12) + a1))) (fun v2 => br (v2 ≤ 0) (some ((-1), h)) (br (((a3 >>> (a2 &&& 31)) &&& 1) = 0) (gd (ib (((a1 + 1) * 256) + (a3 ||| ((1 : Int32) <<< (a2 &&& 31)))) 3328) (some (v2 + (gI h 18 0 (ix (((a1 + 1) * 256) + (a3 ||| ((1 : Int32) <<< (a2 &&& 31)))))), h))) (some ((-1), h)))))
set_option maxRecDepth 20000 in
theorem tX0_sumWithLot {X : Cz} {a1 : Int32} {a2 : Int32} {a3 : Int32} {h hE : Hp} {rE : Int32} (hF : fX0_sumWithLot a1 a2 a3 h = some (rE, hE)) : Ct X mX0_sumWithLot true [zr 0 0, zi a1, zi a2, zi a3] h (some (zi rE)) hE := by
  refine Ct_of (by decide) (Nat.le_of_ble_eq_true rfl) (ls := [(0, zr 0 0), (1, zi a1), (2, zi a2), (3, zi a3)]) rfl ?_
  unfold fX0_sumWithLot at hF
  refine v_aload_n (j := 0) dX0_sumWithLot_0 rfl ?_
  refine v_getL (c := 0) rfl rfl rfl ly0_5 cz0 flX0_24 dX0_sumWithLot_1 ?_
  refine v_iload_n (j := 2) dX0_sumWithLot_4 rfl ?_
  refine v_bipush (v := 12) dX0_sumWithLot_5 (by decide) ?_
  refine v_imul dX0_sumWithLot_7 ?_
  refine v_iload_n (j := 1) dX0_sumWithLot_8 rfl ?_
  refine v_iadd dX0_sumWithLot_9 ?_
  replace hF := gd_use hF
  obtain ⟨q1, hF⟩ := hF
  refine v_iald rfl q1 dX0_sumWithLot_10 ?_
  refine v_topi fun v2 ev2 => ?_
  replace hF := lb_use ev2 hF
  clear ev2
  refine v_istore (ls' := [(4, zi v2), (0, zr 0 0), (1, zi a1), (2, zi a2), (3, zi a3)]) dX0_sumWithLot_11 (by decide) rfl ?_
  refine v_iload (j := 0) dX0_sumWithLot_13 rfl ?_
  refine v_if_le dX0_sumWithLot_15 (by decide : _ = ((26 : Nat) : Int)) (fun q => ?_) (fun q => ?_)
  · replace hF := brT q hF
    refine v_iconst (v := (-1)) dX0_sumWithLot_26 (by decide) ?_
    obtain ⟨rfl, rfl⟩ := ret_use hF
    exact v_iret rfl dX0_sumWithLot_27
  · replace hF := brF q hF
    refine v_iload_n (j := 4) dX0_sumWithLot_18 rfl ?_
    refine v_iload_n (j := 3) dX0_sumWithLot_19 rfl ?_
    refine v_ishr dX0_sumWithLot_20 ?_
    refine v_iconst (v := 1) dX0_sumWithLot_21 (by decide) ?_
    refine v_iand dX0_sumWithLot_22 ?_
    refine v_if_eq dX0_sumWithLot_23 (by decide : _ = ((28 : Nat) : Int)) (fun q => ?_) (fun q => ?_)
    · replace hF := brT q hF
      refine v_iload (j := 0) dX0_sumWithLot_28 rfl ?_
      refine v_aload_n (j := 1) dX0_sumWithLot_30 rfl ?_
      refine v_getL (c := 0) rfl rfl rfl ly0_6 cz0 flX0_27 dX0_sumWithLot_31 ?_
      refine v_iload_n (j := 2) dX0_sumWithLot_34 rfl ?_
      refine v_iconst (v := 1) dX0_sumWithLot_35 (by decide) ?_
      refine v_iadd dX0_sumWithLot_36 ?_
      refine v_sipush (v := 256) dX0_sumWithLot_37 (by decide) ?_
      refine v_imul dX0_sumWithLot_40 ?_
      refine v_iload_n (j := 4) dX0_sumWithLot_41 rfl ?_
      refine v_iconst (v := 1) dX0_sumWithLot_42 (by decide) ?_
      refine v_iload_n (j := 3) dX0_sumWithLot_43 rfl ?_
      refine v_ishl dX0_sumWithLot_44 ?_
      refine v_ior dX0_sumWithLot_45 ?_
      refine v_iadd dX0_sumWithLot_46 ?_
      replace hF := gd_use hF
      obtain ⟨q3, hF⟩ := hF
      refine v_iald rfl q3 dX0_sumWithLot_47 ?_
      refine v_iadd dX0_sumWithLot_48 ?_
      obtain ⟨rfl, rfl⟩ := ret_use hF
      exact v_iret rfl dX0_sumWithLot_49
    · replace hF := brF q hF
      refine v_iconst (v := (-1)) dX0_sumWithLot_26 (by decide) ?_
      obtain ⟨rfl, rfl⟩ := ret_use hF
      exact v_iret rfl dX0_sumWithLot_27
theorem dX0_bestWithLot_0 : decode cX0_bestWithLot 0 = .ok (.iconst (-1), 1) := by decide +kernel
theorem dX0_bestWithLot_1 : decode cX0_bestWithLot 1 = .ok (.istore_n 3, 1) := by decide +kernel
theorem dX0_bestWithLot_2 : decode cX0_bestWithLot 2 = .ok (.iconst 0, 1) := by decide +kernel
theorem dX0_bestWithLot_3 : decode cX0_bestWithLot 3 = .ok (.istore 4, 2) := by decide +kernel
theorem dX0_bestWithLot_5 : decode cX0_bestWithLot 5 = .ok (.iload 4, 2) := by decide +kernel
theorem dX0_bestWithLot_7 : decode cX0_bestWithLot 7 = .ok (.aload_n 0, 1) := by decide +kernel
theorem dX0_bestWithLot_8 : decode cX0_bestWithLot 8 = .ok (.getfield 42, 3) := by decide +kernel
theorem dX0_bestWithLot_11 : decode cX0_bestWithLot 11 = .ok (.if_icmp .ge 22, 3) := by decide +kernel
theorem dX0_bestWithLot_14 : decode cX0_bestWithLot 14 = .ok (.iload_n 3, 1) := by decide +kernel
theorem dX0_bestWithLot_15 : decode cX0_bestWithLot 15 = .ok (.aload_n 0, 1) := by decide +kernel
theorem dX0_bestWithLot_16 : decode cX0_bestWithLot 16 = .ok (.iload_n 1, 1) := by decide +kernel
theorem dX0_bestWithLot_17 : decode cX0_bestWithLot 17 = .ok (.iload 4, 2) := by decide +kernel
theorem dX0_bestWithLot_19 : decode cX0_bestWithLot 19 = .ok (.iload_n 2, 1) := by decide +kernel
theorem dX0_bestWithLot_20 : decode cX0_bestWithLot 20 = .ok (.invokevirtual 89, 3) := by decide +kernel
theorem dX0_bestWithLot_23 : decode cX0_bestWithLot 23 = .ok (.invokestatic 84, 3) := by decide +kernel
theorem dX0_bestWithLot_26 : decode cX0_bestWithLot 26 = .ok (.istore_n 3, 1) := by decide +kernel
theorem dX0_bestWithLot_27 : decode cX0_bestWithLot 27 = .ok (.iinc 4 1, 3) := by decide +kernel
theorem dX0_bestWithLot_30 : decode cX0_bestWithLot 30 = .ok (.goto (-25), 3) := by decide +kernel
theorem dX0_bestWithLot_33 : decode cX0_bestWithLot 33 = .ok (.iload_n 3, 1) := by decide +kernel
theorem dX0_bestWithLot_34 : decode cX0_bestWithLot 34 = .ok (.ireturn, 1) := by decide +kernel
def fX0_bestWithLot_L5 : Nat → Int32 → Int32 → Int32 → Int32 → Hp → Option ((Int32 × Int32) × Hp)
  | 0, _, _, _, _, _ => none
  | n + 1, a1, a2, a3, a4, h => br ((gI h 0 0 0) ≤ a4) (some ((a3, a4), h)) (bd (fX0_sumWithLot a1 a4 a2 h) (fun r1 h2 => lb (mxI a3 r1) (fun v3 => lb (a4 + 1) (fun v4 => fX0_bestWithLot_L5 n a1 a2 v3 v4 h2))))
def fX0_bestWithLot (a1 : Int32) (a2 : Int32) (h : Hp) : Option (Int32 × Hp) := bd (fX0_bestWithLot_L5 FU a1 a2 (-1) 0 h) (fun t6 h5 => lb t6.1 (fun v7 => lb t6.2 (fun v8 => some (v7, h5))))
set_option maxRecDepth 20000 in
theorem tX0_bestWithLot_L5 {X : Cz} {h0 : Hp} {r : Option AV} {hE : Hp} : ∀ (n : Nat) (a1 : Int32) (a2 : Int32) (a3 : Int32) (a4 : Int32) (h : Hp) (z : (Int32 × Int32) × Hp), fX0_bestWithLot_L5 n a1 a2 a3 a4 h = some z → V X mX0_bestWithLot true h0 33 [(0, zr 0 0), (1, zi a1), (2, zi a2), (3, zi z.1.1), (4, zi z.1.2)] [] z.2 r hE → V X mX0_bestWithLot true h0 5 [(0, zr 0 0), (1, zi a1), (2, zi a2), (3, zi a3), (4, zi a4)] [] h r hE := by
  intro n
  induction n with
  | zero => intro a1 a2 a3 a4 h z hF k; cases hF
  | succ n ih =>
    intro a1 a2 a3 a4 h z hF k
    rw [fX0_bestWithLot_L5] at hF
    refine v_iload (j := 4) dX0_bestWithLot_5 rfl ?_
    refine v_aload_n (j := 0) dX0_bestWithLot_7 rfl ?_
    refine v_getI (c := 0) rfl (Or.inl rfl) cz0 flX0_42 dX0_bestWithLot_8 ?_
    refine v_icmp_ge dX0_bestWithLot_11 (by decide : _ = ((33 : Nat) : Int)) (fun q => ?_) (fun q => ?_)
    · replace hF := brT q hF
      cases hF
      exact k
    · replace hF := brF q hF
      refine v_iload_n (j := 3) dX0_bestWithLot_14 rfl ?_
      refine v_aload_n (j := 0) dX0_bestWithLot_15 rfl ?_
      refine v_iload_n (j := 1) dX0_bestWithLot_16 rfl ?_
      refine v_iload (j := 4) dX0_bestWithLot_17 rfl ?_
      refine v_iload_n (j := 2) dX0_bestWithLot_19 rfl ?_
      replace hF := bd_use hF
      obtain ⟨r1, h2, er1, hF⟩ := hF
      refine v_cV (hm := h2) (av := [zi a1, zi a4, zi a2]) (st := [zi a3]) (stn := [zi r1, zi a3]) (tX0_sumWithLot er1) lcX0_sumWithLot mlX0_89 imX0_sumWithLot seX0_sumWithLot rfl rfl rfl rfl ⟨by decide, by decide⟩ (Nat.le_of_ble_eq_true rfl) dX0_bestWithLot_20 rfl rfl ?_
      clear er1
      refine v_J9_max_7cf53 mlX0_84 (by decide) (Nat.le_of_ble_eq_true rfl) dX0_bestWithLot_23 ?_
      refine v_topi fun v3 ev3 => ?_
      replace hF := lb_use ev3 hF
      clear ev3
      refine v_istore_n (ls' := [(3, zi v3), (0, zr 0 0), (1, zi a1), (2, zi a2), (4, zi a4)]) dX0_bestWithLot_26 (by decide) rfl ?_
      obtain ⟨v4, ev4⟩ : ∃ y : Int32, y = a4 + 1 := ⟨_, rfl⟩
      replace hF := lb_use ev4 hF
      refine v_iinc (j := 4) (v := v4) (ls' := [(4, zi v4), (3, zi v3), (0, zr 0 0), (1, zi a1), (2, zi a2)]) dX0_bestWithLot_27 rfl (by rw [ev4]; rfl) (by decide) rfl ?_
      clear ev4
      refine v_goto (tgt := 5) dX0_bestWithLot_30 (by decide) ?_
      refine v_sub [2, 3, 4, 1, 0] rfl ?_
      exact ih a1 a2 v3 v4 h2 _ hF k
set_option maxRecDepth 20000 in
theorem tX0_bestWithLot {X : Cz} {a1 : Int32} {a2 : Int32} {h hE : Hp} {rE : Int32} (hF : fX0_bestWithLot a1 a2 h = some (rE, hE)) : Ct X mX0_bestWithLot true [zr 0 0, zi a1, zi a2] h (some (zi rE)) hE := by
  refine Ct_of (by decide) (Nat.le_of_ble_eq_true rfl) (ls := [(0, zr 0 0), (1, zi a1), (2, zi a2)]) rfl ?_
  unfold fX0_bestWithLot at hF
  refine v_iconst (v := (-1)) dX0_bestWithLot_0 (by decide) ?_
  refine v_istore_n (ls' := [(3, zi (-1)), (0, zr 0 0), (1, zi a1), (2, zi a2)]) dX0_bestWithLot_1 (by decide) rfl ?_
  refine v_iconst (v := 0) dX0_bestWithLot_2 (by decide) ?_
  refine v_istore (ls' := [(4, zi 0), (3, zi (-1)), (0, zr 0 0), (1, zi a1), (2, zi a2)]) dX0_bestWithLot_3 (by decide) rfl ?_
  refine v_sub [2, 3, 4, 1, 0] rfl ?_
  replace hF := bd_use hF
  obtain ⟨t6, h5, et6, hF⟩ := hF
  refine tX0_bestWithLot_L5 _ a1 a2 (-1) 0 h _ et6 ?_
  clear et6
  obtain ⟨v7, v8⟩ := t6
  replace hF := lb_use (x := v7) rfl hF
  replace hF := lb_use (x := v8) rfl hF
  refine v_iload_n (j := 3) dX0_bestWithLot_33 rfl ?_
  obtain ⟨rfl, rfl⟩ := ret_use hF
  exact v_iret rfl dX0_bestWithLot_34
theorem dX0_fillBest_0 : decode cX0_fillBest 0 = .ok (.aload_n 0, 1) := by decide +kernel
theorem dX0_fillBest_1 : decode cX0_fillBest 1 = .ok (.getfield 27, 3) := by decide +kernel
theorem dX0_fillBest_4 : decode cX0_fillBest 4 = .ok (.sipush 3072, 3) := by decide +kernel
theorem dX0_fillBest_7 : decode cX0_fillBest 7 = .ok (.aload_n 0, 1) := by decide +kernel
theorem dX0_fillBest_8 : decode cX0_fillBest 8 = .ok (.getfield 27, 3) := by decide +kernel
theorem dX0_fillBest_11 : decode cX0_fillBest 11 = .ok (.arraylength, 1) := by decide +kernel
theorem dX0_fillBest_12 : decode cX0_fillBest 12 = .ok (.iconst 0, 1) := by decide +kernel
theorem dX0_fillBest_13 : decode cX0_fillBest 13 = .ok (.invokestatic 78, 3) := by decide +kernel
theorem dX0_fillBest_16 : decode cX0_fillBest 16 = .ok (.bipush 11, 2) := by decide +kernel
theorem dX0_fillBest_18 : decode cX0_fillBest 18 = .ok (.istore_n 1, 1) := by decide +kernel
theorem dX0_fillBest_19 : decode cX0_fillBest 19 = .ok (.iload_n 1, 1) := by decide +kernel
theorem dX0_fillBest_20 : decode cX0_fillBest 20 = .ok (.ifCond .lt 64, 3) := by decide +kernel
theorem dX0_fillBest_23 : decode cX0_fillBest 23 = .ok (.iconst 0, 1) := by decide +kernel
theorem dX0_fillBest_24 : decode cX0_fillBest 24 = .ok (.istore_n 2, 1) := by decide +kernel
theorem dX0_fillBest_25 : decode cX0_fillBest 25 = .ok (.iload_n 2, 1) := by decide +kernel
theorem dX0_fillBest_26 : decode cX0_fillBest 26 = .ok (.iconst 1, 1) := by decide +kernel
theorem dX0_fillBest_27 : decode cX0_fillBest 27 = .ok (.aload_n 0, 1) := by decide +kernel
theorem dX0_fillBest_28 : decode cX0_fillBest 28 = .ok (.getfield 42, 3) := by decide +kernel
theorem dX0_fillBest_31 : decode cX0_fillBest 31 = .ok (.ishl, 1) := by decide +kernel
theorem dX0_fillBest_32 : decode cX0_fillBest 32 = .ok (.if_icmp .ge 46, 3) := by decide +kernel
theorem dX0_fillBest_35 : decode cX0_fillBest 35 = .ok (.aload_n 0, 1) := by decide +kernel
theorem dX0_fillBest_36 : decode cX0_fillBest 36 = .ok (.getfield 27, 3) := by decide +kernel
theorem dX0_fillBest_39 : decode cX0_fillBest 39 = .ok (.iload_n 1, 1) := by decide +kernel
theorem dX0_fillBest_40 : decode cX0_fillBest 40 = .ok (.iconst 1, 1) := by decide +kernel
theorem dX0_fillBest_41 : decode cX0_fillBest 41 = .ok (.iadd, 1) := by decide +kernel
theorem dX0_fillBest_42 : decode cX0_fillBest 42 = .ok (.sipush 256, 3) := by decide +kernel
theorem dX0_fillBest_45 : decode cX0_fillBest 45 = .ok (.imul, 1) := by decide +kernel
theorem dX0_fillBest_46 : decode cX0_fillBest 46 = .ok (.iload_n 2, 1) := by decide +kernel
theorem dX0_fillBest_47 : decode cX0_fillBest 47 = .ok (.iadd, 1) := by decide +kernel
theorem dX0_fillBest_48 : decode cX0_fillBest 48 = .ok (.iaload, 1) := by decide +kernel
theorem dX0_fillBest_49 : decode cX0_fillBest 49 = .ok (.istore_n 3, 1) := by decide +kernel
theorem dX0_fillBest_50 : decode cX0_fillBest 50 = .ok (.aload_n 0, 1) := by decide +kernel
theorem dX0_fillBest_51 : decode cX0_fillBest 51 = .ok (.getfield 27, 3) := by decide +kernel
theorem dX0_fillBest_54 : decode cX0_fillBest 54 = .ok (.iload_n 1, 1) := by decide +kernel
theorem dX0_fillBest_55 : decode cX0_fillBest 55 = .ok (.sipush 256, 3) := by decide +kernel
theorem dX0_fillBest_58 : decode cX0_fillBest 58 = .ok (.imul, 1) := by decide +kernel
theorem dX0_fillBest_59 : decode cX0_fillBest 59 = .ok (.iload_n 2, 1) := by decide +kernel
theorem dX0_fillBest_60 : decode cX0_fillBest 60 = .ok (.iadd, 1) := by decide +kernel
theorem dX0_fillBest_61 : decode cX0_fillBest 61 = .ok (.iload_n 3, 1) := by decide +kernel
theorem dX0_fillBest_62 : decode cX0_fillBest 62 = .ok (.aload_n 0, 1) := by decide +kernel
theorem dX0_fillBest_63 : decode cX0_fillBest 63 = .ok (.iload_n 1, 1) := by decide +kernel
theorem dX0_fillBest_64 : decode cX0_fillBest 64 = .ok (.iload_n 2, 1) := by decide +kernel
theorem dX0_fillBest_65 : decode cX0_fillBest 65 = .ok (.invokevirtual 81, 3) := by decide +kernel
theorem dX0_fillBest_68 : decode cX0_fillBest 68 = .ok (.invokestatic 84, 3) := by decide +kernel
theorem dX0_fillBest_71 : decode cX0_fillBest 71 = .ok (.iastore, 1) := by decide +kernel
theorem dX0_fillBest_72 : decode cX0_fillBest 72 = .ok (.iinc 2 1, 3) := by decide +kernel
theorem dX0_fillBest_75 : decode cX0_fillBest 75 = .ok (.goto (-50), 3) := by decide +kernel
theorem dX0_fillBest_78 : decode cX0_fillBest 78 = .ok (.iinc 1 (-1), 3) := by decide +kernel
theorem dX0_fillBest_81 : decode cX0_fillBest 81 = .ok (.goto (-62), 3) := by decide +kernel
theorem dX0_fillBest_84 : decode cX0_fillBest 84 = .ok (.return_, 1) := by decide +kernel
def fX0_fillBest_L25 : Nat → Int32 → Int32 → Hp → Option ((Int32) × Hp)
  | 0, _, _, _ => none
  | n + 1, a1, a2, h => br (((1 : Int32) <<< ((gI h 0 0 0) &&& 31)) ≤ a2) (some ((a2), h)) (gd (ib (((a1 + 1) * 256) + a2) 3328) (lb (gI h 18 0 (ix (((a1 + 1) * 256) + a2))) (fun v4 => bd (fX0_bestWithLot a1 a2 h) (fun r5 h6 => gd (ib ((a1 * 256) + a2) 3328) (lb (sI h6 18 0 (ix ((a1 * 256) + a2)) (mxI v4 r5)) (fun h8 => lb (a2 + 1) (fun v9 => fX0_fillBest_L25 n a1 v9 h8)))))))
def fX0_fillBest_L19 : Nat → Int32 → Hp → Option ((Int32) × Hp)
  | 0, _, _ => none
  | n + 1, a1, h => br (a1 < 0) (some ((a1), h)) (bd (fX0_fillBest_L25 FU a1 0 h) (fun v12 h10 => lb (a1 + (-1)) (fun v13 => fX0_fillBest_L19 n v13 h10)))
def fX0_fillBest (h : Hp) : Option (Unit × Hp) := gd (0 ≤ (3072 : Int32).toInt ∧ (3072 : Int32).toInt ≤ ((Int32.ofNat 3328)).toInt ∧ ((Int32.ofNat 3328)).toInt ≤ 3328) (lb (flI h 18 0 (ix 3072) (ix ((Int32.ofNat 3328))) 0) (fun h2 => bd (fX0_fillBest_L19 FU 11 h2) (fun v16 h14 => some ((), h14))))
set_option maxRecDepth 20000 in
theorem tX0_fillBest_L25 {X : Cz} {h0 : Hp} {r : Option AV} {hE : Hp} : ∀ (n : Nat) (a1 : Int32) (a2 : Int32) (h : Hp) (z : (Int32) × Hp), fX0_fillBest_L25 n a1 a2 h = some z → V X mX0_fillBest true h0 78 [(0, zr 0 0), (1, zi a1), (2, zi z.1)] [] z.2 r hE → V X mX0_fillBest true h0 25 [(0, zr 0 0), (1, zi a1), (2, zi a2)] [] h r hE := by
  intro n
  induction n with
  | zero => intro a1 a2 h z hF k; cases hF
  | succ n ih =>
    intro a1 a2 h z hF k
    rw [fX0_fillBest_L25] at hF
    refine v_iload_n (j := 2) dX0_fillBest_25 rfl ?_
    refine v_iconst (v := 1) dX0_fillBest_26 (by decide) ?_
    refine v_aload_n (j := 0) dX0_fillBest_27 rfl ?_
    refine v_getI (c := 0) rfl (Or.inl rfl) cz0 flX0_42 dX0_fillBest_28 ?_
    refine v_ishl dX0_fillBest_31 ?_
    refine v_icmp_ge dX0_fillBest_32 (by decide : _ = ((78 : Nat) : Int)) (fun q => ?_) (fun q => ?_)
    · replace hF := brT q hF
      cases hF
      exact k
    · replace hF := brF q hF
      refine v_aload_n (j := 0) dX0_fillBest_35 rfl ?_
      refine v_getL (c := 0) rfl rfl rfl ly0_6 cz0 flX0_27 dX0_fillBest_36 ?_
      refine v_iload_n (j := 1) dX0_fillBest_39 rfl ?_
      refine v_iconst (v := 1) dX0_fillBest_40 (by decide) ?_
      refine v_iadd dX0_fillBest_41 ?_
      refine v_sipush (v := 256) dX0_fillBest_42 (by decide) ?_
      refine v_imul dX0_fillBest_45 ?_
      refine v_iload_n (j := 2) dX0_fillBest_46 rfl ?_
      refine v_iadd dX0_fillBest_47 ?_
      replace hF := gd_use hF
      obtain ⟨q3, hF⟩ := hF
      refine v_iald rfl q3 dX0_fillBest_48 ?_
      refine v_topi fun v4 ev4 => ?_
      replace hF := lb_use ev4 hF
      clear ev4
      refine v_istore_n (ls' := [(3, zi v4), (0, zr 0 0), (1, zi a1), (2, zi a2)]) dX0_fillBest_49 (by decide) rfl ?_
      refine v_aload_n (j := 1) dX0_fillBest_50 rfl ?_
      refine v_getL (c := 0) rfl rfl rfl ly0_6 cz0 flX0_27 dX0_fillBest_51 ?_
      refine v_iload_n (j := 2) dX0_fillBest_54 rfl ?_
      refine v_sipush (v := 256) dX0_fillBest_55 (by decide) ?_
      refine v_imul dX0_fillBest_58 ?_
      refine v_iload_n (j := 3) dX0_fillBest_59 rfl ?_
      refine v_iadd dX0_fillBest_60 ?_
      refine v_iload_n (j := 0) dX0_fillBest_61 rfl ?_
      refine v_aload_n (j := 1) dX0_fillBest_62 rfl ?_
      refine v_iload_n (j := 2) dX0_fillBest_63 rfl ?_
      refine v_iload_n (j := 3) dX0_fillBest_64 rfl ?_
      replace hF := bd_use hF
      obtain ⟨r5, h6, er5, hF⟩ := hF
      refine v_cV (hm := h6) (av := [zi a1, zi a2]) (st := [zi v4, zi ((a1 * 256) + a2), zr 18 0]) (stn := [zi r5, zi v4, zi ((a1 * 256) + a2), zr 18 0]) (tX0_bestWithLot er5) lcX0_bestWithLot mlX0_81 imX0_bestWithLot seX0_bestWithLot rfl rfl rfl rfl ⟨by decide, by decide⟩ (Nat.le_of_ble_eq_true rfl) dX0_fillBest_65 rfl rfl ?_
      clear er5
      refine v_J9_max_7cf53 mlX0_84 (by decide) (Nat.le_of_ble_eq_true rfl) dX0_fillBest_68 ?_
      replace hF := gd_use hF
      obtain ⟨q7, hF⟩ := hF
      refine v_iast rfl q7 dX0_fillBest_71 ?_
      refine v_toph fun h8 eh8 => ?_
      replace hF := lb_use eh8 hF
      clear eh8
      obtain ⟨v9, ev9⟩ : ∃ y : Int32, y = a2 + 1 := ⟨_, rfl⟩
      replace hF := lb_use ev9 hF
      refine v_iinc (j := 3) (v := v9) (ls' := [(2, zi v9), (3, zi v4), (0, zr 0 0), (1, zi a1)]) dX0_fillBest_72 rfl (by rw [ev9]; rfl) (by decide) rfl ?_
      clear ev9
      refine v_goto (tgt := 25) dX0_fillBest_75 (by decide) ?_
      refine v_sub [2, 3, 0] rfl ?_
      exact ih a1 v9 h8 _ hF k
set_option maxRecDepth 20000 in
theorem tX0_fillBest_L19 {X : Cz} {h0 : Hp} {r : Option AV} {hE : Hp} : ∀ (n : Nat) (a1 : Int32) (h : Hp) (z : (Int32) × Hp), fX0_fillBest_L19 n a1 h = some z → V X mX0_fillBest true h0 84 [(0, zr 0 0), (1, zi z.1)] [] z.2 r hE → V X mX0_fillBest true h0 19 [(0, zr 0 0), (1, zi a1)] [] h r hE := by
  intro n
  induction n with
  | zero => intro a1 h z hF k; cases hF
  | succ n ih =>
    intro a1 h z hF k
    rw [fX0_fillBest_L19] at hF
    refine v_iload_n (j := 1) dX0_fillBest_19 rfl ?_
    refine v_if_lt dX0_fillBest_20 (by decide : _ = ((84 : Nat) : Int)) (fun q => ?_) (fun q => ?_)
    · replace hF := brT q hF
      cases hF
      exact k
    · replace hF := brF q hF
      refine v_iconst (v := 0) dX0_fillBest_23 (by decide) ?_
      refine v_istore_n (ls' := [(2, zi 0), (0, zr 0 0), (1, zi a1)]) dX0_fillBest_24 (by decide) rfl ?_
      refine v_sub [1, 2, 0] rfl ?_
      replace hF := bd_use hF
      obtain ⟨v12, h10, ev12, hF⟩ := hF
      refine tX0_fillBest_L25 _ a1 0 h _ ev12 ?_
      clear ev12
      obtain ⟨v13, ev13⟩ : ∃ y : Int32, y = a1 + (-1) := ⟨_, rfl⟩
      replace hF := lb_use ev13 hF
      refine v_iinc (j := 1) (v := v13) (ls' := [(1, zi v13), (0, zr 0 0), (2, zi v12)]) dX0_fillBest_78 rfl (by rw [ev13]; rfl) (by decide) rfl ?_
      clear ev13
      refine v_goto (tgt := 19) dX0_fillBest_81 (by decide) ?_
      refine v_sub [1, 0] rfl ?_
      exact ih v13 h10 _ hF k
set_option maxRecDepth 20000 in
theorem tX0_fillBest {X : Cz} {h hE : Hp} {rE : Unit} (hF : fX0_fillBest h = some (rE, hE)) : Ct X mX0_fillBest true [zr 0 0] h (none) hE := by
  refine Ct_of (by decide) (Nat.le_of_ble_eq_true rfl) (ls := [(0, zr 0 0)]) rfl ?_
  unfold fX0_fillBest at hF
  refine v_aload_n (j := 0) dX0_fillBest_0 rfl ?_
  refine v_getL (c := 0) rfl rfl rfl ly0_6 cz0 flX0_27 dX0_fillBest_1 ?_
  refine v_sipush (v := 3072) dX0_fillBest_4 (by decide) ?_
  refine v_aload_n (j := 0) dX0_fillBest_7 rfl ?_
  refine v_getL (c := 0) rfl rfl rfl ly0_6 cz0 flX0_27 dX0_fillBest_8 ?_
  refine v_alen rfl dX0_fillBest_11 ?_
  refine v_iconst (v := 0) dX0_fillBest_12 (by decide) ?_
  replace hF := gd_use hF
  obtain ⟨q1, hF⟩ := hF
  refine v_cS (av := [zr 18 0, zi 3072, zi ((Int32.ofNat 3328)), zi 0]) (st := []) (stn := []) (tJ7_fill_fda19 (n := 0) (k := 18) rfl (by decide) (3072 : Int32) ((Int32.ofNat 3328)) 0 h q1.1 q1.2.1 q1.2.2) lcJ7_fill_fda19 mlX0_78 sxJ7_fill_fda19 rfl ⟨by decide, by decide⟩ (Nat.le_of_ble_eq_true rfl) dX0_fillBest_13 rfl rfl ?_
  refine v_toph fun h2 eh2 => ?_
  replace hF := lb_use eh2 hF
  clear eh2
  refine v_bipush (v := 11) dX0_fillBest_16 (by decide) ?_
  refine v_istore_n (ls' := [(1, zi 11), (0, zr 0 0)]) dX0_fillBest_18 (by decide) rfl ?_
  refine v_sub [1, 0] rfl ?_
  replace hF := bd_use hF
  obtain ⟨v16, h14, ev16, hF⟩ := hF
  refine tX0_fillBest_L19 _ 11 h2 _ ev16 ?_
  clear ev16
  cases hF
  exact v_vret rfl dX0_fillBest_84
theorem dX0_leastLot_0 : decode cX0_leastLot 0 = .ok (.iconst 0, 1) := by decide +kernel
theorem dX0_leastLot_1 : decode cX0_leastLot 1 = .ok (.istore_n 3, 1) := by decide +kernel
theorem dX0_leastLot_2 : decode cX0_leastLot 2 = .ok (.iload_n 3, 1) := by decide +kernel
theorem dX0_leastLot_3 : decode cX0_leastLot 3 = .ok (.aload_n 0, 1) := by decide +kernel
theorem dX0_leastLot_4 : decode cX0_leastLot 4 = .ok (.getfield 42, 3) := by decide +kernel
theorem dX0_leastLot_7 : decode cX0_leastLot 7 = .ok (.if_icmp .ge 33, 3) := by decide +kernel
theorem dX0_leastLot_10 : decode cX0_leastLot 10 = .ok (.aload_n 0, 1) := by decide +kernel
theorem dX0_leastLot_11 : decode cX0_leastLot 11 = .ok (.iload_n 1, 1) := by decide +kernel
theorem dX0_leastLot_12 : decode cX0_leastLot 12 = .ok (.iload_n 3, 1) := by decide +kernel
theorem dX0_leastLot_13 : decode cX0_leastLot 13 = .ok (.iload_n 2, 1) := by decide +kernel
theorem dX0_leastLot_14 : decode cX0_leastLot 14 = .ok (.invokevirtual 89, 3) := by decide +kernel
theorem dX0_leastLot_17 : decode cX0_leastLot 17 = .ok (.aload_n 0, 1) := by decide +kernel
theorem dX0_leastLot_18 : decode cX0_leastLot 18 = .ok (.getfield 27, 3) := by decide +kernel
theorem dX0_leastLot_21 : decode cX0_leastLot 21 = .ok (.iload_n 1, 1) := by decide +kernel
theorem dX0_leastLot_22 : decode cX0_leastLot 22 = .ok (.sipush 256, 3) := by decide +kernel
theorem dX0_leastLot_25 : decode cX0_leastLot 25 = .ok (.imul, 1) := by decide +kernel
theorem dX0_leastLot_26 : decode cX0_leastLot 26 = .ok (.iload_n 2, 1) := by decide +kernel
theorem dX0_leastLot_27 : decode cX0_leastLot 27 = .ok (.iadd, 1) := by decide +kernel
theorem dX0_leastLot_28 : decode cX0_leastLot 28 = .ok (.iaload, 1) := by decide +kernel
theorem dX0_leastLot_29 : decode cX0_leastLot 29 = .ok (.if_icmp .ne 5, 3) := by decide +kernel
theorem dX0_leastLot_32 : decode cX0_leastLot 32 = .ok (.iload_n 3, 1) := by decide +kernel
theorem dX0_leastLot_33 : decode cX0_leastLot 33 = .ok (.ireturn, 1) := by decide +kernel
theorem dX0_leastLot_34 : decode cX0_leastLot 34 = .ok (.iinc 3 1, 3) := by decide +kernel
theorem dX0_leastLot_37 : decode cX0_leastLot 37 = .ok (.goto (-35), 3) := by decide +kernel
theorem dX0_leastLot_40 : decode cX0_leastLot 40 = .ok (.iconst (-1), 1) := by decide +kernel
theorem dX0_leastLot_41 : decode cX0_leastLot 41 = .ok (.ireturn, 1) := by decide +kernel
def fX0_leastLot_L2 : Nat → Int32 → Int32 → Int32 → Hp → Option ((Int32 ⊕ Int32) × Hp)
  | 0, _, _, _, _ => none
  | n + 1, a1, a2, a3, h => br ((gI h 0 0 0) ≤ a3) (some (.inr (a3), h)) (bd (fX0_sumWithLot a1 a3 a2 h) (fun r1 h2 => gd (ib ((a1 * 256) + a2) 3328) (br (r1 = (gI h2 18 0 (ix ((a1 * 256) + a2)))) (some (.inl a3, h2)) (lb (a3 + 1) (fun v4 => fX0_leastLot_L2 n a1 a2 v4 h2)))))
def fX0_leastLot (a1 : Int32) (a2 : Int32) (h : Hp) : Option (Int32 × Hp) := bd (fX0_leastLot_L2 FU a1 a2 0 h) (fun u8 h5 => ms u8 (fun r9 => some (r9, h5)) (fun v7 => some ((-1), h5)))
set_option maxRecDepth 20000 in
theorem tX0_leastLot_L2 {X : Cz} {h0 : Hp} {r : Option AV} {hE : Hp} : ∀ (n : Nat) (a1 : Int32) (a2 : Int32) (a3 : Int32) (h : Hp) (z : (Int32 ⊕ Int32) × Hp), fX0_leastLot_L2 n a1 a2 a3 h = some z → lk z r hE (fun v => some (zi v)) (fun t hx => V X mX0_leastLot true h0 40 [(0, zr 0 0), (1, zi a1), (2, zi a2), (3, zi t)] [] hx r hE) → V X mX0_leastLot true h0 2 [(0, zr 0 0), (1, zi a1), (2, zi a2), (3, zi a3)] [] h r hE := by
  intro n
  induction n with
  | zero => intro a1 a2 a3 h z hF k; cases hF
  | succ n ih =>
    intro a1 a2 a3 h z hF k
    rw [fX0_leastLot_L2] at hF
    refine v_iload_n (j := 3) dX0_leastLot_2 rfl ?_
    refine v_aload_n (j := 0) dX0_leastLot_3 rfl ?_
    refine v_getI (c := 0) rfl (Or.inl rfl) cz0 flX0_42 dX0_leastLot_4 ?_
    refine v_icmp_ge dX0_leastLot_7 (by decide : _ = ((40 : Nat) : Int)) (fun q => ?_) (fun q => ?_)
    · replace hF := brT q hF
      cases hF
      exact k
    · replace hF := brF q hF
      refine v_aload_n (j := 0) dX0_leastLot_10 rfl ?_
      refine v_iload_n (j := 1) dX0_leastLot_11 rfl ?_
      refine v_iload_n (j := 3) dX0_leastLot_12 rfl ?_
      refine v_iload_n (j := 2) dX0_leastLot_13 rfl ?_
      replace hF := bd_use hF
      obtain ⟨r1, h2, er1, hF⟩ := hF
      refine v_cV (hm := h2) (av := [zi a1, zi a3, zi a2]) (st := []) (stn := [zi r1]) (tX0_sumWithLot er1) lcX0_sumWithLot mlX0_89 imX0_sumWithLot seX0_sumWithLot rfl rfl rfl rfl ⟨by decide, by decide⟩ (Nat.le_of_ble_eq_true rfl) dX0_leastLot_14 rfl rfl ?_
      clear er1
      refine v_aload_n (j := 0) dX0_leastLot_17 rfl ?_
      refine v_getL (c := 0) rfl rfl rfl ly0_6 cz0 flX0_27 dX0_leastLot_18 ?_
      refine v_iload_n (j := 1) dX0_leastLot_21 rfl ?_
      refine v_sipush (v := 256) dX0_leastLot_22 (by decide) ?_
      refine v_imul dX0_leastLot_25 ?_
      refine v_iload_n (j := 2) dX0_leastLot_26 rfl ?_
      refine v_iadd dX0_leastLot_27 ?_
      replace hF := gd_use hF
      obtain ⟨q3, hF⟩ := hF
      refine v_iald rfl q3 dX0_leastLot_28 ?_
      refine v_icmp_ne dX0_leastLot_29 (by decide : _ = ((34 : Nat) : Int)) (fun q => ?_) (fun q => ?_)
      · replace hF := brF q hF
        obtain ⟨v4, ev4⟩ : ∃ y : Int32, y = a3 + 1 := ⟨_, rfl⟩
        replace hF := lb_use ev4 hF
        refine v_iinc (j := 3) (v := v4) (ls' := [(3, zi v4), (0, zr 0 0), (1, zi a1), (2, zi a2)]) dX0_leastLot_34 rfl (by rw [ev4]; rfl) (by decide) rfl ?_
        clear ev4
        refine v_goto (tgt := 2) dX0_leastLot_37 (by decide) ?_
        refine v_sub [1, 2, 3, 0] rfl ?_
        exact ih a1 a2 v4 h2 _ hF k
      · replace hF := brT (Decidable.not_not.mp q) hF
        refine v_iload_n (j := 3) dX0_leastLot_32 rfl ?_
        cases hF
        obtain ⟨rfl, rfl⟩ := (k : _ ∧ _)
        exact v_iret rfl dX0_leastLot_33
set_option maxRecDepth 20000 in
theorem tX0_leastLot {X : Cz} {a1 : Int32} {a2 : Int32} {h hE : Hp} {rE : Int32} (hF : fX0_leastLot a1 a2 h = some (rE, hE)) : Ct X mX0_leastLot true [zr 0 0, zi a1, zi a2] h (some (zi rE)) hE := by
  refine Ct_of (by decide) (Nat.le_of_ble_eq_true rfl) (ls := [(0, zr 0 0), (1, zi a1), (2, zi a2)]) rfl ?_
  unfold fX0_leastLot at hF
  refine v_iconst (v := 0) dX0_leastLot_0 (by decide) ?_
  refine v_istore_n (ls' := [(3, zi 0), (0, zr 0 0), (1, zi a1), (2, zi a2)]) dX0_leastLot_1 (by decide) rfl ?_
  refine v_sub [1, 2, 3, 0] rfl ?_
  replace hF := bd_use hF
  obtain ⟨u8, h5, ev7, hF⟩ := hF
  rcases u8 with r9 | v7
  · obtain ⟨rfl, rfl⟩ := ret_use hF
    exact tX0_leastLot_L2 _ a1 a2 0 h _ ev7 ⟨rfl, rfl⟩
  replace hF := msR hF
  refine tX0_leastLot_L2 _ a1 a2 0 h _ ev7 ?_
  clear ev7
  refine v_iconst (v := (-1)) dX0_leastLot_40 (by decide) ?_
  obtain ⟨rfl, rfl⟩ := ret_use hF
  exact v_iret rfl dX0_leastLot_41
theorem dX0_findWinners_0 : decode cX0_findWinners 0 = .ok (.aload_n 0, 1) := by decide +kernel
theorem dX0_findWinners_1 : decode cX0_findWinners 1 = .ok (.invokevirtual 50, 3) := by decide +kernel
theorem dX0_findWinners_4 : decode cX0_findWinners 4 = .ok (.iconst 0, 1) := by decide +kernel
theorem dX0_findWinners_5 : decode cX0_findWinners 5 = .ok (.istore_n 1, 1) := by decide +kernel
theorem dX0_findWinners_6 : decode cX0_findWinners 6 = .ok (.iconst 0, 1) := by decide +kernel
theorem dX0_findWinners_7 : decode cX0_findWinners 7 = .ok (.istore_n 2, 1) := by decide +kernel
theorem dX0_findWinners_8 : decode cX0_findWinners 8 = .ok (.iconst 0, 1) := by decide +kernel
theorem dX0_findWinners_9 : decode cX0_findWinners 9 = .ok (.istore_n 3, 1) := by decide +kernel
theorem dX0_findWinners_10 : decode cX0_findWinners 10 = .ok (.iload_n 3, 1) := by decide +kernel
theorem dX0_findWinners_11 : decode cX0_findWinners 11 = .ok (.bipush 12, 2) := by decide +kernel
theorem dX0_findWinners_13 : decode cX0_findWinners 13 = .ok (.if_icmp .ge 45, 3) := by decide +kernel
theorem dX0_findWinners_16 : decode cX0_findWinners 16 = .ok (.aload_n 0, 1) := by decide +kernel
theorem dX0_findWinners_17 : decode cX0_findWinners 17 = .ok (.getfield 33, 3) := by decide +kernel
theorem dX0_findWinners_20 : decode cX0_findWinners 20 = .ok (.iload_n 3, 1) := by decide +kernel
theorem dX0_findWinners_21 : decode cX0_findWinners 21 = .ok (.aload_n 0, 1) := by decide +kernel
theorem dX0_findWinners_22 : decode cX0_findWinners 22 = .ok (.iload_n 3, 1) := by decide +kernel
theorem dX0_findWinners_23 : decode cX0_findWinners 23 = .ok (.iload_n 1, 1) := by decide +kernel
theorem dX0_findWinners_24 : decode cX0_findWinners 24 = .ok (.invokevirtual 53, 3) := by decide +kernel
theorem dX0_findWinners_27 : decode cX0_findWinners 27 = .ok (.iastore, 1) := by decide +kernel
theorem dX0_findWinners_28 : decode cX0_findWinners 28 = .ok (.aload_n 0, 1) := by decide +kernel
theorem dX0_findWinners_29 : decode cX0_findWinners 29 = .ok (.getfield 33, 3) := by decide +kernel
theorem dX0_findWinners_32 : decode cX0_findWinners 32 = .ok (.iload_n 3, 1) := by decide +kernel
theorem dX0_findWinners_33 : decode cX0_findWinners 33 = .ok (.iaload, 1) := by decide +kernel
theorem dX0_findWinners_34 : decode cX0_findWinners 34 = .ok (.iconst (-1), 1) := by decide +kernel
theorem dX0_findWinners_35 : decode cX0_findWinners 35 = .ok (.if_icmp .eq 17, 3) := by decide +kernel
theorem dX0_findWinners_38 : decode cX0_findWinners 38 = .ok (.iload_n 1, 1) := by decide +kernel
theorem dX0_findWinners_39 : decode cX0_findWinners 39 = .ok (.iconst 1, 1) := by decide +kernel
theorem dX0_findWinners_40 : decode cX0_findWinners 40 = .ok (.aload_n 0, 1) := by decide +kernel
theorem dX0_findWinners_41 : decode cX0_findWinners 41 = .ok (.getfield 33, 3) := by decide +kernel
theorem dX0_findWinners_44 : decode cX0_findWinners 44 = .ok (.iload_n 3, 1) := by decide +kernel
theorem dX0_findWinners_45 : decode cX0_findWinners 45 = .ok (.iaload, 1) := by decide +kernel
theorem dX0_findWinners_46 : decode cX0_findWinners 46 = .ok (.ishl, 1) := by decide +kernel
theorem dX0_findWinners_47 : decode cX0_findWinners 47 = .ok (.ior, 1) := by decide +kernel
theorem dX0_findWinners_48 : decode cX0_findWinners 48 = .ok (.istore_n 1, 1) := by decide +kernel
theorem dX0_findWinners_49 : decode cX0_findWinners 49 = .ok (.iinc 2 1, 3) := by decide +kernel
theorem dX0_findWinners_52 : decode cX0_findWinners 52 = .ok (.iinc 3 1, 3) := by decide +kernel
theorem dX0_findWinners_55 : decode cX0_findWinners 55 = .ok (.goto (-45), 3) := by decide +kernel
theorem dX0_findWinners_58 : decode cX0_findWinners 58 = .ok (.iload_n 2, 1) := by decide +kernel
theorem dX0_findWinners_59 : decode cX0_findWinners 59 = .ok (.ireturn, 1) := by decide +kernel
def fX0_findWinners_L10 : Nat → Int32 → Int32 → Int32 → Hp → Option ((Int32 × Int32 × Int32) × Hp)
  | 0, _, _, _, _ => none
  | n + 1, a1, a2, a3, h => br (12 ≤ a3) (some ((a1, a2, a3), h)) (bd (fX0_leastLot a3 a1 h) (fun r3 h4 => gd (ib a3 12) (lb (sI h4 20 0 (ix a3) r3) (fun h6 => gd (ib a3 12) (br ((gI h6 20 0 (ix a3)) = (-1)) (lb (a3 + 1) (fun v8 => fX0_findWinners_L10 n a1 a2 v8 h6)) (gd (ib a3 12) (lb (a1 ||| ((1 : Int32) <<< ((gI h6 20 0 (ix a3)) &&& 31))) (fun v10 => lb (a2 + 1) (fun v11 => lb (a3 + 1) (fun v12 => fX0_findWinners_L10 n v10 v11 v12 h6))))))))))
def fX0_findWinners (h : Hp) : Option (Int32 × Hp) := bd (fX0_fillBest h) (fun r1 h2 => bd (fX0_findWinners_L10 FU 0 0 0 h2) (fun t14 h13 => lb t14.1 (fun v15 => lb t14.2.1 (fun v16 => lb t14.2.2 (fun v17 => some (v16, h13))))))
set_option maxRecDepth 20000 in
theorem tX0_findWinners_L10 {X : Cz} {h0 : Hp} {r : Option AV} {hE : Hp} : ∀ (n : Nat) (a1 : Int32) (a2 : Int32) (a3 : Int32) (h : Hp) (z : (Int32 × Int32 × Int32) × Hp), fX0_findWinners_L10 n a1 a2 a3 h = some z → V X mX0_findWinners true h0 58 [(0, zr 0 0), (1, zi z.1.1), (2, zi z.1.2.1), (3, zi z.1.2.2)] [] z.2 r hE → V X mX0_findWinners true h0 10 [(0, zr 0 0), (1, zi a1), (2, zi a2), (3, zi a3)] [] h r hE := by
  intro n
  induction n with
  | zero => intro a1 a2 a3 h z hF k; cases hF
  | succ n ih =>
    intro a1 a2 a3 h z hF k
    rw [fX0_findWinners_L10] at hF
    refine v_iload_n (j := 3) dX0_findWinners_10 rfl ?_
    refine v_bipush (v := 12) dX0_findWinners_11 (by decide) ?_
    refine v_icmp_ge dX0_findWinners_13 (by decide : _ = ((58 : Nat) : Int)) (fun q => ?_) (fun q => ?_)
    · replace hF := brT q hF
      cases hF
      exact k
    · replace hF := brF q hF
      refine v_aload_n (j := 0) dX0_findWinners_16 rfl ?_
      refine v_getL (c := 0) rfl rfl rfl ly0_8 cz0 flX0_33 dX0_findWinners_17 ?_
      refine v_iload_n (j := 3) dX0_findWinners_20 rfl ?_
      refine v_aload_n (j := 0) dX0_findWinners_21 rfl ?_
      refine v_iload_n (j := 3) dX0_findWinners_22 rfl ?_
      refine v_iload_n (j := 1) dX0_findWinners_23 rfl ?_
      replace hF := bd_use hF
      obtain ⟨r3, h4, er3, hF⟩ := hF
      refine v_cV (hm := h4) (av := [zi a3, zi a1]) (st := [zi a3, zr 20 0]) (stn := [zi r3, zi a3, zr 20 0]) (tX0_leastLot er3) lcX0_leastLot mlX0_53 imX0_leastLot seX0_leastLot rfl rfl rfl rfl ⟨by decide, by decide⟩ (Nat.le_of_ble_eq_true rfl) dX0_findWinners_24 rfl rfl ?_
      clear er3
      replace hF := gd_use hF
      obtain ⟨q5, hF⟩ := hF
      refine v_iast rfl q5 dX0_findWinners_27 ?_
      refine v_toph fun h6 eh6 => ?_
      replace hF := lb_use eh6 hF
      clear eh6
      refine v_aload_n (j := 0) dX0_findWinners_28 rfl ?_
      refine v_getL (c := 0) rfl rfl rfl ly0_8 cz0 flX0_33 dX0_findWinners_29 ?_
      refine v_iload_n (j := 3) dX0_findWinners_32 rfl ?_
      replace hF := gd_use hF
      obtain ⟨q7, hF⟩ := hF
      refine v_iald rfl q7 dX0_findWinners_33 ?_
      refine v_iconst (v := (-1)) dX0_findWinners_34 (by decide) ?_
      refine v_icmp_eq dX0_findWinners_35 (by decide : _ = ((52 : Nat) : Int)) (fun q => ?_) (fun q => ?_)
      · replace hF := brT q hF
        obtain ⟨v8, ev8⟩ : ∃ y : Int32, y = a3 + 1 := ⟨_, rfl⟩
        replace hF := lb_use ev8 hF
        refine v_iinc (j := 3) (v := v8) (ls' := [(3, zi v8), (0, zr 0 0), (1, zi a1), (2, zi a2)]) dX0_findWinners_52 rfl (by rw [ev8]; rfl) (by decide) rfl ?_
        clear ev8
        refine v_goto (tgt := 10) dX0_findWinners_55 (by decide) ?_
        refine v_sub [1, 2, 3, 0] rfl ?_
        exact ih a1 a2 v8 h6 _ hF k
      · replace hF := brF q hF
        refine v_iload_n (j := 1) dX0_findWinners_38 rfl ?_
        refine v_iconst (v := 1) dX0_findWinners_39 (by decide) ?_
        refine v_aload_n (j := 0) dX0_findWinners_40 rfl ?_
        refine v_getL (c := 0) rfl rfl rfl ly0_8 cz0 flX0_33 dX0_findWinners_41 ?_
        refine v_iload_n (j := 3) dX0_findWinners_44 rfl ?_
        replace hF := gd_use hF
        obtain ⟨q9, hF⟩ := hF
        refine v_iald rfl q9 dX0_findWinners_45 ?_
        refine v_ishl dX0_findWinners_46 ?_
        refine v_ior dX0_findWinners_47 ?_
        refine v_topi fun v10 ev10 => ?_
        replace hF := lb_use ev10 hF
        clear ev10
        refine v_istore_n (ls' := [(1, zi v10), (0, zr 0 0), (2, zi a2), (3, zi a3)]) dX0_findWinners_48 (by decide) rfl ?_
        obtain ⟨v11, ev11⟩ : ∃ y : Int32, y = a2 + 1 := ⟨_, rfl⟩
        replace hF := lb_use ev11 hF
        refine v_iinc (j := 2) (v := v11) (ls' := [(2, zi v11), (1, zi v10), (0, zr 0 0), (3, zi a3)]) dX0_findWinners_49 rfl (by rw [ev11]; rfl) (by decide) rfl ?_
        clear ev11
        obtain ⟨v12, ev12⟩ : ∃ y : Int32, y = a3 + 1 := ⟨_, rfl⟩
        replace hF := lb_use ev12 hF
        refine v_iinc (j := 3) (v := v12) (ls' := [(3, zi v12), (2, zi v11), (1, zi v10), (0, zr 0 0)]) dX0_findWinners_52 rfl (by rw [ev12]; rfl) (by decide) rfl ?_
        clear ev12
        refine v_goto (tgt := 10) dX0_findWinners_55 (by decide) ?_
        refine v_sub [3, 2, 1, 0] rfl ?_
        exact ih v10 v11 v12 h6 _ hF k
set_option maxRecDepth 20000 in
theorem tX0_findWinners {X : Cz} {h hE : Hp} {rE : Int32} (hF : fX0_findWinners h = some (rE, hE)) : Ct X mX0_findWinners true [zr 0 0] h (some (zi rE)) hE := by
  refine Ct_of (by decide) (Nat.le_of_ble_eq_true rfl) (ls := [(0, zr 0 0)]) rfl ?_
  unfold fX0_findWinners at hF
  refine v_aload_n (j := 0) dX0_findWinners_0 rfl ?_
  replace hF := bd_use hF
  obtain ⟨r1, h2, er1, hF⟩ := hF
  refine v_cV (hm := h2) (av := []) (st := []) (stn := []) (tX0_fillBest er1) lcX0_fillBest mlX0_50 imX0_fillBest seX0_fillBest rfl rfl rfl rfl ⟨by decide, by decide⟩ (Nat.le_of_ble_eq_true rfl) dX0_findWinners_1 rfl rfl ?_
  clear er1
  refine v_iconst (v := 0) dX0_findWinners_4 (by decide) ?_
  refine v_istore_n (ls' := [(1, zi 0), (0, zr 0 0)]) dX0_findWinners_5 (by decide) rfl ?_
  refine v_iconst (v := 0) dX0_findWinners_6 (by decide) ?_
  refine v_istore_n (ls' := [(2, zi 0), (1, zi 0), (0, zr 0 0)]) dX0_findWinners_7 (by decide) rfl ?_
  refine v_iconst (v := 0) dX0_findWinners_8 (by decide) ?_
  refine v_istore_n (ls' := [(3, zi 0), (2, zi 0), (1, zi 0), (0, zr 0 0)]) dX0_findWinners_9 (by decide) rfl ?_
  refine v_sub [3, 2, 1, 0] rfl ?_
  replace hF := bd_use hF
  obtain ⟨t14, h13, et14, hF⟩ := hF
  refine tX0_findWinners_L10 _ 0 0 0 h2 _ et14 ?_
  clear et14
  obtain ⟨v15, v16, v17⟩ := t14
  replace hF := lb_use (x := v15) rfl hF
  replace hF := lb_use (x := v16) rfl hF
  replace hF := lb_use (x := v17) rfl hF
  refine v_iload_n (j := 2) dX0_findWinners_58 rfl ?_
  obtain ⟨rfl, rfl⟩ := ret_use hF
  exact v_iret rfl dX0_findWinners_59
theorem dX0_bestWithout_0 : decode cX0_bestWithout 0 = .ok (.iconst 0, 1) := by decide +kernel
theorem dX0_bestWithout_1 : decode cX0_bestWithout 1 = .ok (.istore_n 2, 1) := by decide +kernel
theorem dX0_bestWithout_2 : decode cX0_bestWithout 2 = .ok (.iconst 0, 1) := by decide +kernel
theorem dX0_bestWithout_3 : decode cX0_bestWithout 3 = .ok (.istore_n 3, 1) := by decide +kernel
theorem dX0_bestWithout_4 : decode cX0_bestWithout 4 = .ok (.iload_n 3, 1) := by decide +kernel
theorem dX0_bestWithout_5 : decode cX0_bestWithout 5 = .ok (.iconst 1, 1) := by decide +kernel
theorem dX0_bestWithout_6 : decode cX0_bestWithout 6 = .ok (.aload_n 0, 1) := by decide +kernel
theorem dX0_bestWithout_7 : decode cX0_bestWithout 7 = .ok (.getfield 42, 3) := by decide +kernel
theorem dX0_bestWithout_10 : decode cX0_bestWithout 10 = .ok (.ishl, 1) := by decide +kernel
theorem dX0_bestWithout_11 : decode cX0_bestWithout 11 = .ok (.if_icmp .ge 35, 3) := by decide +kernel
theorem dX0_bestWithout_14 : decode cX0_bestWithout 14 = .ok (.iload_n 2, 1) := by decide +kernel
theorem dX0_bestWithout_15 : decode cX0_bestWithout 15 = .ok (.aload_n 0, 1) := by decide +kernel
theorem dX0_bestWithout_16 : decode cX0_bestWithout 16 = .ok (.getfield 30, 3) := by decide +kernel
theorem dX0_bestWithout_19 : decode cX0_bestWithout 19 = .ok (.iload_n 3, 1) := by decide +kernel
theorem dX0_bestWithout_20 : decode cX0_bestWithout 20 = .ok (.iaload, 1) := by decide +kernel
theorem dX0_bestWithout_21 : decode cX0_bestWithout 21 = .ok (.aload_n 0, 1) := by decide +kernel
theorem dX0_bestWithout_22 : decode cX0_bestWithout 22 = .ok (.getfield 27, 3) := by decide +kernel
theorem dX0_bestWithout_25 : decode cX0_bestWithout 25 = .ok (.iload_n 1, 1) := by decide +kernel
theorem dX0_bestWithout_26 : decode cX0_bestWithout 26 = .ok (.iconst 1, 1) := by decide +kernel
theorem dX0_bestWithout_27 : decode cX0_bestWithout 27 = .ok (.iadd, 1) := by decide +kernel
theorem dX0_bestWithout_28 : decode cX0_bestWithout 28 = .ok (.sipush 256, 3) := by decide +kernel
theorem dX0_bestWithout_31 : decode cX0_bestWithout 31 = .ok (.imul, 1) := by decide +kernel
theorem dX0_bestWithout_32 : decode cX0_bestWithout 32 = .ok (.iload_n 3, 1) := by decide +kernel
theorem dX0_bestWithout_33 : decode cX0_bestWithout 33 = .ok (.iadd, 1) := by decide +kernel
theorem dX0_bestWithout_34 : decode cX0_bestWithout 34 = .ok (.iaload, 1) := by decide +kernel
theorem dX0_bestWithout_35 : decode cX0_bestWithout 35 = .ok (.iadd, 1) := by decide +kernel
theorem dX0_bestWithout_36 : decode cX0_bestWithout 36 = .ok (.invokestatic 84, 3) := by decide +kernel
theorem dX0_bestWithout_39 : decode cX0_bestWithout 39 = .ok (.istore_n 2, 1) := by decide +kernel
theorem dX0_bestWithout_40 : decode cX0_bestWithout 40 = .ok (.iinc 3 1, 3) := by decide +kernel
theorem dX0_bestWithout_43 : decode cX0_bestWithout 43 = .ok (.goto (-39), 3) := by decide +kernel
theorem dX0_bestWithout_46 : decode cX0_bestWithout 46 = .ok (.iload_n 2, 1) := by decide +kernel
theorem dX0_bestWithout_47 : decode cX0_bestWithout 47 = .ok (.ireturn, 1) := by decide +kernel
def fX0_bestWithout_L4 : Nat → Int32 → Int32 → Int32 → Hp → Option ((Int32 × Int32) × Hp)
  | 0, _, _, _, _ => none
  | n + 1, a1, a2, a3, h => br (((1 : Int32) <<< ((gI h 0 0 0) &&& 31)) ≤ a3) (some ((a2, a3), h)) (gd (ib a3 256) (gd (ib (((a1 + 1) * 256) + a3) 3328) (lb (mxI a2 ((gI h 19 0 (ix a3)) + (gI h 18 0 (ix (((a1 + 1) * 256) + a3))))) (fun v3 => lb (a3 + 1) (fun v4 => fX0_bestWithout_L4 n a1 v3 v4 h)))))
def fX0_bestWithout (a1 : Int32) (h : Hp) : Option (Int32 × Hp) := bd (fX0_bestWithout_L4 FU a1 0 0 h) (fun t6 h5 => lb t6.1 (fun v7 => lb t6.2 (fun v8 => some (v7, h5))))
set_option maxRecDepth 20000 in
theorem tX0_bestWithout_L4 {X : Cz} {h0 : Hp} {r : Option AV} {hE : Hp} : ∀ (n : Nat) (a1 : Int32) (a2 : Int32) (a3 : Int32) (h : Hp) (z : (Int32 × Int32) × Hp), fX0_bestWithout_L4 n a1 a2 a3 h = some z → V X mX0_bestWithout true h0 46 [(0, zr 0 0), (1, zi a1), (2, zi z.1.1), (3, zi z.1.2)] [] z.2 r hE → V X mX0_bestWithout true h0 4 [(0, zr 0 0), (1, zi a1), (2, zi a2), (3, zi a3)] [] h r hE := by
  intro n
  induction n with
  | zero => intro a1 a2 a3 h z hF k; cases hF
  | succ n ih =>
    intro a1 a2 a3 h z hF k
    rw [fX0_bestWithout_L4] at hF
    refine v_iload_n (j := 3) dX0_bestWithout_4 rfl ?_
    refine v_iconst (v := 1) dX0_bestWithout_5 (by decide) ?_
    refine v_aload_n (j := 0) dX0_bestWithout_6 rfl ?_
    refine v_getI (c := 0) rfl (Or.inl rfl) cz0 flX0_42 dX0_bestWithout_7 ?_
    refine v_ishl dX0_bestWithout_10 ?_
    refine v_icmp_ge dX0_bestWithout_11 (by decide : _ = ((46 : Nat) : Int)) (fun q => ?_) (fun q => ?_)
    · replace hF := brT q hF
      cases hF
      exact k
    · replace hF := brF q hF
      refine v_iload_n (j := 2) dX0_bestWithout_14 rfl ?_
      refine v_aload_n (j := 0) dX0_bestWithout_15 rfl ?_
      refine v_getL (c := 0) rfl rfl rfl ly0_7 cz0 flX0_30 dX0_bestWithout_16 ?_
      refine v_iload_n (j := 3) dX0_bestWithout_19 rfl ?_
      replace hF := gd_use hF
      obtain ⟨q1, hF⟩ := hF
      refine v_iald rfl q1 dX0_bestWithout_20 ?_
      refine v_aload_n (j := 0) dX0_bestWithout_21 rfl ?_
      refine v_getL (c := 0) rfl rfl rfl ly0_6 cz0 flX0_27 dX0_bestWithout_22 ?_
      refine v_iload_n (j := 1) dX0_bestWithout_25 rfl ?_
      refine v_iconst (v := 1) dX0_bestWithout_26 (by decide) ?_
      refine v_iadd dX0_bestWithout_27 ?_
      refine v_sipush (v := 256) dX0_bestWithout_28 (by decide) ?_
      refine v_imul dX0_bestWithout_31 ?_
      refine v_iload_n (j := 3) dX0_bestWithout_32 rfl ?_
      refine v_iadd dX0_bestWithout_33 ?_
      replace hF := gd_use hF
      obtain ⟨q2, hF⟩ := hF
      refine v_iald rfl q2 dX0_bestWithout_34 ?_
      refine v_iadd dX0_bestWithout_35 ?_
      refine v_J9_max_7cf53 mlX0_84 (by decide) (Nat.le_of_ble_eq_true rfl) dX0_bestWithout_36 ?_
      refine v_topi fun v3 ev3 => ?_
      replace hF := lb_use ev3 hF
      clear ev3
      refine v_istore_n (ls' := [(2, zi v3), (0, zr 0 0), (1, zi a1), (3, zi a3)]) dX0_bestWithout_39 (by decide) rfl ?_
      obtain ⟨v4, ev4⟩ : ∃ y : Int32, y = a3 + 1 := ⟨_, rfl⟩
      replace hF := lb_use ev4 hF
      refine v_iinc (j := 3) (v := v4) (ls' := [(3, zi v4), (2, zi v3), (0, zr 0 0), (1, zi a1)]) dX0_bestWithout_40 rfl (by rw [ev4]; rfl) (by decide) rfl ?_
      clear ev4
      refine v_goto (tgt := 4) dX0_bestWithout_43 (by decide) ?_
      refine v_sub [2, 3, 1, 0] rfl ?_
      exact ih a1 v3 v4 h _ hF k
set_option maxRecDepth 20000 in
theorem tX0_bestWithout {X : Cz} {a1 : Int32} {h hE : Hp} {rE : Int32} (hF : fX0_bestWithout a1 h = some (rE, hE)) : Ct X mX0_bestWithout true [zr 0 0, zi a1] h (some (zi rE)) hE := by
  refine Ct_of (by decide) (Nat.le_of_ble_eq_true rfl) (ls := [(0, zr 0 0), (1, zi a1)]) rfl ?_
  unfold fX0_bestWithout at hF
  refine v_iconst (v := 0) dX0_bestWithout_0 (by decide) ?_
  refine v_istore_n (ls' := [(2, zi 0), (0, zr 0 0), (1, zi a1)]) dX0_bestWithout_1 (by decide) rfl ?_
  refine v_iconst (v := 0) dX0_bestWithout_2 (by decide) ?_
  refine v_istore_n (ls' := [(3, zi 0), (2, zi 0), (0, zr 0 0), (1, zi a1)]) dX0_bestWithout_3 (by decide) rfl ?_
  refine v_sub [2, 3, 1, 0] rfl ?_
  replace hF := bd_use hF
  obtain ⟨t6, h5, et6, hF⟩ := hF
  refine tX0_bestWithout_L4 _ a1 0 0 h _ et6 ?_
  clear et6
  obtain ⟨v7, v8⟩ := t6
  replace hF := lb_use (x := v7) rfl hF
  replace hF := lb_use (x := v8) rfl hF
  refine v_iload_n (j := 2) dX0_bestWithout_46 rfl ?_
  obtain ⟨rfl, rfl⟩ := ret_use hF
  exact v_iret rfl dX0_bestWithout_47
theorem dX0_addAhead_0 : decode cX0_addAhead 0 = .ok (.iconst 1, 1) := by decide +kernel
theorem dX0_addAhead_1 : decode cX0_addAhead 1 = .ok (.aload_n 0, 1) := by decide +kernel
theorem dX0_addAhead_2 : decode cX0_addAhead 2 = .ok (.getfield 42, 3) := by decide +kernel
theorem dX0_addAhead_5 : decode cX0_addAhead 5 = .ok (.ishl, 1) := by decide +kernel
theorem dX0_addAhead_6 : decode cX0_addAhead 6 = .ok (.iconst 1, 1) := by decide +kernel
theorem dX0_addAhead_7 : decode cX0_addAhead 7 = .ok (.isub, 1) := by decide +kernel
theorem dX0_addAhead_8 : decode cX0_addAhead 8 = .ok (.istore_n 2, 1) := by decide +kernel
theorem dX0_addAhead_9 : decode cX0_addAhead 9 = .ok (.iload_n 2, 1) := by decide +kernel
theorem dX0_addAhead_10 : decode cX0_addAhead 10 = .ok (.ifCond .le 79, 3) := by decide +kernel
theorem dX0_addAhead_13 : decode cX0_addAhead 13 = .ok (.iconst 0, 1) := by decide +kernel
theorem dX0_addAhead_14 : decode cX0_addAhead 14 = .ok (.istore_n 3, 1) := by decide +kernel
theorem dX0_addAhead_15 : decode cX0_addAhead 15 = .ok (.iload_n 3, 1) := by decide +kernel
theorem dX0_addAhead_16 : decode cX0_addAhead 16 = .ok (.aload_n 0, 1) := by decide +kernel
theorem dX0_addAhead_17 : decode cX0_addAhead 17 = .ok (.getfield 42, 3) := by decide +kernel
theorem dX0_addAhead_20 : decode cX0_addAhead 20 = .ok (.if_icmp .ge 63, 3) := by decide +kernel
theorem dX0_addAhead_23 : decode cX0_addAhead 23 = .ok (.aload_n 0, 1) := by decide +kernel
theorem dX0_addAhead_24 : decode cX0_addAhead 24 = .ok (.getfield 24, 3) := by decide +kernel
theorem dX0_addAhead_27 : decode cX0_addAhead 27 = .ok (.iload_n 3, 1) := by decide +kernel
theorem dX0_addAhead_28 : decode cX0_addAhead 28 = .ok (.bipush 12, 2) := by decide +kernel
theorem dX0_addAhead_30 : decode cX0_addAhead 30 = .ok (.imul, 1) := by decide +kernel
theorem dX0_addAhead_31 : decode cX0_addAhead 31 = .ok (.iload_n 1, 1) := by decide +kernel
theorem dX0_addAhead_32 : decode cX0_addAhead 32 = .ok (.iadd, 1) := by decide +kernel
theorem dX0_addAhead_33 : decode cX0_addAhead 33 = .ok (.iaload, 1) := by decide +kernel
theorem dX0_addAhead_34 : decode cX0_addAhead 34 = .ok (.istore 4, 2) := by decide +kernel
theorem dX0_addAhead_36 : decode cX0_addAhead 36 = .ok (.iload 4, 2) := by decide +kernel
theorem dX0_addAhead_38 : decode cX0_addAhead 38 = .ok (.ifCond .le 39, 3) := by decide +kernel
theorem dX0_addAhead_41 : decode cX0_addAhead 41 = .ok (.iload_n 2, 1) := by decide +kernel
theorem dX0_addAhead_42 : decode cX0_addAhead 42 = .ok (.iload_n 3, 1) := by decide +kernel
theorem dX0_addAhead_43 : decode cX0_addAhead 43 = .ok (.ishr, 1) := by decide +kernel
theorem dX0_addAhead_44 : decode cX0_addAhead 44 = .ok (.iconst 1, 1) := by decide +kernel
theorem dX0_addAhead_45 : decode cX0_addAhead 45 = .ok (.iand, 1) := by decide +kernel
theorem dX0_addAhead_46 : decode cX0_addAhead 46 = .ok (.ifCond .eq 31, 3) := by decide +kernel
theorem dX0_addAhead_49 : decode cX0_addAhead 49 = .ok (.aload_n 0, 1) := by decide +kernel
theorem dX0_addAhead_50 : decode cX0_addAhead 50 = .ok (.getfield 30, 3) := by decide +kernel
theorem dX0_addAhead_53 : decode cX0_addAhead 53 = .ok (.iload_n 2, 1) := by decide +kernel
theorem dX0_addAhead_54 : decode cX0_addAhead 54 = .ok (.aload_n 0, 1) := by decide +kernel
theorem dX0_addAhead_55 : decode cX0_addAhead 55 = .ok (.getfield 30, 3) := by decide +kernel
theorem dX0_addAhead_58 : decode cX0_addAhead 58 = .ok (.iload_n 2, 1) := by decide +kernel
theorem dX0_addAhead_59 : decode cX0_addAhead 59 = .ok (.iaload, 1) := by decide +kernel
theorem dX0_addAhead_60 : decode cX0_addAhead 60 = .ok (.iload 4, 2) := by decide +kernel
theorem dX0_addAhead_62 : decode cX0_addAhead 62 = .ok (.aload_n 0, 1) := by decide +kernel
theorem dX0_addAhead_63 : decode cX0_addAhead 63 = .ok (.getfield 30, 3) := by decide +kernel
theorem dX0_addAhead_66 : decode cX0_addAhead 66 = .ok (.iload_n 2, 1) := by decide +kernel
theorem dX0_addAhead_67 : decode cX0_addAhead 67 = .ok (.iconst 1, 1) := by decide +kernel
theorem dX0_addAhead_68 : decode cX0_addAhead 68 = .ok (.iload_n 3, 1) := by decide +kernel
theorem dX0_addAhead_69 : decode cX0_addAhead 69 = .ok (.ishl, 1) := by decide +kernel
theorem dX0_addAhead_70 : decode cX0_addAhead 70 = .ok (.ixor, 1) := by decide +kernel
theorem dX0_addAhead_71 : decode cX0_addAhead 71 = .ok (.iaload, 1) := by decide +kernel
theorem dX0_addAhead_72 : decode cX0_addAhead 72 = .ok (.iadd, 1) := by decide +kernel
theorem dX0_addAhead_73 : decode cX0_addAhead 73 = .ok (.invokestatic 84, 3) := by decide +kernel
theorem dX0_addAhead_76 : decode cX0_addAhead 76 = .ok (.iastore, 1) := by decide +kernel
theorem dX0_addAhead_77 : decode cX0_addAhead 77 = .ok (.iinc 3 1, 3) := by decide +kernel
theorem dX0_addAhead_80 : decode cX0_addAhead 80 = .ok (.goto (-65), 3) := by decide +kernel
theorem dX0_addAhead_83 : decode cX0_addAhead 83 = .ok (.iinc 2 (-1), 3) := by decide +kernel
theorem dX0_addAhead_86 : decode cX0_addAhead 86 = .ok (.goto (-77), 3) := by decide +kernel
theorem dX0_addAhead_89 : decode cX0_addAhead 89 = .ok (.return_, 1) := by decide +kernel
def fX0_addAhead_L15 : Nat → Int32 → Int32 → Int32 → Hp → Option ((Int32) × Hp)
  | 0, _, _, _, _ => none
  | n + 1, a1, a2, a3, h => br ((gI h 0 0 0) ≤ a3) (some ((a3), h)) (gd (ib ((a3 * 12) + a1) 96) (lb (gI h 17 0 (ix ((a3 * 12) + a1))) (fun v3 => br (v3 ≤ 0) (lb (a3 + 1) (fun v4 => fX0_addAhead_L15 n a1 a2 v4 h)) (br (((a2 >>> (a3 &&& 31)) &&& 1) = 0) (lb (a3 + 1) (fun v5 => fX0_addAhead_L15 n a1 a2 v5 h)) (gd (ib a2 256) (gd (ib (a2 ^^^ ((1 : Int32) <<< (a3 &&& 31))) 256) (gd (ib a2 256) (lb (sI h 19 0 (ix a2) (mxI (gI h 19 0 (ix a2)) (v3 + (gI h 19 0 (ix (a2 ^^^ ((1 : Int32) <<< (a3 &&& 31)))))))) (fun h9 => lb (a3 + 1) (fun v10 => fX0_addAhead_L15 n a1 a2 v10 h9))))))))))
def fX0_addAhead_L9 : Nat → Int32 → Int32 → Hp → Option ((Int32) × Hp)
  | 0, _, _, _ => none
  | n + 1, a1, a2, h => br (a2 ≤ 0) (some ((a2), h)) (bd (fX0_addAhead_L15 FU a1 a2 0 h) (fun v13 h11 => lb (a2 + (-1)) (fun v14 => fX0_addAhead_L9 n a1 v14 h11)))
def fX0_addAhead (a1 : Int32) (h : Hp) : Option (Unit × Hp) := lb (((1 : Int32) <<< ((gI h 0 0 0) &&& 31)) - 1) (fun v1 => bd (fX0_addAhead_L9 FU a1 v1 h) (fun v17 h15 => some ((), h15)))
set_option maxRecDepth 20000 in
theorem tX0_addAhead_L15 {X : Cz} {h0 : Hp} {r : Option AV} {hE : Hp} : ∀ (n : Nat) (a1 : Int32) (a2 : Int32) (a3 : Int32) (h : Hp) (z : (Int32) × Hp), fX0_addAhead_L15 n a1 a2 a3 h = some z → V X mX0_addAhead true h0 83 [(0, zr 0 0), (1, zi a1), (2, zi a2), (3, zi z.1)] [] z.2 r hE → V X mX0_addAhead true h0 15 [(0, zr 0 0), (1, zi a1), (2, zi a2), (3, zi a3)] [] h r hE := by
  intro n
  induction n with
  | zero => intro a1 a2 a3 h z hF k; cases hF
  | succ n ih =>
    intro a1 a2 a3 h z hF k
    rw [fX0_addAhead_L15] at hF
    refine v_iload_n (j := 3) dX0_addAhead_15 rfl ?_
    refine v_aload_n (j := 0) dX0_addAhead_16 rfl ?_
    refine v_getI (c := 0) rfl (Or.inl rfl) cz0 flX0_42 dX0_addAhead_17 ?_
    refine v_icmp_ge dX0_addAhead_20 (by decide : _ = ((83 : Nat) : Int)) (fun q => ?_) (fun q => ?_)
    · replace hF := brT q hF
      cases hF
      exact k
    · replace hF := brF q hF
      refine v_aload_n (j := 0) dX0_addAhead_23 rfl ?_
      refine v_getL (c := 0) rfl rfl rfl ly0_5 cz0 flX0_24 dX0_addAhead_24 ?_
      refine v_iload_n (j := 3) dX0_addAhead_27 rfl ?_
      refine v_bipush (v := 12) dX0_addAhead_28 (by decide) ?_
      refine v_imul dX0_addAhead_30 ?_
      refine v_iload_n (j := 1) dX0_addAhead_31 rfl ?_
      refine v_iadd dX0_addAhead_32 ?_
      replace hF := gd_use hF
      obtain ⟨q2, hF⟩ := hF
      refine v_iald rfl q2 dX0_addAhead_33 ?_
      refine v_topi fun v3 ev3 => ?_
      replace hF := lb_use ev3 hF
      clear ev3
      refine v_istore (ls' := [(4, zi v3), (0, zr 0 0), (1, zi a1), (2, zi a2), (3, zi a3)]) dX0_addAhead_34 (by decide) rfl ?_
      refine v_iload (j := 0) dX0_addAhead_36 rfl ?_
      refine v_if_le dX0_addAhead_38 (by decide : _ = ((77 : Nat) : Int)) (fun q => ?_) (fun q => ?_)
      · replace hF := brT q hF
        obtain ⟨v4, ev4⟩ : ∃ y : Int32, y = a3 + 1 := ⟨_, rfl⟩
        replace hF := lb_use ev4 hF
        refine v_iinc (j := 4) (v := v4) (ls' := [(3, zi v4), (4, zi v3), (0, zr 0 0), (1, zi a1), (2, zi a2)]) dX0_addAhead_77 rfl (by rw [ev4]; rfl) (by decide) rfl ?_
        clear ev4
        refine v_goto (tgt := 15) dX0_addAhead_80 (by decide) ?_
        refine v_sub [2, 3, 4, 0] rfl ?_
        exact ih a1 a2 v4 h _ hF k
      · replace hF := brF q hF
        refine v_iload_n (j := 3) dX0_addAhead_41 rfl ?_
        refine v_iload_n (j := 4) dX0_addAhead_42 rfl ?_
        refine v_ishr dX0_addAhead_43 ?_
        refine v_iconst (v := 1) dX0_addAhead_44 (by decide) ?_
        refine v_iand dX0_addAhead_45 ?_
        refine v_if_eq dX0_addAhead_46 (by decide : _ = ((77 : Nat) : Int)) (fun q => ?_) (fun q => ?_)
        · replace hF := brT q hF
          obtain ⟨v5, ev5⟩ : ∃ y : Int32, y = a3 + 1 := ⟨_, rfl⟩
          replace hF := lb_use ev5 hF
          refine v_iinc (j := 4) (v := v5) (ls' := [(3, zi v5), (4, zi v3), (0, zr 0 0), (1, zi a1), (2, zi a2)]) dX0_addAhead_77 rfl (by rw [ev5]; rfl) (by decide) rfl ?_
          clear ev5
          refine v_goto (tgt := 15) dX0_addAhead_80 (by decide) ?_
          refine v_sub [2, 3, 4, 0] rfl ?_
          exact ih a1 a2 v5 h _ hF k
        · replace hF := brF q hF
          refine v_aload_n (j := 1) dX0_addAhead_49 rfl ?_
          refine v_getL (c := 0) rfl rfl rfl ly0_7 cz0 flX0_30 dX0_addAhead_50 ?_
          refine v_iload_n (j := 3) dX0_addAhead_53 rfl ?_
          refine v_aload_n (j := 1) dX0_addAhead_54 rfl ?_
          refine v_getL (c := 0) rfl rfl rfl ly0_7 cz0 flX0_30 dX0_addAhead_55 ?_
          refine v_iload_n (j := 3) dX0_addAhead_58 rfl ?_
          replace hF := gd_use hF
          obtain ⟨q6, hF⟩ := hF
          refine v_iald rfl q6 dX0_addAhead_59 ?_
          refine v_iload (j := 0) dX0_addAhead_60 rfl ?_
          refine v_aload_n (j := 1) dX0_addAhead_62 rfl ?_
          refine v_getL (c := 0) rfl rfl rfl ly0_7 cz0 flX0_30 dX0_addAhead_63 ?_
          refine v_iload_n (j := 3) dX0_addAhead_66 rfl ?_
          refine v_iconst (v := 1) dX0_addAhead_67 (by decide) ?_
          refine v_iload_n (j := 4) dX0_addAhead_68 rfl ?_
          refine v_ishl dX0_addAhead_69 ?_
          refine v_ixor dX0_addAhead_70 ?_
          replace hF := gd_use hF
          obtain ⟨q7, hF⟩ := hF
          refine v_iald rfl q7 dX0_addAhead_71 ?_
          refine v_iadd dX0_addAhead_72 ?_
          refine v_J9_max_7cf53 mlX0_84 (by decide) (Nat.le_of_ble_eq_true rfl) dX0_addAhead_73 ?_
          replace hF := gd_use hF
          obtain ⟨q8, hF⟩ := hF
          refine v_iast rfl q8 dX0_addAhead_76 ?_
          refine v_toph fun h9 eh9 => ?_
          replace hF := lb_use eh9 hF
          clear eh9
          obtain ⟨v10, ev10⟩ : ∃ y : Int32, y = a3 + 1 := ⟨_, rfl⟩
          replace hF := lb_use ev10 hF
          refine v_iinc (j := 4) (v := v10) (ls' := [(3, zi v10), (4, zi v3), (0, zr 0 0), (1, zi a1), (2, zi a2)]) dX0_addAhead_77 rfl (by rw [ev10]; rfl) (by decide) rfl ?_
          clear ev10
          refine v_goto (tgt := 15) dX0_addAhead_80 (by decide) ?_
          refine v_sub [2, 3, 4, 0] rfl ?_
          exact ih a1 a2 v10 h9 _ hF k
set_option maxRecDepth 20000 in
theorem tX0_addAhead_L9 {X : Cz} {h0 : Hp} {r : Option AV} {hE : Hp} : ∀ (n : Nat) (a1 : Int32) (a2 : Int32) (h : Hp) (z : (Int32) × Hp), fX0_addAhead_L9 n a1 a2 h = some z → V X mX0_addAhead true h0 89 [(0, zr 0 0), (1, zi a1), (2, zi z.1)] [] z.2 r hE → V X mX0_addAhead true h0 9 [(0, zr 0 0), (1, zi a1), (2, zi a2)] [] h r hE := by
  intro n
  induction n with
  | zero => intro a1 a2 h z hF k; cases hF
  | succ n ih =>
    intro a1 a2 h z hF k
    rw [fX0_addAhead_L9] at hF
    refine v_iload_n (j := 2) dX0_addAhead_9 rfl ?_
    refine v_if_le dX0_addAhead_10 (by decide : _ = ((89 : Nat) : Int)) (fun q => ?_) (fun q => ?_)
    · replace hF := brT q hF
      cases hF
      exact k
    · replace hF := brF q hF
      refine v_iconst (v := 0) dX0_addAhead_13 (by decide) ?_
      refine v_istore_n (ls' := [(3, zi 0), (0, zr 0 0), (1, zi a1), (2, zi a2)]) dX0_addAhead_14 (by decide) rfl ?_
      refine v_sub [1, 2, 3, 0] rfl ?_
      replace hF := bd_use hF
      obtain ⟨v13, h11, ev13, hF⟩ := hF
      refine tX0_addAhead_L15 _ a1 a2 0 h _ ev13 ?_
      clear ev13
      obtain ⟨v14, ev14⟩ : ∃ y : Int32, y = a2 + (-1) := ⟨_, rfl⟩
      replace hF := lb_use ev14 hF
      refine v_iinc (j := 2) (v := v14) (ls' := [(2, zi v14), (0, zr 0 0), (1, zi a1), (3, zi v13)]) dX0_addAhead_83 rfl (by rw [ev14]; rfl) (by decide) rfl ?_
      clear ev14
      refine v_goto (tgt := 9) dX0_addAhead_86 (by decide) ?_
      refine v_sub [1, 2, 0] rfl ?_
      exact ih a1 v14 h11 _ hF k
set_option maxRecDepth 20000 in
theorem tX0_addAhead {X : Cz} {a1 : Int32} {h hE : Hp} {rE : Unit} (hF : fX0_addAhead a1 h = some (rE, hE)) : Ct X mX0_addAhead true [zr 0 0, zi a1] h (none) hE := by
  refine Ct_of (by decide) (Nat.le_of_ble_eq_true rfl) (ls := [(0, zr 0 0), (1, zi a1)]) rfl ?_
  unfold fX0_addAhead at hF
  refine v_iconst (v := 1) dX0_addAhead_0 (by decide) ?_
  refine v_aload_n (j := 0) dX0_addAhead_1 rfl ?_
  refine v_getI (c := 0) rfl (Or.inl rfl) cz0 flX0_42 dX0_addAhead_2 ?_
  refine v_ishl dX0_addAhead_5 ?_
  refine v_iconst (v := 1) dX0_addAhead_6 (by decide) ?_
  refine v_isub dX0_addAhead_7 ?_
  refine v_topi fun v1 ev1 => ?_
  replace hF := lb_use ev1 hF
  clear ev1
  refine v_istore_n (ls' := [(2, zi v1), (0, zr 0 0), (1, zi a1)]) dX0_addAhead_8 (by decide) rfl ?_
  refine v_sub [1, 2, 0] rfl ?_
  replace hF := bd_use hF
  obtain ⟨v17, h15, ev17, hF⟩ := hF
  refine tX0_addAhead_L9 _ a1 v1 h _ ev17 ?_
  clear ev17
  cases hF
  exact v_vret rfl dX0_addAhead_89
theorem dX0_findPrices_0 : decode cX0_findPrices 0 = .ok (.aload_n 0, 1) := by decide +kernel
theorem dX0_findPrices_1 : decode cX0_findPrices 1 = .ok (.getfield 30, 3) := by decide +kernel
theorem dX0_findPrices_4 : decode cX0_findPrices 4 = .ok (.iconst 0, 1) := by decide +kernel
theorem dX0_findPrices_5 : decode cX0_findPrices 5 = .ok (.invokestatic 57, 3) := by decide +kernel
theorem dX0_findPrices_8 : decode cX0_findPrices 8 = .ok (.aload_n 0, 1) := by decide +kernel
theorem dX0_findPrices_9 : decode cX0_findPrices 9 = .ok (.aload_n 0, 1) := by decide +kernel
theorem dX0_findPrices_10 : decode cX0_findPrices 10 = .ok (.getfield 27, 3) := by decide +kernel
theorem dX0_findPrices_13 : decode cX0_findPrices 13 = .ok (.iconst 0, 1) := by decide +kernel
theorem dX0_findPrices_14 : decode cX0_findPrices 14 = .ok (.iaload, 1) := by decide +kernel
theorem dX0_findPrices_15 : decode cX0_findPrices 15 = .ok (.putfield 63, 3) := by decide +kernel
theorem dX0_findPrices_18 : decode cX0_findPrices 18 = .ok (.iconst 0, 1) := by decide +kernel
theorem dX0_findPrices_19 : decode cX0_findPrices 19 = .ok (.istore_n 1, 1) := by decide +kernel
theorem dX0_findPrices_20 : decode cX0_findPrices 20 = .ok (.iload_n 1, 1) := by decide +kernel
theorem dX0_findPrices_21 : decode cX0_findPrices 21 = .ok (.bipush 12, 2) := by decide +kernel
theorem dX0_findPrices_23 : decode cX0_findPrices 23 = .ok (.if_icmp .ge 65, 3) := by decide +kernel
theorem dX0_findPrices_26 : decode cX0_findPrices 26 = .ok (.aload_n 0, 1) := by decide +kernel
theorem dX0_findPrices_27 : decode cX0_findPrices 27 = .ok (.getfield 33, 3) := by decide +kernel
theorem dX0_findPrices_30 : decode cX0_findPrices 30 = .ok (.iload_n 1, 1) := by decide +kernel
theorem dX0_findPrices_31 : decode cX0_findPrices 31 = .ok (.iaload, 1) := by decide +kernel
theorem dX0_findPrices_32 : decode cX0_findPrices 32 = .ok (.istore_n 2, 1) := by decide +kernel
theorem dX0_findPrices_33 : decode cX0_findPrices 33 = .ok (.aload_n 0, 1) := by decide +kernel
theorem dX0_findPrices_34 : decode cX0_findPrices 34 = .ok (.getfield 36, 3) := by decide +kernel
theorem dX0_findPrices_37 : decode cX0_findPrices 37 = .ok (.iload_n 1, 1) := by decide +kernel
theorem dX0_findPrices_38 : decode cX0_findPrices 38 = .ok (.iload_n 2, 1) := by decide +kernel
theorem dX0_findPrices_39 : decode cX0_findPrices 39 = .ok (.iastore, 1) := by decide +kernel
theorem dX0_findPrices_40 : decode cX0_findPrices 40 = .ok (.aload_n 0, 1) := by decide +kernel
theorem dX0_findPrices_41 : decode cX0_findPrices 41 = .ok (.getfield 39, 3) := by decide +kernel
theorem dX0_findPrices_44 : decode cX0_findPrices 44 = .ok (.iload_n 1, 1) := by decide +kernel
theorem dX0_findPrices_45 : decode cX0_findPrices 45 = .ok (.iload_n 2, 1) := by decide +kernel
theorem dX0_findPrices_46 : decode cX0_findPrices 46 = .ok (.iconst (-1), 1) := by decide +kernel
theorem dX0_findPrices_47 : decode cX0_findPrices 47 = .ok (.if_icmp .ne 7, 3) := by decide +kernel
theorem dX0_findPrices_50 : decode cX0_findPrices 50 = .ok (.iconst 0, 1) := by decide +kernel
theorem dX0_findPrices_51 : decode cX0_findPrices 51 = .ok (.goto 25, 3) := by decide +kernel
theorem dX0_findPrices_54 : decode cX0_findPrices 54 = .ok (.aload_n 0, 1) := by decide +kernel
theorem dX0_findPrices_55 : decode cX0_findPrices 55 = .ok (.iload_n 1, 1) := by decide +kernel
theorem dX0_findPrices_56 : decode cX0_findPrices 56 = .ok (.invokevirtual 66, 3) := by decide +kernel
theorem dX0_findPrices_59 : decode cX0_findPrices 59 = .ok (.aload_n 0, 1) := by decide +kernel
theorem dX0_findPrices_60 : decode cX0_findPrices 60 = .ok (.getfield 63, 3) := by decide +kernel
theorem dX0_findPrices_63 : decode cX0_findPrices 63 = .ok (.aload_n 0, 1) := by decide +kernel
theorem dX0_findPrices_64 : decode cX0_findPrices 64 = .ok (.getfield 24, 3) := by decide +kernel
theorem dX0_findPrices_67 : decode cX0_findPrices 67 = .ok (.iload_n 2, 1) := by decide +kernel
theorem dX0_findPrices_68 : decode cX0_findPrices 68 = .ok (.bipush 12, 2) := by decide +kernel
theorem dX0_findPrices_70 : decode cX0_findPrices 70 = .ok (.imul, 1) := by decide +kernel
theorem dX0_findPrices_71 : decode cX0_findPrices 71 = .ok (.iload_n 1, 1) := by decide +kernel
theorem dX0_findPrices_72 : decode cX0_findPrices 72 = .ok (.iadd, 1) := by decide +kernel
theorem dX0_findPrices_73 : decode cX0_findPrices 73 = .ok (.iaload, 1) := by decide +kernel
theorem dX0_findPrices_74 : decode cX0_findPrices 74 = .ok (.isub, 1) := by decide +kernel
theorem dX0_findPrices_75 : decode cX0_findPrices 75 = .ok (.isub, 1) := by decide +kernel
theorem dX0_findPrices_76 : decode cX0_findPrices 76 = .ok (.iastore, 1) := by decide +kernel
theorem dX0_findPrices_77 : decode cX0_findPrices 77 = .ok (.aload_n 0, 1) := by decide +kernel
theorem dX0_findPrices_78 : decode cX0_findPrices 78 = .ok (.iload_n 1, 1) := by decide +kernel
theorem dX0_findPrices_79 : decode cX0_findPrices 79 = .ok (.invokevirtual 70, 3) := by decide +kernel
theorem dX0_findPrices_82 : decode cX0_findPrices 82 = .ok (.iinc 1 1, 3) := by decide +kernel
theorem dX0_findPrices_85 : decode cX0_findPrices 85 = .ok (.goto (-65), 3) := by decide +kernel
theorem dX0_findPrices_88 : decode cX0_findPrices 88 = .ok (.aload_n 0, 1) := by decide +kernel
theorem dX0_findPrices_89 : decode cX0_findPrices 89 = .ok (.iconst 1, 1) := by decide +kernel
theorem dX0_findPrices_90 : decode cX0_findPrices 90 = .ok (.putfield 74, 3) := by decide +kernel
theorem dX0_findPrices_93 : decode cX0_findPrices 93 = .ok (.return_, 1) := by decide +kernel
def fX0_findPrices_L20 : Nat → Int32 → Hp → Option ((Int32) × Hp)
  | 0, _, _ => none
  | n + 1, a1, h => br (12 ≤ a1) (some ((a1), h)) (gd (ib a1 12) (lb (gI h 20 0 (ix a1)) (fun v4 => gd (ib a1 12) (lb (sI h 21 0 (ix a1) v4) (fun h6 => lb (fun (x8 : Int32) (x9 : Int32) (h10 : Hp) => gd (ib x8 12) (lb (sI h10 22 0 (ix x8) x9) (fun h12 => bd (fX0_addAhead a1 h12) (fun r13 h14 => lb (a1 + 1) (fun v15 => fX0_findPrices_L20 n v15 h14))))) (fun j7 => br (v4 = (-1)) (j7 a1 0 h6) (bd (fX0_bestWithout a1 h6) (fun r16 h17 => gd (ib ((v4 * 12) + a1) 96) (j7 a1 (r16 - ((gI h17 0 0 12) - (gI h17 17 0 (ix ((v4 * 12) + a1))))) h17)))))))))
def fX0_findPrices (h : Hp) : Option (Unit × Hp) := lb (flI h 19 0 0 256 0) (fun h1 => lb (sI h1 0 0 12 (gI h1 18 0 (ix 0))) (fun h2 => bd (fX0_findPrices_L20 FU 0 h2) (fun v21 h19 => lb (sI h19 0 0 9 1) (fun h22 => some ((), h22)))))
set_option maxRecDepth 20000 in
theorem tX0_findPrices_L20 {X : Cz} {h0 : Hp} {r : Option AV} {hE : Hp} : ∀ (n : Nat) (a1 : Int32) (h : Hp) (z : (Int32) × Hp), fX0_findPrices_L20 n a1 h = some z → V X mX0_findPrices true h0 88 [(0, zr 0 0), (1, zi z.1)] [] z.2 r hE → V X mX0_findPrices true h0 20 [(0, zr 0 0), (1, zi a1)] [] h r hE := by
  intro n
  induction n with
  | zero => intro a1 h z hF k; cases hF
  | succ n ih =>
    intro a1 h z hF k
    rw [fX0_findPrices_L20] at hF
    refine v_iload_n (j := 1) dX0_findPrices_20 rfl ?_
    refine v_bipush (v := 12) dX0_findPrices_21 (by decide) ?_
    refine v_icmp_ge dX0_findPrices_23 (by decide : _ = ((88 : Nat) : Int)) (fun q => ?_) (fun q => ?_)
    · replace hF := brT q hF
      cases hF
      exact k
    · replace hF := brF q hF
      refine v_aload_n (j := 0) dX0_findPrices_26 rfl ?_
      refine v_getL (c := 0) rfl rfl rfl ly0_8 cz0 flX0_33 dX0_findPrices_27 ?_
      refine v_iload_n (j := 1) dX0_findPrices_30 rfl ?_
      replace hF := gd_use hF
      obtain ⟨q3, hF⟩ := hF
      refine v_iald rfl q3 dX0_findPrices_31 ?_
      refine v_topi fun v4 ev4 => ?_
      replace hF := lb_use ev4 hF
      clear ev4
      refine v_istore_n (ls' := [(2, zi v4), (0, zr 0 0), (1, zi a1)]) dX0_findPrices_32 (by decide) rfl ?_
      refine v_aload_n (j := 1) dX0_findPrices_33 rfl ?_
      refine v_getL (c := 0) rfl rfl rfl ly0_10 cz0 flX0_36 dX0_findPrices_34 ?_
      refine v_iload_n (j := 2) dX0_findPrices_37 rfl ?_
      refine v_iload_n (j := 0) dX0_findPrices_38 rfl ?_
      replace hF := gd_use hF
      obtain ⟨q5, hF⟩ := hF
      refine v_iast rfl q5 dX0_findPrices_39 ?_
      refine v_toph fun h6 eh6 => ?_
      replace hF := lb_use eh6 hF
      clear eh6
      refine v_aload_n (j := 1) dX0_findPrices_40 rfl ?_
      refine v_getL (c := 0) rfl rfl rfl ly0_11 cz0 flX0_39 dX0_findPrices_41 ?_
      refine v_iload_n (j := 2) dX0_findPrices_44 rfl ?_
      refine v_iload_n (j := 0) dX0_findPrices_45 rfl ?_
      refine v_iconst (v := (-1)) dX0_findPrices_46 (by decide) ?_
      replace hF := lb_ex hF
      obtain ⟨j7, ej7, hF⟩ := hF
      have j7V : ∀ (x8 : Int32) (x9 : Int32) (h10 : Hp), j7 x8 x9 h10 = some z → V X mX0_findPrices true h0 76 [(0, zr 0 0), (1, zi a1)] [zi x9, zi x8, zr 22 0] h10 r hE := by
        intro x8 x9 h10 hF
        subst ej7
        replace hF := gd_use hF
        obtain ⟨q11, hF⟩ := hF
        refine v_iast rfl q11 dX0_findPrices_76 ?_
        refine v_toph fun h12 eh12 => ?_
        replace hF := lb_use eh12 hF
        clear eh12
        refine v_aload_n (j := 0) dX0_findPrices_77 rfl ?_
        refine v_iload_n (j := 1) dX0_findPrices_78 rfl ?_
        replace hF := bd_use hF
        obtain ⟨r13, h14, er13, hF⟩ := hF
        refine v_cV (hm := h14) (av := [zi a1]) (st := []) (stn := []) (tX0_addAhead er13) lcX0_addAhead mlX0_70 imX0_addAhead seX0_addAhead rfl rfl rfl rfl ⟨by decide, by decide⟩ (Nat.le_of_ble_eq_true rfl) dX0_findPrices_79 rfl rfl ?_
        clear er13
        obtain ⟨v15, ev15⟩ : ∃ y : Int32, y = a1 + 1 := ⟨_, rfl⟩
        replace hF := lb_use ev15 hF
        refine v_iinc (j := 1) (v := v15) (ls' := [(1, zi v15), (0, zr 0 0)]) dX0_findPrices_82 rfl (by rw [ev15]; rfl) (by decide) rfl ?_
        clear ev15
        refine v_goto (tgt := 20) dX0_findPrices_85 (by decide) ?_
        refine v_sub [1, 0] rfl ?_
        exact ih v15 h14 _ hF k
      clear ej7
      refine v_icmp_ne dX0_findPrices_47 (by decide : _ = ((54 : Nat) : Int)) (fun q => ?_) (fun q => ?_)
      · replace hF := brF q hF
        refine v_aload_n (j := 1) dX0_findPrices_54 rfl ?_
        refine v_iload_n (j := 2) dX0_findPrices_55 rfl ?_
        replace hF := bd_use hF
        obtain ⟨r16, h17, er16, hF⟩ := hF
        refine v_cV (hm := h17) (av := [zi a1]) (st := [zi a1, zr 22 0]) (stn := [zi r16, zi a1, zr 22 0]) (tX0_bestWithout er16) lcX0_bestWithout mlX0_66 imX0_bestWithout seX0_bestWithout rfl rfl rfl rfl ⟨by decide, by decide⟩ (Nat.le_of_ble_eq_true rfl) dX0_findPrices_56 rfl rfl ?_
        clear er16
        refine v_aload_n (j := 1) dX0_findPrices_59 rfl ?_
        refine v_getI (c := 0) rfl (Or.inl rfl) cz0 flX0_63 dX0_findPrices_60 ?_
        refine v_aload_n (j := 1) dX0_findPrices_63 rfl ?_
        refine v_getL (c := 0) rfl rfl rfl ly0_5 cz0 flX0_24 dX0_findPrices_64 ?_
        refine v_iload_n (j := 0) dX0_findPrices_67 rfl ?_
        refine v_bipush (v := 12) dX0_findPrices_68 (by decide) ?_
        refine v_imul dX0_findPrices_70 ?_
        refine v_iload_n (j := 2) dX0_findPrices_71 rfl ?_
        refine v_iadd dX0_findPrices_72 ?_
        replace hF := gd_use hF
        obtain ⟨q18, hF⟩ := hF
        refine v_iald rfl q18 dX0_findPrices_73 ?_
        refine v_isub dX0_findPrices_74 ?_
        refine v_isub dX0_findPrices_75 ?_
        refine v_sub [1, 2] rfl ?_
        exact j7V a1 (r16 - ((gI h17 0 0 12) - (gI h17 17 0 (ix ((v4 * 12) + a1))))) h17 hF
      · replace hF := brT (Decidable.not_not.mp q) hF
        refine v_iconst (v := 0) dX0_findPrices_50 (by decide) ?_
        refine v_goto (tgt := 76) dX0_findPrices_51 (by decide) ?_
        refine v_sub [1, 2] rfl ?_
        exact j7V a1 0 h6 hF
set_option maxRecDepth 20000 in
theorem tX0_findPrices {X : Cz} {h hE : Hp} {rE : Unit} (hF : fX0_findPrices h = some (rE, hE)) : Ct X mX0_findPrices true [zr 0 0] h (none) hE := by
  refine Ct_of (by decide) (Nat.le_of_ble_eq_true rfl) (ls := [(0, zr 0 0)]) rfl ?_
  unfold fX0_findPrices at hF
  refine v_aload_n (j := 0) dX0_findPrices_0 rfl ?_
  refine v_getL (c := 0) rfl rfl rfl ly0_7 cz0 flX0_30 dX0_findPrices_1 ?_
  refine v_iconst (v := 0) dX0_findPrices_4 (by decide) ?_
  refine v_cS (av := [zr 19 0, zi 0]) (st := []) (stn := []) (tJ7_fill_53178 (n := 0) (k := 19) rfl (by decide) 0 h) lcJ7_fill_53178 mlX0_57 sxJ7_fill_53178 rfl ⟨by decide, by decide⟩ (Nat.le_of_ble_eq_true rfl) dX0_findPrices_5 rfl rfl ?_
  refine v_toph fun h1 eh1 => ?_
  replace hF := lb_use eh1 hF
  clear eh1
  refine v_aload_n (j := 0) dX0_findPrices_8 rfl ?_
  refine v_aload_n (j := 0) dX0_findPrices_9 rfl ?_
  refine v_getL (c := 0) rfl rfl rfl ly0_6 cz0 flX0_27 dX0_findPrices_10 ?_
  refine v_iconst (v := 0) dX0_findPrices_13 (by decide) ?_
  refine v_iald rfl (by decide) dX0_findPrices_14 ?_
  refine v_putI (c := 0) rfl rfl (Nat.le_of_ble_eq_true rfl) cz0 flX0_63 dX0_findPrices_15 ?_
  refine v_toph fun h2 eh2 => ?_
  replace hF := lb_use eh2 hF
  clear eh2
  refine v_iconst (v := 0) dX0_findPrices_18 (by decide) ?_
  refine v_istore_n (ls' := [(1, zi 0), (0, zr 0 0)]) dX0_findPrices_19 (by decide) rfl ?_
  refine v_sub [1, 0] rfl ?_
  replace hF := bd_use hF
  obtain ⟨v21, h19, ev21, hF⟩ := hF
  refine tX0_findPrices_L20 _ 0 h2 _ ev21 ?_
  clear ev21
  refine v_aload_n (j := 0) dX0_findPrices_88 rfl ?_
  refine v_iconst (v := 1) dX0_findPrices_89 (by decide) ?_
  refine v_putZ (c := 0) rfl rfl (Nat.le_of_ble_eq_true rfl) cz0 flX0_74 (Or.inr rfl) dX0_findPrices_90 ?_
  refine v_toph fun h22 eh22 => ?_
  replace hF := lb_use eh22 hF
  clear eh22
  cases hF
  exact v_vret rfl dX0_findPrices_93
theorem dX0_income_0 : decode cX0_income 0 = .ok (.lconst 0, 1) := by decide +kernel
theorem dX0_income_1 : decode cX0_income 1 = .ok (.lstore_n 1, 1) := by decide +kernel
theorem dX0_income_2 : decode cX0_income 2 = .ok (.iconst 0, 1) := by decide +kernel
theorem dX0_income_3 : decode cX0_income 3 = .ok (.istore_n 3, 1) := by decide +kernel
theorem dX0_income_4 : decode cX0_income 4 = .ok (.iload_n 3, 1) := by decide +kernel
theorem dX0_income_5 : decode cX0_income 5 = .ok (.bipush 12, 2) := by decide +kernel
theorem dX0_income_7 : decode cX0_income 7 = .ok (.if_icmp .ge 19, 3) := by decide +kernel
theorem dX0_income_10 : decode cX0_income 10 = .ok (.lload_n 1, 1) := by decide +kernel
theorem dX0_income_11 : decode cX0_income 11 = .ok (.aload_n 0, 1) := by decide +kernel
theorem dX0_income_12 : decode cX0_income 12 = .ok (.getfield 39, 3) := by decide +kernel
theorem dX0_income_15 : decode cX0_income 15 = .ok (.iload_n 3, 1) := by decide +kernel
theorem dX0_income_16 : decode cX0_income 16 = .ok (.iaload, 1) := by decide +kernel
theorem dX0_income_17 : decode cX0_income 17 = .ok (.i2l, 1) := by decide +kernel
theorem dX0_income_18 : decode cX0_income 18 = .ok (.ladd, 1) := by decide +kernel
theorem dX0_income_19 : decode cX0_income 19 = .ok (.lstore_n 1, 1) := by decide +kernel
theorem dX0_income_20 : decode cX0_income 20 = .ok (.iinc 3 1, 3) := by decide +kernel
theorem dX0_income_23 : decode cX0_income 23 = .ok (.goto (-19), 3) := by decide +kernel
theorem dX0_income_26 : decode cX0_income 26 = .ok (.lload_n 1, 1) := by decide +kernel
theorem dX0_income_27 : decode cX0_income 27 = .ok (.lreturn, 1) := by decide +kernel
def fX0_income_L4 : Nat → Int64 → Int32 → Hp → Option ((Int64 × Int32) × Hp)
  | 0, _, _, _ => none
  | n + 1, a1, a3, h => br (12 ≤ a3) (some ((a1, a3), h)) (gd (ib a3 12) (lb (a1 + ((gI h 22 0 (ix a3)).toInt64)) (fun v2 => lb (a3 + 1) (fun v3 => fX0_income_L4 n v2 v3 h))))
def fX0_income (h : Hp) : Option (Int64 × Hp) := bd (fX0_income_L4 FU 0 0 h) (fun t5 h4 => lb t5.1 (fun v6 => lb t5.2 (fun v7 => some (v6, h4))))
set_option maxRecDepth 20000 in
theorem tX0_income_L4 {X : Cz} {h0 : Hp} {r : Option AV} {hE : Hp} : ∀ (n : Nat) (a1 : Int64) (a3 : Int32) (h : Hp) (z : (Int64 × Int32) × Hp), fX0_income_L4 n a1 a3 h = some z → V X mX0_income true h0 26 [(0, zr 0 0), (1, zj z.1.1), (3, zi z.1.2)] [] z.2 r hE → V X mX0_income true h0 4 [(0, zr 0 0), (1, zj a1), (3, zi a3)] [] h r hE := by
  intro n
  induction n with
  | zero => intro a1 a3 h z hF k; cases hF
  | succ n ih =>
    intro a1 a3 h z hF k
    rw [fX0_income_L4] at hF
    refine v_iload_n (j := 2) dX0_income_4 rfl ?_
    refine v_bipush (v := 12) dX0_income_5 (by decide) ?_
    refine v_icmp_ge dX0_income_7 (by decide : _ = ((26 : Nat) : Int)) (fun q => ?_) (fun q => ?_)
    · replace hF := brT q hF
      cases hF
      exact k
    · replace hF := brF q hF
      refine v_lload_n (j := 1) dX0_income_10 rfl ?_
      refine v_aload_n (j := 0) dX0_income_11 rfl ?_
      refine v_getL (c := 0) rfl rfl rfl ly0_11 cz0 flX0_39 dX0_income_12 ?_
      refine v_iload_n (j := 2) dX0_income_15 rfl ?_
      replace hF := gd_use hF
      obtain ⟨q1, hF⟩ := hF
      refine v_iald rfl q1 dX0_income_16 ?_
      refine v_i2l dX0_income_17 ?_
      refine v_ladd dX0_income_18 ?_
      refine v_topj fun v2 ev2 => ?_
      replace hF := lb_use ev2 hF
      clear ev2
      refine v_lstore_n (ls' := [(1, zj v2), (0, zr 0 0), (3, zi a3)]) dX0_income_19 (by decide) rfl ?_
      obtain ⟨v3, ev3⟩ : ∃ y : Int32, y = a3 + 1 := ⟨_, rfl⟩
      replace hF := lb_use ev3 hF
      refine v_iinc (j := 2) (v := v3) (ls' := [(3, zi v3), (1, zj v2), (0, zr 0 0)]) dX0_income_20 rfl (by rw [ev3]; rfl) (by decide) rfl ?_
      clear ev3
      refine v_goto (tgt := 4) dX0_income_23 (by decide) ?_
      refine v_sub [2, 1, 0] rfl ?_
      exact ih v2 v3 h _ hF k
set_option maxRecDepth 20000 in
theorem tX0_income {X : Cz} {h hE : Hp} {rE : Int64} (hF : fX0_income h = some (rE, hE)) : Ct X mX0_income true [zr 0 0] h (some (zj rE)) hE := by
  refine Ct_of (by decide) (Nat.le_of_ble_eq_true rfl) (ls := [(0, zr 0 0)]) rfl ?_
  unfold fX0_income at hF
  refine v_lconst (v := 0) dX0_income_0 (by decide) ?_
  refine v_lstore_n (ls' := [(1, zj 0), (0, zr 0 0)]) dX0_income_1 (by decide) rfl ?_
  refine v_iconst (v := 0) dX0_income_2 (by decide) ?_
  refine v_istore_n (ls' := [(3, zi 0), (1, zj 0), (0, zr 0 0)]) dX0_income_3 (by decide) rfl ?_
  refine v_sub [2, 1, 0] rfl ?_
  replace hF := bd_use hF
  obtain ⟨t5, h4, et5, hF⟩ := hF
  refine tX0_income_L4 _ 0 0 h _ et5 ?_
  clear et5
  obtain ⟨v6, v7⟩ := t5
  replace hF := lb_use (x := v6) rfl hF
  replace hF := lb_use (x := v7) rfl hF
  refine v_lload_n (j := 1) dX0_income_26 rfl ?_
  obtain ⟨rfl, rfl⟩ := ret_use hF
  exact v_lret rfl dX0_income_27
theorem dX0_close_0 : decode cX0_close 0 = .ok (.aload_n 0, 1) := by decide +kernel
theorem dX0_close_1 : decode cX0_close 1 = .ok (.iconst 0, 1) := by decide +kernel
theorem dX0_close_2 : decode cX0_close 2 = .ok (.putfield 42, 3) := by decide +kernel
theorem dX0_close_5 : decode cX0_close 5 = .ok (.return_, 1) := by decide +kernel
def fX0_close (h : Hp) : Option (Unit × Hp) := lb (sI h 0 0 0 0) (fun h1 => some ((), h1))
set_option maxRecDepth 20000 in
theorem tX0_close {X : Cz} {h hE : Hp} {rE : Unit} (hF : fX0_close h = some (rE, hE)) : Ct X mX0_close true [zr 0 0] h (none) hE := by
  refine Ct_of (by decide) (Nat.le_of_ble_eq_true rfl) (ls := [(0, zr 0 0)]) rfl ?_
  unfold fX0_close at hF
  refine v_aload_n (j := 0) dX0_close_0 rfl ?_
  refine v_iconst (v := 0) dX0_close_1 (by decide) ?_
  refine v_putI (c := 0) rfl rfl (Nat.le_of_ble_eq_true rfl) cz0 flX0_42 dX0_close_2 ?_
  refine v_toph fun h1 eh1 => ?_
  replace hF := lb_use eh1 hF
  clear eh1
  cases hF
  exact v_vret rfl dX0_close_5
