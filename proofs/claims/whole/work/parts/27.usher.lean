/-! functions and ties, printed by program (wip/gen/dec.py) -/
theorem dX10_init_0 : decode cX10_init 0 = .ok (.aload_n 0, 1) := by decide +kernel
theorem dX10_init_1 : decode cX10_init 1 = .ok (.invokespecial 3, 3) := by decide +kernel
theorem dX10_init_4 : decode cX10_init 4 = .ok (.aload_n 0, 1) := by decide +kernel
theorem dX10_init_5 : decode cX10_init 5 = .ok (.sipush 257, 3) := by decide +kernel
theorem dX10_init_8 : decode cX10_init 8 = .ok (.newarray .int, 2) := by decide +kernel
theorem dX10_init_10 : decode cX10_init 10 = .ok (.putfield 9, 3) := by decide +kernel
theorem dX10_init_13 : decode cX10_init 13 = .ok (.aload_n 0, 1) := by decide +kernel
theorem dX10_init_14 : decode cX10_init 14 = .ok (.bipush 12, 2) := by decide +kernel
theorem dX10_init_16 : decode cX10_init 16 = .ok (.newarray .int, 2) := by decide +kernel
theorem dX10_init_18 : decode cX10_init 18 = .ok (.putfield 15, 3) := by decide +kernel
theorem dX10_init_21 : decode cX10_init 21 = .ok (.aload_n 0, 1) := by decide +kernel
theorem dX10_init_22 : decode cX10_init 22 = .ok (.bipush 12, 2) := by decide +kernel
theorem dX10_init_24 : decode cX10_init 24 = .ok (.newarray .int, 2) := by decide +kernel
theorem dX10_init_26 : decode cX10_init 26 = .ok (.putfield 18, 3) := by decide +kernel
theorem dX10_init_29 : decode cX10_init 29 = .ok (.aload_n 0, 1) := by decide +kernel
theorem dX10_init_30 : decode cX10_init 30 = .ok (.sipush 3341, 3) := by decide +kernel
theorem dX10_init_33 : decode cX10_init 33 = .ok (.newarray .long, 2) := by decide +kernel
theorem dX10_init_35 : decode cX10_init 35 = .ok (.putfield 21, 3) := by decide +kernel
theorem dX10_init_38 : decode cX10_init 38 = .ok (.aload_n 0, 1) := by decide +kernel
theorem dX10_init_39 : decode cX10_init 39 = .ok (.aload_n 1, 1) := by decide +kernel
theorem dX10_init_40 : decode cX10_init 40 = .ok (.putfield 25, 3) := by decide +kernel
theorem dX10_init_43 : decode cX10_init 43 = .ok (.aload_n 0, 1) := by decide +kernel
theorem dX10_init_44 : decode cX10_init 44 = .ok (.aload_n 2, 1) := by decide +kernel
theorem dX10_init_45 : decode cX10_init 45 = .ok (.putfield 29, 3) := by decide +kernel
theorem dX10_init_48 : decode cX10_init 48 = .ok (.return_, 1) := by decide +kernel
def fX10_init (a0 : Nat) (a1 : Option Nat) (a2 : Option Nat) (h : Hp) : Option (Unit × Hp) := lb (gN h 48) (fun z1 => lb (nw h 48 257) (fun h2 => lb (sR h2 10 a0 2 (some z1)) (fun h3 => lb (gN h3 49) (fun z4 => lb (nw h3 49 12) (fun h5 => lb (sR h5 10 a0 3 (some z4)) (fun h6 => lb (gN h6 50) (fun z7 => lb (nw h6 50 12) (fun h8 => lb (sR h8 10 a0 4 (some z7)) (fun h9 => lb (gN h9 51) (fun z10 => lb (nw h9 51 3341) (fun h11 => lb (sR h11 10 a0 6 (some z10)) (fun h12 => lb (sR h12 10 a0 0 a1) (fun h13 => lb (sR h13 10 a0 1 a2) (fun h14 => some ((), h14)))))))))))))))
set_option maxRecDepth 20000 in
theorem tX10_init {X : Cz} {a0 : Nat} {a1 : Option Nat} {a2 : Option Nat} {h hE : Hp} {rE : Unit} (hF : fX10_init a0 a1 a2 h = some (rE, hE)) : Ct X mX10_init false [zr 10 a0, zq 1 a1, zq 4 a2] h (none) hE := by
  refine Ct_of (by decide) (Nat.le_of_ble_eq_true rfl) (ls := [(0, zr 10 a0), (1, zq 1 a1), (2, zq 4 a2)]) rfl ?_
  unfold fX10_init at hF
  refine v_aload_n (j := 0) dX10_init_0 rfl ?_
  refine v_objI mlX10_3 oiI oiC (by decide) (Nat.le_of_ble_eq_true rfl) dX10_init_1 ?_
  refine v_aload_n (j := 0) dX10_init_4 rfl ?_
  refine v_sipush (v := 257) dX10_init_5 (by decide) ?_
  refine v_newa (k := 48) (idx := 0) (at0 := .int) rfl (by decide) rfl ac_int (by decide) (by decide) (by decide) (Or.inl rfl) dX10_init_8 ?_
  refine v_topr fun z1 ez1 => ?_
  replace hF := lb_use ez1 hF
  clear ez1
  refine v_toph fun h2 eh2 => ?_
  replace hF := lb_use eh2 hF
  clear eh2
  refine v_putFR (o := some z1) (c := 10) (k2 := 48) rfl rfl (Nat.le_of_ble_eq_true rfl) rfl (Or.inl rfl) cz10 flX10_9 rfl (fun q hq => by cases hq; rfl) dX10_init_10 ?_
  refine v_toph fun h3 eh3 => ?_
  replace hF := lb_use eh3 hF
  clear eh3
  refine v_aload_n (j := 0) dX10_init_13 rfl ?_
  refine v_bipush (v := 12) dX10_init_14 (by decide) ?_
  refine v_newa (k := 49) (idx := 0) (at0 := .int) rfl (by decide) rfl ac_int (by decide) (by decide) (by decide) (Or.inl rfl) dX10_init_16 ?_
  refine v_topr fun z4 ez4 => ?_
  replace hF := lb_use ez4 hF
  clear ez4
  refine v_toph fun h5 eh5 => ?_
  replace hF := lb_use eh5 hF
  clear eh5
  refine v_putFR (o := some z4) (c := 10) (k2 := 49) rfl rfl (Nat.le_of_ble_eq_true rfl) rfl (Or.inl rfl) cz10 flX10_15 rfl (fun q hq => by cases hq; rfl) dX10_init_18 ?_
  refine v_toph fun h6 eh6 => ?_
  replace hF := lb_use eh6 hF
  clear eh6
  refine v_aload_n (j := 0) dX10_init_21 rfl ?_
  refine v_bipush (v := 12) dX10_init_22 (by decide) ?_
  refine v_newa (k := 50) (idx := 0) (at0 := .int) rfl (by decide) rfl ac_int (by decide) (by decide) (by decide) (Or.inl rfl) dX10_init_24 ?_
  refine v_topr fun z7 ez7 => ?_
  replace hF := lb_use ez7 hF
  clear ez7
  refine v_toph fun h8 eh8 => ?_
  replace hF := lb_use eh8 hF
  clear eh8
  refine v_putFR (o := some z7) (c := 10) (k2 := 50) rfl rfl (Nat.le_of_ble_eq_true rfl) rfl (Or.inl rfl) cz10 flX10_18 rfl (fun q hq => by cases hq; rfl) dX10_init_26 ?_
  refine v_toph fun h9 eh9 => ?_
  replace hF := lb_use eh9 hF
  clear eh9
  refine v_aload_n (j := 0) dX10_init_29 rfl ?_
  refine v_sipush (v := 3341) dX10_init_30 (by decide) ?_
  refine v_newa (k := 51) (idx := 0) (at0 := .long) rfl (by decide) rfl ac_long (by decide) (by decide) (by decide) (Or.inl rfl) dX10_init_33 ?_
  refine v_topr fun z10 ez10 => ?_
  replace hF := lb_use ez10 hF
  clear ez10
  refine v_toph fun h11 eh11 => ?_
  replace hF := lb_use eh11 hF
  clear eh11
  refine v_putFR (o := some z10) (c := 10) (k2 := 51) rfl rfl (Nat.le_of_ble_eq_true rfl) rfl (Or.inl rfl) cz10 flX10_21 rfl (fun q hq => by cases hq; rfl) dX10_init_35 ?_
  refine v_toph fun h12 eh12 => ?_
  replace hF := lb_use eh12 hF
  clear eh12
  refine v_aload_n (j := 0) dX10_init_38 rfl ?_
  refine v_aload_n (j := 1) dX10_init_39 rfl ?_
  refine v_putFR (o := a1) (c := 10) (k2 := 1) rfl rfl (Nat.le_of_ble_eq_true rfl) rfl (Or.inl rfl) cz10 flX10_25 rfl (fun q hq => by cases hq; rfl) dX10_init_40 ?_
  refine v_toph fun h13 eh13 => ?_
  replace hF := lb_use eh13 hF
  clear eh13
  refine v_aload_n (j := 0) dX10_init_43 rfl ?_
  refine v_aload_n (j := 2) dX10_init_44 rfl ?_
  refine v_putFR (o := a2) (c := 10) (k2 := 4) rfl rfl (Nat.le_of_ble_eq_true rfl) rfl (Or.inl rfl) cz10 flX10_29 rfl (fun q hq => by cases hq; rfl) dX10_init_45 ?_
  refine v_toph fun h14 eh14 => ?_
  replace hF := lb_use eh14 hF
  clear eh14
  cases hF
  exact v_vret rfl dX10_init_48
theorem dX10_setOpen_0 : decode cX10_setOpen 0 = .ok (.iload_n 1, 1) := by decide +kernel
theorem dX10_setOpen_1 : decode cX10_setOpen 1 = .ok (.bipush 32, 2) := by decide +kernel
theorem dX10_setOpen_3 : decode cX10_setOpen 3 = .ok (.irem, 1) := by decide +kernel
theorem dX10_setOpen_4 : decode cX10_setOpen 4 = .ok (.bipush 31, 2) := by decide +kernel
theorem dX10_setOpen_6 : decode cX10_setOpen 6 = .ok (.if_icmp .ne 7, 3) := by decide +kernel
theorem dX10_setOpen_9 : decode cX10_setOpen 9 = .ok (.iconst 1, 1) := by decide +kernel
theorem dX10_setOpen_10 : decode cX10_setOpen 10 = .ok (.goto 4, 3) := by decide +kernel
theorem dX10_setOpen_13 : decode cX10_setOpen 13 = .ok (.iconst 0, 1) := by decide +kernel
theorem dX10_setOpen_14 : decode cX10_setOpen 14 = .ok (.istore_n 3, 1) := by decide +kernel
theorem dX10_setOpen_15 : decode cX10_setOpen 15 = .ok (.aload_n 0, 1) := by decide +kernel
theorem dX10_setOpen_16 : decode cX10_setOpen 16 = .ok (.getfield 9, 3) := by decide +kernel
theorem dX10_setOpen_19 : decode cX10_setOpen 19 = .ok (.iload_n 1, 1) := by decide +kernel
theorem dX10_setOpen_20 : decode cX10_setOpen 20 = .ok (.iload_n 2, 1) := by decide +kernel
theorem dX10_setOpen_21 : decode cX10_setOpen 21 = .ok (.ifCond .eq 24, 3) := by decide +kernel
theorem dX10_setOpen_24 : decode cX10_setOpen 24 = .ok (.iconst 1, 1) := by decide +kernel
theorem dX10_setOpen_25 : decode cX10_setOpen 25 = .ok (.iload_n 3, 1) := by decide +kernel
theorem dX10_setOpen_26 : decode cX10_setOpen 26 = .ok (.ifCond .eq 7, 3) := by decide +kernel
theorem dX10_setOpen_29 : decode cX10_setOpen 29 = .ok (.iconst 0, 1) := by decide +kernel
theorem dX10_setOpen_30 : decode cX10_setOpen 30 = .ok (.goto 11, 3) := by decide +kernel
theorem dX10_setOpen_33 : decode cX10_setOpen 33 = .ok (.aload_n 0, 1) := by decide +kernel
theorem dX10_setOpen_34 : decode cX10_setOpen 34 = .ok (.getfield 9, 3) := by decide +kernel
theorem dX10_setOpen_37 : decode cX10_setOpen 37 = .ok (.iload_n 1, 1) := by decide +kernel
theorem dX10_setOpen_38 : decode cX10_setOpen 38 = .ok (.iconst 1, 1) := by decide +kernel
theorem dX10_setOpen_39 : decode cX10_setOpen 39 = .ok (.iadd, 1) := by decide +kernel
theorem dX10_setOpen_40 : decode cX10_setOpen 40 = .ok (.iaload, 1) := by decide +kernel
theorem dX10_setOpen_41 : decode cX10_setOpen 41 = .ok (.iadd, 1) := by decide +kernel
theorem dX10_setOpen_42 : decode cX10_setOpen 42 = .ok (.goto 4, 3) := by decide +kernel
theorem dX10_setOpen_45 : decode cX10_setOpen 45 = .ok (.iconst 0, 1) := by decide +kernel
theorem dX10_setOpen_46 : decode cX10_setOpen 46 = .ok (.iastore, 1) := by decide +kernel
theorem dX10_setOpen_47 : decode cX10_setOpen 47 = .ok (.return_, 1) := by decide +kernel
def fX10_setOpen (a1 : Int32) (a2 : Int32) (h : Hp) : Option (Unit × Hp) := lb (fun (x2 : Int32) (h3 : Hp) => br (a2 = 0) (gd (ib a1 257) (lb (sI h3 48 0 (ix a1) 0) (fun h5 => some ((), h5)))) (br (x2 = 0) (gd (ib (a1 + 1) 257) (gd (ib a1 257) (lb (sI h3 48 0 (ix a1) ((1 : Int32) + (gI h3 48 0 (ix (a1 + 1))))) (fun h8 => some ((), h8))))) (gd (ib a1 257) (lb (sI h3 48 0 (ix a1) ((1 : Int32) + 0)) (fun h10 => some ((), h10)))))) (fun j1 => br ((a1 - a1 / 32 * 32) = 31) (j1 1 h) (j1 0 h))
set_option maxRecDepth 20000 in
theorem tX10_setOpen {X : Cz} {a1 : Int32} {a2 : Int32} {h hE : Hp} {rE : Unit} (hF : fX10_setOpen a1 a2 h = some (rE, hE)) : Ct X mX10_setOpen true [zr 10 0, zi a1, zi a2] h (none) hE := by
  refine Ct_of (by decide) (Nat.le_of_ble_eq_true rfl) (ls := [(0, zr 10 0), (1, zi a1), (2, zi a2)]) rfl ?_
  unfold fX10_setOpen at hF
  refine v_iload_n (j := 1) dX10_setOpen_0 rfl ?_
  refine v_bipush (v := 32) dX10_setOpen_1 (by decide) ?_
  refine v_irem dX10_setOpen_3 (by decide) ?_
  refine v_bipush (v := 31) dX10_setOpen_4 (by decide) ?_
  replace hF := lb_ex hF
  obtain ⟨j1, ej1, hF⟩ := hF
  have j1V : ∀ (x2 : Int32) (h3 : Hp), j1 x2 h3 = some ((), hE) → V X mX10_setOpen true h 14 [(0, zr 10 0), (1, zi a1), (2, zi a2)] [zi x2] h3 (none) hE := by
    intro x2 h3 hF
    subst ej1
    refine v_istore_n (ls' := [(3, zi x2), (0, zr 10 0), (1, zi a1), (2, zi a2)]) dX10_setOpen_14 (by decide) rfl ?_
    refine v_aload_n (j := 1) dX10_setOpen_15 rfl ?_
    refine v_getL (c := 10) rfl rfl rfl ly10_2 cz10 flX10_9 dX10_setOpen_16 ?_
    refine v_iload_n (j := 2) dX10_setOpen_19 rfl ?_
    refine v_iload_n (j := 3) dX10_setOpen_20 rfl ?_
    refine v_if_eq dX10_setOpen_21 (by decide : _ = ((45 : Nat) : Int)) (fun q => ?_) (fun q => ?_)
    · replace hF := brT q hF
      refine v_iconst (v := 0) dX10_setOpen_45 (by decide) ?_
      replace hF := gd_use hF
      obtain ⟨q4, hF⟩ := hF
      refine v_iast rfl q4 dX10_setOpen_46 ?_
      refine v_toph fun h5 eh5 => ?_
      replace hF := lb_use eh5 hF
      clear eh5
      cases hF
      exact v_vret rfl dX10_setOpen_47
    · replace hF := brF q hF
      refine v_iconst (v := 1) dX10_setOpen_24 (by decide) ?_
      refine v_iload_n (j := 0) dX10_setOpen_25 rfl ?_
      refine v_if_eq dX10_setOpen_26 (by decide : _ = ((33 : Nat) : Int)) (fun q => ?_) (fun q => ?_)
      · replace hF := brT q hF
        refine v_aload_n (j := 1) dX10_setOpen_33 rfl ?_
        refine v_getL (c := 10) rfl rfl rfl ly10_2 cz10 flX10_9 dX10_setOpen_34 ?_
        refine v_iload_n (j := 2) dX10_setOpen_37 rfl ?_
        refine v_iconst (v := 1) dX10_setOpen_38 (by decide) ?_
        refine v_iadd dX10_setOpen_39 ?_
        replace hF := gd_use hF
        obtain ⟨q6, hF⟩ := hF
        refine v_iald rfl q6 dX10_setOpen_40 ?_
        refine v_iadd dX10_setOpen_41 ?_
        refine v_goto (tgt := 46) dX10_setOpen_42 (by decide) ?_
        replace hF := gd_use hF
        obtain ⟨q7, hF⟩ := hF
        refine v_iast rfl q7 dX10_setOpen_46 ?_
        refine v_toph fun h8 eh8 => ?_
        replace hF := lb_use eh8 hF
        clear eh8
        cases hF
        exact v_vret rfl dX10_setOpen_47
      · replace hF := brF q hF
        refine v_iconst (v := 0) dX10_setOpen_29 (by decide) ?_
        refine v_goto (tgt := 41) dX10_setOpen_30 (by decide) ?_
        refine v_iadd dX10_setOpen_41 ?_
        refine v_goto (tgt := 46) dX10_setOpen_42 (by decide) ?_
        replace hF := gd_use hF
        obtain ⟨q9, hF⟩ := hF
        refine v_iast rfl q9 dX10_setOpen_46 ?_
        refine v_toph fun h10 eh10 => ?_
        replace hF := lb_use eh10 hF
        clear eh10
        cases hF
        exact v_vret rfl dX10_setOpen_47
  clear ej1
  refine v_icmp_ne dX10_setOpen_6 (by decide : _ = ((13 : Nat) : Int)) (fun q => ?_) (fun q => ?_)
  · replace hF := brF q hF
    refine v_iconst (v := 0) dX10_setOpen_13 (by decide) ?_
    exact j1V 0 h hF
  · replace hF := brT (Decidable.not_not.mp q) hF
    refine v_iconst (v := 1) dX10_setOpen_9 (by decide) ?_
    refine v_goto (tgt := 14) dX10_setOpen_10 (by decide) ?_
    exact j1V 1 h hF
theorem dX10_isRunOpen_0 : decode cX10_isRunOpen 0 = .ok (.aload_n 0, 1) := by decide +kernel
theorem dX10_isRunOpen_1 : decode cX10_isRunOpen 1 = .ok (.getfield 9, 3) := by decide +kernel
theorem dX10_isRunOpen_4 : decode cX10_isRunOpen 4 = .ok (.iload_n 1, 1) := by decide +kernel
theorem dX10_isRunOpen_5 : decode cX10_isRunOpen 5 = .ok (.iaload, 1) := by decide +kernel
theorem dX10_isRunOpen_6 : decode cX10_isRunOpen 6 = .ok (.iload_n 2, 1) := by decide +kernel
theorem dX10_isRunOpen_7 : decode cX10_isRunOpen 7 = .ok (.if_icmp .lt 26, 3) := by decide +kernel
theorem dX10_isRunOpen_10 : decode cX10_isRunOpen 10 = .ok (.iload_n 3, 1) := by decide +kernel
theorem dX10_isRunOpen_11 : decode cX10_isRunOpen 11 = .ok (.ifCond .ne 18, 3) := by decide +kernel
theorem dX10_isRunOpen_14 : decode cX10_isRunOpen 14 = .ok (.aload_n 0, 1) := by decide +kernel
theorem dX10_isRunOpen_15 : decode cX10_isRunOpen 15 = .ok (.getfield 25, 3) := by decide +kernel
theorem dX10_isRunOpen_18 : decode cX10_isRunOpen 18 = .ok (.getfield 86, 3) := by decide +kernel
theorem dX10_isRunOpen_21 : decode cX10_isRunOpen 21 = .ok (.iload_n 1, 1) := by decide +kernel
theorem dX10_isRunOpen_22 : decode cX10_isRunOpen 22 = .ok (.bipush 32, 2) := by decide +kernel
theorem dX10_isRunOpen_24 : decode cX10_isRunOpen 24 = .ok (.idiv, 1) := by decide +kernel
theorem dX10_isRunOpen_25 : decode cX10_isRunOpen 25 = .ok (.baload, 1) := by decide +kernel
theorem dX10_isRunOpen_26 : decode cX10_isRunOpen 26 = .ok (.ifCond .ne 7, 3) := by decide +kernel
theorem dX10_isRunOpen_29 : decode cX10_isRunOpen 29 = .ok (.iconst 1, 1) := by decide +kernel
theorem dX10_isRunOpen_30 : decode cX10_isRunOpen 30 = .ok (.goto 4, 3) := by decide +kernel
theorem dX10_isRunOpen_33 : decode cX10_isRunOpen 33 = .ok (.iconst 0, 1) := by decide +kernel
theorem dX10_isRunOpen_34 : decode cX10_isRunOpen 34 = .ok (.ireturn, 1) := by decide +kernel
def fX10_isRunOpen (a1 : Int32) (a2 : Int32) (a3 : Int32) (h : Hp) : Option (Int32 × Hp) := gd (ib a1 257) (br ((gI h 48 0 (ix a1)) < a2) (some (0, h)) (br (a3 = 0) (gd (ib (a1 / 32) 8) (br ((gI h 29 0 (ix (a1 / 32))) = 0) (some (1, h)) (some (0, h)))) (some (1, h))))
set_option maxRecDepth 20000 in
theorem tX10_isRunOpen {X : Cz} {a1 : Int32} {a2 : Int32} {a3 : Int32} {h hE : Hp} {rE : Int32} (hF : fX10_isRunOpen a1 a2 a3 h = some (rE, hE)) : Ct X mX10_isRunOpen true [zr 10 0, zi a1, zi a2, zi a3] h (some (zi rE)) hE := by
  refine Ct_of (by decide) (Nat.le_of_ble_eq_true rfl) (ls := [(0, zr 10 0), (1, zi a1), (2, zi a2), (3, zi a3)]) rfl ?_
  unfold fX10_isRunOpen at hF
  refine v_aload_n (j := 0) dX10_isRunOpen_0 rfl ?_
  refine v_getL (c := 10) rfl rfl rfl ly10_2 cz10 flX10_9 dX10_isRunOpen_1 ?_
  refine v_iload_n (j := 1) dX10_isRunOpen_4 rfl ?_
  replace hF := gd_use hF
  obtain ⟨q1, hF⟩ := hF
  refine v_iald rfl q1 dX10_isRunOpen_5 ?_
  refine v_iload_n (j := 2) dX10_isRunOpen_6 rfl ?_
  refine v_icmp_lt dX10_isRunOpen_7 (by decide : _ = ((33 : Nat) : Int)) (fun q => ?_) (fun q => ?_)
  · replace hF := brT q hF
    refine v_iconst (v := 0) dX10_isRunOpen_33 (by decide) ?_
    obtain ⟨rfl, rfl⟩ := ret_use hF
    exact v_zret rfl (Or.inl rfl) dX10_isRunOpen_34
  · replace hF := brF q hF
    refine v_iload_n (j := 3) dX10_isRunOpen_10 rfl ?_
    refine v_if_ne dX10_isRunOpen_11 (by decide : _ = ((29 : Nat) : Int)) (fun q => ?_) (fun q => ?_)
    · replace hF := brF q hF
      refine v_iconst (v := 1) dX10_isRunOpen_29 (by decide) ?_
      refine v_goto (tgt := 34) dX10_isRunOpen_30 (by decide) ?_
      obtain ⟨rfl, rfl⟩ := ret_use hF
      exact v_zret rfl (Or.inr rfl) dX10_isRunOpen_34
    · replace hF := brT (Decidable.not_not.mp q) hF
      refine v_aload_n (j := 0) dX10_isRunOpen_14 rfl ?_
      refine v_getL (c := 10) rfl rfl rfl ly10_0 cz10 flX10_25 dX10_isRunOpen_15 ?_
      refine v_getL (c := 1) rfl rfl rfl ly1_11 cz1 flX10_86 dX10_isRunOpen_18 ?_
      refine v_iload_n (j := 1) dX10_isRunOpen_21 rfl ?_
      refine v_bipush (v := 32) dX10_isRunOpen_22 (by decide) ?_
      refine v_idiv dX10_isRunOpen_24 (by decide) ?_
      replace hF := gd_use hF
      obtain ⟨q2, hF⟩ := hF
      refine v_zald rfl q2 dX10_isRunOpen_25 ?_
      refine v_if_ne dX10_isRunOpen_26 (by decide : _ = ((33 : Nat) : Int)) (fun q => ?_) (fun q => ?_)
      · replace hF := brF q hF
        refine v_iconst (v := 0) dX10_isRunOpen_33 (by decide) ?_
        obtain ⟨rfl, rfl⟩ := ret_use hF
        exact v_zret rfl (Or.inl rfl) dX10_isRunOpen_34
      · replace hF := brT (Decidable.not_not.mp q) hF
        refine v_iconst (v := 1) dX10_isRunOpen_29 (by decide) ?_
        refine v_goto (tgt := 34) dX10_isRunOpen_30 (by decide) ?_
        obtain ⟨rfl, rfl⟩ := ret_use hF
        exact v_zret rfl (Or.inr rfl) dX10_isRunOpen_34
theorem dX10_bestRun_0 : decode cX10_bestRun 0 = .ok (.iconst (-1), 1) := by decide +kernel
theorem dX10_bestRun_1 : decode cX10_bestRun 1 = .ok (.istore 4, 2) := by decide +kernel
theorem dX10_bestRun_3 : decode cX10_bestRun 3 = .ok (.iconst (-1), 1) := by decide +kernel
theorem dX10_bestRun_4 : decode cX10_bestRun 4 = .ok (.istore 5, 2) := by decide +kernel
theorem dX10_bestRun_6 : decode cX10_bestRun 6 = .ok (.aload_n 0, 1) := by decide +kernel
theorem dX10_bestRun_7 : decode cX10_bestRun 7 = .ok (.getfield 25, 3) := by decide +kernel
theorem dX10_bestRun_10 : decode cX10_bestRun 10 = .ok (.invokevirtual 33, 3) := by decide +kernel
theorem dX10_bestRun_13 : decode cX10_bestRun 13 = .ok (.istore 6, 2) := by decide +kernel
theorem dX10_bestRun_15 : decode cX10_bestRun 15 = .ok (.iconst 0, 1) := by decide +kernel
theorem dX10_bestRun_16 : decode cX10_bestRun 16 = .ok (.istore 7, 2) := by decide +kernel
theorem dX10_bestRun_18 : decode cX10_bestRun 18 = .ok (.iload 7, 2) := by decide +kernel
theorem dX10_bestRun_20 : decode cX10_bestRun 20 = .ok (.iload 6, 2) := by decide +kernel
theorem dX10_bestRun_22 : decode cX10_bestRun 22 = .ok (.if_icmp .ge 48, 3) := by decide +kernel
theorem dX10_bestRun_25 : decode cX10_bestRun 25 = .ok (.aload_n 0, 1) := by decide +kernel
theorem dX10_bestRun_26 : decode cX10_bestRun 26 = .ok (.iload 7, 2) := by decide +kernel
theorem dX10_bestRun_28 : decode cX10_bestRun 28 = .ok (.iload_n 1, 1) := by decide +kernel
theorem dX10_bestRun_29 : decode cX10_bestRun 29 = .ok (.iload_n 3, 1) := by decide +kernel
theorem dX10_bestRun_30 : decode cX10_bestRun 30 = .ok (.invokevirtual 39, 3) := by decide +kernel
theorem dX10_bestRun_33 : decode cX10_bestRun 33 = .ok (.ifCond .eq 31, 3) := by decide +kernel
theorem dX10_bestRun_36 : decode cX10_bestRun 36 = .ok (.aload_n 0, 1) := by decide +kernel
theorem dX10_bestRun_37 : decode cX10_bestRun 37 = .ok (.getfield 25, 3) := by decide +kernel
theorem dX10_bestRun_40 : decode cX10_bestRun 40 = .ok (.iload 7, 2) := by decide +kernel
theorem dX10_bestRun_42 : decode cX10_bestRun 42 = .ok (.iload_n 1, 1) := by decide +kernel
theorem dX10_bestRun_43 : decode cX10_bestRun 43 = .ok (.iload_n 2, 1) := by decide +kernel
theorem dX10_bestRun_44 : decode cX10_bestRun 44 = .ok (.invokevirtual 43, 3) := by decide +kernel
theorem dX10_bestRun_47 : decode cX10_bestRun 47 = .ok (.istore 8, 2) := by decide +kernel
theorem dX10_bestRun_49 : decode cX10_bestRun 49 = .ok (.iload 8, 2) := by decide +kernel
theorem dX10_bestRun_51 : decode cX10_bestRun 51 = .ok (.iload 5, 2) := by decide +kernel
theorem dX10_bestRun_53 : decode cX10_bestRun 53 = .ok (.if_icmp .le 11, 3) := by decide +kernel
theorem dX10_bestRun_56 : decode cX10_bestRun 56 = .ok (.iload 8, 2) := by decide +kernel
theorem dX10_bestRun_58 : decode cX10_bestRun 58 = .ok (.istore 5, 2) := by decide +kernel
theorem dX10_bestRun_60 : decode cX10_bestRun 60 = .ok (.iload 7, 2) := by decide +kernel
theorem dX10_bestRun_62 : decode cX10_bestRun 62 = .ok (.istore 4, 2) := by decide +kernel
theorem dX10_bestRun_64 : decode cX10_bestRun 64 = .ok (.iinc 7 1, 3) := by decide +kernel
theorem dX10_bestRun_67 : decode cX10_bestRun 67 = .ok (.goto (-49), 3) := by decide +kernel
theorem dX10_bestRun_70 : decode cX10_bestRun 70 = .ok (.iload 4, 2) := by decide +kernel
theorem dX10_bestRun_72 : decode cX10_bestRun 72 = .ok (.ireturn, 1) := by decide +kernel
def fX10_bestRun_L18 : Nat → Int32 → Int32 → Int32 → Int32 → Int32 → Int32 → Int32 → Hp → Option ((Int32 × Int32 × Int32) × Hp)
  | 0, _, _, _, _, _, _, _, _ => none
  | n + 1, a1, a2, a3, a4, a5, a6, a7, h => br (a6 ≤ a7) (some ((a4, a5, a7), h)) (bd (fX10_isRunOpen a7 a1 a3 h) (fun r2 h3 => br (r2 = 0) (lb (a7 + 1) (fun v4 => fX10_bestRun_L18 n a1 a2 a3 a4 a5 a6 v4 h3)) (bd (fX1_worthOf a7 a1 a2 h3) (fun r5 h6 => br (r5 ≤ a5) (lb (a7 + 1) (fun v7 => fX10_bestRun_L18 n a1 a2 a3 a4 a5 a6 v7 h6)) (lb (a7 + 1) (fun v8 => fX10_bestRun_L18 n a1 a2 a3 a7 r5 a6 v8 h6))))))
def fX10_bestRun (a1 : Int32) (a2 : Int32) (a3 : Int32) (h : Hp) : Option (Int32 × Hp) := lb (fX1_spotsEnd h) (fun v1 => bd (fX10_bestRun_L18 FU a1 a2 a3 (-1) (-1) v1 0 h) (fun t10 h9 => lb t10.1 (fun v11 => lb t10.2.1 (fun v12 => lb t10.2.2 (fun v13 => some (v11, h9))))))
set_option maxRecDepth 20000 in
theorem tX10_bestRun_L18 {X : Cz} {h0 : Hp} {r : Option AV} {hE : Hp} : ∀ (n : Nat) (a1 : Int32) (a2 : Int32) (a3 : Int32) (a4 : Int32) (a5 : Int32) (a6 : Int32) (a7 : Int32) (h : Hp) (z : (Int32 × Int32 × Int32) × Hp), fX10_bestRun_L18 n a1 a2 a3 a4 a5 a6 a7 h = some z → V X mX10_bestRun true h0 70 [(0, zr 10 0), (1, zi a1), (2, zi a2), (3, zi a3), (4, zi z.1.1), (5, zi z.1.2.1), (6, zi a6), (7, zi z.1.2.2)] [] z.2 r hE → V X mX10_bestRun true h0 18 [(0, zr 10 0), (1, zi a1), (2, zi a2), (3, zi a3), (4, zi a4), (5, zi a5), (6, zi a6), (7, zi a7)] [] h r hE := by
  intro n
  induction n with
  | zero => intro a1 a2 a3 a4 a5 a6 a7 h z hF k; cases hF
  | succ n ih =>
    intro a1 a2 a3 a4 a5 a6 a7 h z hF k
    rw [fX10_bestRun_L18] at hF
    refine v_iload (j := 7) dX10_bestRun_18 rfl ?_
    refine v_iload (j := 6) dX10_bestRun_20 rfl ?_
    refine v_icmp_ge dX10_bestRun_22 (by decide : _ = ((70 : Nat) : Int)) (fun q => ?_) (fun q => ?_)
    · replace hF := brT q hF
      cases hF
      exact k
    · replace hF := brF q hF
      refine v_aload_n (j := 0) dX10_bestRun_25 rfl ?_
      refine v_iload (j := 7) dX10_bestRun_26 rfl ?_
      refine v_iload_n (j := 1) dX10_bestRun_28 rfl ?_
      refine v_iload_n (j := 3) dX10_bestRun_29 rfl ?_
      replace hF := bd_use hF
      obtain ⟨r2, h3, er2, hF⟩ := hF
      refine v_cV (hm := h3) (av := [zi a7, zi a1, zi a3]) (st := []) (stn := [zi r2]) (tX10_isRunOpen er2) lcX10_isRunOpen mlX10_39 imX10_isRunOpen seX10_isRunOpen rfl rfl rfl rfl ⟨by decide, by decide⟩ (Nat.le_of_ble_eq_true rfl) dX10_bestRun_30 rfl rfl ?_
      clear er2
      refine v_if_eq dX10_bestRun_33 (by decide : _ = ((64 : Nat) : Int)) (fun q => ?_) (fun q => ?_)
      · replace hF := brT q hF
        obtain ⟨v4, ev4⟩ : ∃ y : Int32, y = a7 + 1 := ⟨_, rfl⟩
        replace hF := lb_use ev4 hF
        refine v_iinc (j := 7) (v := v4) (ls' := [(7, zi v4), (0, zr 10 0), (1, zi a1), (2, zi a2), (3, zi a3), (4, zi a4), (5, zi a5), (6, zi a6)]) dX10_bestRun_64 rfl (by rw [ev4]; rfl) (by decide) rfl ?_
        clear ev4
        refine v_goto (tgt := 18) dX10_bestRun_67 (by decide) ?_
        refine v_sub [1, 2, 3, 4, 5, 6, 7, 0] rfl ?_
        exact ih a1 a2 a3 a4 a5 a6 v4 h3 _ hF k
      · replace hF := brF q hF
        refine v_aload_n (j := 0) dX10_bestRun_36 rfl ?_
        refine v_getL (c := 10) rfl rfl rfl ly10_0 cz10 flX10_25 dX10_bestRun_37 ?_
        refine v_iload (j := 7) dX10_bestRun_40 rfl ?_
        refine v_iload_n (j := 1) dX10_bestRun_42 rfl ?_
        refine v_iload_n (j := 2) dX10_bestRun_43 rfl ?_
        replace hF := bd_use hF
        obtain ⟨r5, h6, er5, hF⟩ := hF
        refine v_cV (hm := h6) (av := [zi a7, zi a1, zi a2]) (st := []) (stn := [zi r5]) (tX1_worthOf er5) lcX1_worthOf mlX10_43 imX1_worthOf seX1_worthOf rfl rfl rfl rfl ⟨by decide, by decide⟩ (Nat.le_of_ble_eq_true rfl) dX10_bestRun_44 rfl rfl ?_
        clear er5
        refine v_istore (ls' := [(8, zi r5), (0, zr 10 0), (1, zi a1), (2, zi a2), (3, zi a3), (4, zi a4), (5, zi a5), (6, zi a6), (7, zi a7)]) dX10_bestRun_47 (by decide) rfl ?_
        refine v_iload (j := 0) dX10_bestRun_49 rfl ?_
        refine v_iload (j := 6) dX10_bestRun_51 rfl ?_
        refine v_icmp_le dX10_bestRun_53 (by decide : _ = ((64 : Nat) : Int)) (fun q => ?_) (fun q => ?_)
        · replace hF := brT q hF
          obtain ⟨v7, ev7⟩ : ∃ y : Int32, y = a7 + 1 := ⟨_, rfl⟩
          replace hF := lb_use ev7 hF
          refine v_iinc (j := 8) (v := v7) (ls' := [(7, zi v7), (8, zi r5), (0, zr 10 0), (1, zi a1), (2, zi a2), (3, zi a3), (4, zi a4), (5, zi a5), (6, zi a6)]) dX10_bestRun_64 rfl (by rw [ev7]; rfl) (by decide) rfl ?_
          clear ev7
          refine v_goto (tgt := 18) dX10_bestRun_67 (by decide) ?_
          refine v_sub [2, 3, 4, 5, 6, 7, 8, 0] rfl ?_
          exact ih a1 a2 a3 a4 a5 a6 v7 h6 _ hF k
        · replace hF := brF q hF
          refine v_iload (j := 0) dX10_bestRun_56 rfl ?_
          refine v_istore (ls' := [(5, zi r5), (8, zi r5), (0, zr 10 0), (1, zi a1), (2, zi a2), (3, zi a3), (4, zi a4), (6, zi a6), (7, zi a7)]) dX10_bestRun_58 (by decide) rfl ?_
          refine v_iload (j := 8) dX10_bestRun_60 rfl ?_
          refine v_istore (ls' := [(4, zi a7), (5, zi r5), (8, zi r5), (0, zr 10 0), (1, zi a1), (2, zi a2), (3, zi a3), (6, zi a6), (7, zi a7)]) dX10_bestRun_62 (by decide) rfl ?_
          obtain ⟨v8, ev8⟩ : ∃ y : Int32, y = a7 + 1 := ⟨_, rfl⟩
          replace hF := lb_use ev8 hF
          refine v_iinc (j := 8) (v := v8) (ls' := [(7, zi v8), (4, zi a7), (5, zi r5), (8, zi r5), (0, zr 10 0), (1, zi a1), (2, zi a2), (3, zi a3), (6, zi a6)]) dX10_bestRun_64 rfl (by rw [ev8]; rfl) (by decide) rfl ?_
          clear ev8
          refine v_goto (tgt := 18) dX10_bestRun_67 (by decide) ?_
          refine v_sub [4, 5, 6, 7, 1, 2, 8, 0] rfl ?_
          exact ih a1 a2 a3 a7 r5 a6 v8 h6 _ hF k
set_option maxRecDepth 20000 in
theorem tX10_bestRun {X : Cz} {a1 : Int32} {a2 : Int32} {a3 : Int32} {h hE : Hp} {rE : Int32} (hF : fX10_bestRun a1 a2 a3 h = some (rE, hE)) : Ct X mX10_bestRun true [zr 10 0, zi a1, zi a2, zi a3] h (some (zi rE)) hE := by
  refine Ct_of (by decide) (Nat.le_of_ble_eq_true rfl) (ls := [(0, zr 10 0), (1, zi a1), (2, zi a2), (3, zi a3)]) rfl ?_
  unfold fX10_bestRun at hF
  refine v_iconst (v := (-1)) dX10_bestRun_0 (by decide) ?_
  refine v_istore (ls' := [(4, zi (-1)), (0, zr 10 0), (1, zi a1), (2, zi a2), (3, zi a3)]) dX10_bestRun_1 (by decide) rfl ?_
  refine v_iconst (v := (-1)) dX10_bestRun_3 (by decide) ?_
  refine v_istore (ls' := [(5, zi (-1)), (4, zi (-1)), (0, zr 10 0), (1, zi a1), (2, zi a2), (3, zi a3)]) dX10_bestRun_4 (by decide) rfl ?_
  refine v_aload_n (j := 2) dX10_bestRun_6 rfl ?_
  refine v_getL (c := 10) rfl rfl rfl ly10_0 cz10 flX10_25 dX10_bestRun_7 ?_
  refine v_cV (hm := h) (av := []) (st := []) (stn := [zi (fX1_spotsEnd h)]) (tX1_spotsEnd h) lcX1_spotsEnd mlX10_33 imX1_spotsEnd seX1_spotsEnd rfl rfl rfl rfl ⟨by decide, by decide⟩ (Nat.le_of_ble_eq_true rfl) dX10_bestRun_10 rfl rfl ?_
  refine v_topi fun v1 ev1 => ?_
  replace hF := lb_use ev1 hF
  clear ev1
  refine v_istore (ls' := [(6, zi v1), (5, zi (-1)), (4, zi (-1)), (0, zr 10 0), (1, zi a1), (2, zi a2), (3, zi a3)]) dX10_bestRun_13 (by decide) rfl ?_
  refine v_iconst (v := 0) dX10_bestRun_15 (by decide) ?_
  refine v_istore (ls' := [(7, zi 0), (6, zi v1), (5, zi (-1)), (4, zi (-1)), (0, zr 10 0), (1, zi a1), (2, zi a2), (3, zi a3)]) dX10_bestRun_16 (by decide) rfl ?_
  refine v_sub [4, 5, 6, 7, 3, 2, 1, 0] rfl ?_
  replace hF := bd_use hF
  obtain ⟨t10, h9, et10, hF⟩ := hF
  refine tX10_bestRun_L18 _ a1 a2 a3 (-1) (-1) v1 0 h _ et10 ?_
  clear et10
  obtain ⟨v11, v12, v13⟩ := t10
  replace hF := lb_use (x := v11) rfl hF
  replace hF := lb_use (x := v12) rfl hF
  replace hF := lb_use (x := v13) rfl hF
  refine v_iload (j := 4) dX10_bestRun_70 rfl ?_
  obtain ⟨rfl, rfl⟩ := ret_use hF
  exact v_iret rfl dX10_bestRun_72
theorem dX10_openThoseOf_0 : decode cX10_openThoseOf 0 = .ok (.aload_n 0, 1) := by decide +kernel
theorem dX10_openThoseOf_1 : decode cX10_openThoseOf 1 = .ok (.getfield 25, 3) := by decide +kernel
theorem dX10_openThoseOf_4 : decode cX10_openThoseOf 4 = .ok (.invokevirtual 33, 3) := by decide +kernel
theorem dX10_openThoseOf_7 : decode cX10_openThoseOf 7 = .ok (.iconst 1, 1) := by decide +kernel
theorem dX10_openThoseOf_8 : decode cX10_openThoseOf 8 = .ok (.isub, 1) := by decide +kernel
theorem dX10_openThoseOf_9 : decode cX10_openThoseOf 9 = .ok (.istore_n 3, 1) := by decide +kernel
theorem dX10_openThoseOf_10 : decode cX10_openThoseOf 10 = .ok (.iload_n 3, 1) := by decide +kernel
theorem dX10_openThoseOf_11 : decode cX10_openThoseOf 11 = .ok (.ifCond .lt 37, 3) := by decide +kernel
theorem dX10_openThoseOf_14 : decode cX10_openThoseOf 14 = .ok (.aload_n 0, 1) := by decide +kernel
theorem dX10_openThoseOf_15 : decode cX10_openThoseOf 15 = .ok (.iload_n 3, 1) := by decide +kernel
theorem dX10_openThoseOf_16 : decode cX10_openThoseOf 16 = .ok (.aload_n 1, 1) := by decide +kernel
theorem dX10_openThoseOf_17 : decode cX10_openThoseOf 17 = .ok (.iload_n 3, 1) := by decide +kernel
theorem dX10_openThoseOf_18 : decode cX10_openThoseOf 18 = .ok (.iaload, 1) := by decide +kernel
theorem dX10_openThoseOf_19 : decode cX10_openThoseOf 19 = .ok (.iload_n 2, 1) := by decide +kernel
theorem dX10_openThoseOf_20 : decode cX10_openThoseOf 20 = .ok (.if_icmp .ne 18, 3) := by decide +kernel
theorem dX10_openThoseOf_23 : decode cX10_openThoseOf 23 = .ok (.aload_n 0, 1) := by decide +kernel
theorem dX10_openThoseOf_24 : decode cX10_openThoseOf 24 = .ok (.getfield 25, 3) := by decide +kernel
theorem dX10_openThoseOf_27 : decode cX10_openThoseOf 27 = .ok (.iload_n 3, 1) := by decide +kernel
theorem dX10_openThoseOf_28 : decode cX10_openThoseOf 28 = .ok (.invokevirtual 78, 3) := by decide +kernel
theorem dX10_openThoseOf_31 : decode cX10_openThoseOf 31 = .ok (.ifCond .eq 7, 3) := by decide +kernel
theorem dX10_openThoseOf_34 : decode cX10_openThoseOf 34 = .ok (.iconst 1, 1) := by decide +kernel
theorem dX10_openThoseOf_35 : decode cX10_openThoseOf 35 = .ok (.goto 4, 3) := by decide +kernel
theorem dX10_openThoseOf_38 : decode cX10_openThoseOf 38 = .ok (.iconst 0, 1) := by decide +kernel
theorem dX10_openThoseOf_39 : decode cX10_openThoseOf 39 = .ok (.invokevirtual 82, 3) := by decide +kernel
theorem dX10_openThoseOf_42 : decode cX10_openThoseOf 42 = .ok (.iinc 3 (-1), 3) := by decide +kernel
theorem dX10_openThoseOf_45 : decode cX10_openThoseOf 45 = .ok (.goto (-35), 3) := by decide +kernel
theorem dX10_openThoseOf_48 : decode cX10_openThoseOf 48 = .ok (.return_, 1) := by decide +kernel
def fX10_openThoseOf_L10 : Nat → Int32 → Int32 → Hp → Option ((Int32) × Hp)
  | 0, _, _, _ => none
  | n + 1, a2, a3, h => br (a3 < 0) (some ((a3), h)) (gd (ib a3 256) (lb (fun (x4 : Int32) (x5 : Int32) (h6 : Hp) => bd (fX10_setOpen x4 x5 h6) (fun r7 h8 => lb (a3 + (-1)) (fun v9 => fX10_openThoseOf_L10 n a2 v9 h8))) (fun j3 => lb (fun (x11 : Int32) (h12 : Hp) => j3 x11 0 h12) (fun j10 => br ((gI h 53 0 (ix a3)) = a2) (bd (fX1_isUnitSpot a3 h) (fun r13 h14 => br (r13 = 0) (j10 a3 h14) (j3 a3 1 h14))) (j10 a3 h)))))
def fX10_openThoseOf (a2 : Int32) (h : Hp) : Option (Unit × Hp) := lb ((fX1_spotsEnd h) - 1) (fun v1 => bd (fX10_openThoseOf_L10 FU a2 v1 h) (fun v17 h15 => some ((), h15)))
set_option maxRecDepth 20000 in
theorem tX10_openThoseOf_L10 {X : Cz} {h0 : Hp} {r : Option AV} {hE : Hp} : ∀ (n : Nat) (a2 : Int32) (a3 : Int32) (h : Hp) (z : (Int32) × Hp), fX10_openThoseOf_L10 n a2 a3 h = some z → V X mX10_openThoseOf true h0 48 [(0, zr 10 0), (1, zr 53 0), (2, zi a2), (3, zi z.1)] [] z.2 r hE → V X mX10_openThoseOf true h0 10 [(0, zr 10 0), (1, zr 53 0), (2, zi a2), (3, zi a3)] [] h r hE := by
  intro n
  induction n with
  | zero => intro a2 a3 h z hF k; cases hF
  | succ n ih =>
    intro a2 a3 h z hF k
    rw [fX10_openThoseOf_L10] at hF
    refine v_iload_n (j := 3) dX10_openThoseOf_10 rfl ?_
    refine v_if_lt dX10_openThoseOf_11 (by decide : _ = ((48 : Nat) : Int)) (fun q => ?_) (fun q => ?_)
    · replace hF := brT q hF
      cases hF
      exact k
    · replace hF := brF q hF
      refine v_aload_n (j := 0) dX10_openThoseOf_14 rfl ?_
      refine v_iload_n (j := 3) dX10_openThoseOf_15 rfl ?_
      refine v_aload_n (j := 1) dX10_openThoseOf_16 rfl ?_
      refine v_iload_n (j := 3) dX10_openThoseOf_17 rfl ?_
      replace hF := gd_use hF
      obtain ⟨q2, hF⟩ := hF
      refine v_iald rfl q2 dX10_openThoseOf_18 ?_
      refine v_iload_n (j := 2) dX10_openThoseOf_19 rfl ?_
      replace hF := lb_ex hF
      obtain ⟨j3, ej3, hF⟩ := hF
      have j3V : ∀ (x4 : Int32) (x5 : Int32) (h6 : Hp), j3 x4 x5 h6 = some z → V X mX10_openThoseOf true h0 39 [(0, zr 10 0), (1, zr 53 0), (2, zi a2), (3, zi a3)] [zi x5, zi x4, zr 10 0] h6 r hE := by
        intro x4 x5 h6 hF
        subst ej3
        replace hF := bd_use hF
        obtain ⟨r7, h8, er7, hF⟩ := hF
        refine v_cV (hm := h8) (av := [zi x4, zi x5]) (st := []) (stn := []) (tX10_setOpen er7) lcX10_setOpen mlX10_82 imX10_setOpen seX10_setOpen rfl rfl rfl rfl ⟨by decide, by decide⟩ (Nat.le_of_ble_eq_true rfl) dX10_openThoseOf_39 rfl rfl ?_
        clear er7
        obtain ⟨v9, ev9⟩ : ∃ y : Int32, y = a3 + (-1) := ⟨_, rfl⟩
        replace hF := lb_use ev9 hF
        refine v_iinc (j := 3) (v := v9) (ls' := [(3, zi v9), (0, zr 10 0), (1, zr 53 0), (2, zi a2)]) dX10_openThoseOf_42 rfl (by rw [ev9]; rfl) (by decide) rfl ?_
        clear ev9
        refine v_goto (tgt := 10) dX10_openThoseOf_45 (by decide) ?_
        refine v_sub [1, 2, 3, 0] rfl ?_
        exact ih a2 v9 h8 _ hF k
      clear ej3
      replace hF := lb_ex hF
      obtain ⟨j10, ej10, hF⟩ := hF
      have j10V : ∀ (x11 : Int32) (h12 : Hp), j10 x11 h12 = some z → V X mX10_openThoseOf true h0 38 [(0, zr 10 0), (1, zr 53 0), (2, zi a2), (3, zi a3)] [zi x11, zr 10 0] h12 r hE := by
        intro x11 h12 hF
        subst ej10
        refine v_iconst (v := 0) dX10_openThoseOf_38 (by decide) ?_
        exact j3V x11 0 h12 hF
      clear ej10
      refine v_icmp_ne dX10_openThoseOf_20 (by decide : _ = ((38 : Nat) : Int)) (fun q => ?_) (fun q => ?_)
      · replace hF := brF q hF
        exact j10V a3 h hF
      · replace hF := brT (Decidable.not_not.mp q) hF
        refine v_aload_n (j := 0) dX10_openThoseOf_23 rfl ?_
        refine v_getL (c := 10) rfl rfl rfl ly10_0 cz10 flX10_25 dX10_openThoseOf_24 ?_
        refine v_iload_n (j := 3) dX10_openThoseOf_27 rfl ?_
        replace hF := bd_use hF
        obtain ⟨r13, h14, er13, hF⟩ := hF
        refine v_cV (hm := h14) (av := [zi a3]) (st := [zi a3, zr 10 0]) (stn := [zi r13, zi a3, zr 10 0]) (tX1_isUnitSpot er13) lcX1_isUnitSpot mlX10_78 imX1_isUnitSpot seX1_isUnitSpot rfl rfl rfl rfl ⟨by decide, by decide⟩ (Nat.le_of_ble_eq_true rfl) dX10_openThoseOf_28 rfl rfl ?_
        clear er13
        refine v_if_eq dX10_openThoseOf_31 (by decide : _ = ((38 : Nat) : Int)) (fun q => ?_) (fun q => ?_)
        · replace hF := brT q hF
          exact j10V a3 h14 hF
        · replace hF := brF q hF
          refine v_iconst (v := 1) dX10_openThoseOf_34 (by decide) ?_
          refine v_goto (tgt := 39) dX10_openThoseOf_35 (by decide) ?_
          exact j3V a3 1 h14 hF
set_option maxRecDepth 20000 in
theorem tX10_openThoseOf {X : Cz} {a2 : Int32} {h hE : Hp} {rE : Unit} (hF : fX10_openThoseOf a2 h = some (rE, hE)) : Ct X mX10_openThoseOf true [zr 10 0, zr 53 0, zi a2] h (none) hE := by
  refine Ct_of (by decide) (Nat.le_of_ble_eq_true rfl) (ls := [(0, zr 10 0), (1, zr 53 0), (2, zi a2)]) rfl ?_
  unfold fX10_openThoseOf at hF
  refine v_aload_n (j := 0) dX10_openThoseOf_0 rfl ?_
  refine v_getL (c := 10) rfl rfl rfl ly10_0 cz10 flX10_25 dX10_openThoseOf_1 ?_
  refine v_cV (hm := h) (av := []) (st := []) (stn := [zi (fX1_spotsEnd h)]) (tX1_spotsEnd h) lcX1_spotsEnd mlX10_33 imX1_spotsEnd seX1_spotsEnd rfl rfl rfl rfl ⟨by decide, by decide⟩ (Nat.le_of_ble_eq_true rfl) dX10_openThoseOf_4 rfl rfl ?_
  refine v_iconst (v := 1) dX10_openThoseOf_7 (by decide) ?_
  refine v_isub dX10_openThoseOf_8 ?_
  refine v_topi fun v1 ev1 => ?_
  replace hF := lb_use ev1 hF
  clear ev1
  refine v_istore_n (ls' := [(3, zi v1), (0, zr 10 0), (1, zr 53 0), (2, zi a2)]) dX10_openThoseOf_9 (by decide) rfl ?_
  refine v_sub [1, 2, 3, 0] rfl ?_
  replace hF := bd_use hF
  obtain ⟨v17, h15, ev17, hF⟩ := hF
  refine tX10_openThoseOf_L10 _ a2 v1 h _ ev17 ?_
  clear ev17
  cases hF
  exact v_vret rfl dX10_openThoseOf_48
theorem dX10_seatByRight_0 : decode cX10_seatByRight 0 = .ok (.aload_n 0, 1) := by decide +kernel
theorem dX10_seatByRight_1 : decode cX10_seatByRight 1 = .ok (.getfield 29, 3) := by decide +kernel
theorem dX10_seatByRight_4 : decode cX10_seatByRight 4 = .ok (.iload_n 3, 1) := by decide +kernel
theorem dX10_seatByRight_5 : decode cX10_seatByRight 5 = .ok (.invokevirtual 90, 3) := by decide +kernel
theorem dX10_seatByRight_8 : decode cX10_seatByRight 8 = .ok (.astore 4, 2) := by decide +kernel
theorem dX10_seatByRight_10 : decode cX10_seatByRight 10 = .ok (.aload 4, 2) := by decide +kernel
theorem dX10_seatByRight_12 : decode cX10_seatByRight 12 = .ok (.ifnonnull 5, 3) := by decide +kernel
theorem dX10_seatByRight_15 : decode cX10_seatByRight 15 = .ok (.iconst 0, 1) := by decide +kernel
theorem dX10_seatByRight_16 : decode cX10_seatByRight 16 = .ok (.ireturn, 1) := by decide +kernel
theorem dX10_seatByRight_17 : decode cX10_seatByRight 17 = .ok (.aload_n 0, 1) := by decide +kernel
theorem dX10_seatByRight_18 : decode cX10_seatByRight 18 = .ok (.aload_n 2, 1) := by decide +kernel
theorem dX10_seatByRight_19 : decode cX10_seatByRight 19 = .ok (.iload_n 3, 1) := by decide +kernel
theorem dX10_seatByRight_20 : decode cX10_seatByRight 20 = .ok (.invokevirtual 66, 3) := by decide +kernel
theorem dX10_seatByRight_23 : decode cX10_seatByRight 23 = .ok (.aload_n 0, 1) := by decide +kernel
theorem dX10_seatByRight_24 : decode cX10_seatByRight 24 = .ok (.aload 4, 2) := by decide +kernel
theorem dX10_seatByRight_26 : decode cX10_seatByRight 26 = .ok (.getfield 94, 3) := by decide +kernel
theorem dX10_seatByRight_29 : decode cX10_seatByRight 29 = .ok (.aload 4, 2) := by decide +kernel
theorem dX10_seatByRight_31 : decode cX10_seatByRight 31 = .ok (.getfield 99, 3) := by decide +kernel
theorem dX10_seatByRight_34 : decode cX10_seatByRight 34 = .ok (.iconst 1, 1) := by decide +kernel
theorem dX10_seatByRight_35 : decode cX10_seatByRight 35 = .ok (.invokevirtual 102, 3) := by decide +kernel
theorem dX10_seatByRight_38 : decode cX10_seatByRight 38 = .ok (.istore 5, 2) := by decide +kernel
theorem dX10_seatByRight_40 : decode cX10_seatByRight 40 = .ok (.iload 5, 2) := by decide +kernel
theorem dX10_seatByRight_42 : decode cX10_seatByRight 42 = .ok (.iconst (-1), 1) := by decide +kernel
theorem dX10_seatByRight_43 : decode cX10_seatByRight 43 = .ok (.if_icmp .ne 5, 3) := by decide +kernel
theorem dX10_seatByRight_46 : decode cX10_seatByRight 46 = .ok (.iconst 0, 1) := by decide +kernel
theorem dX10_seatByRight_47 : decode cX10_seatByRight 47 = .ok (.ireturn, 1) := by decide +kernel
theorem dX10_seatByRight_48 : decode cX10_seatByRight 48 = .ok (.aload_n 1, 1) := by decide +kernel
theorem dX10_seatByRight_49 : decode cX10_seatByRight 49 = .ok (.iload_n 3, 1) := by decide +kernel
theorem dX10_seatByRight_50 : decode cX10_seatByRight 50 = .ok (.iload 5, 2) := by decide +kernel
theorem dX10_seatByRight_52 : decode cX10_seatByRight 52 = .ok (.aload 4, 2) := by decide +kernel
theorem dX10_seatByRight_54 : decode cX10_seatByRight 54 = .ok (.getfield 94, 3) := by decide +kernel
theorem dX10_seatByRight_57 : decode cX10_seatByRight 57 = .ok (.aload_n 0, 1) := by decide +kernel
theorem dX10_seatByRight_58 : decode cX10_seatByRight 58 = .ok (.getfield 25, 3) := by decide +kernel
theorem dX10_seatByRight_61 : decode cX10_seatByRight 61 = .ok (.iload 5, 2) := by decide +kernel
theorem dX10_seatByRight_63 : decode cX10_seatByRight 63 = .ok (.aload 4, 2) := by decide +kernel
theorem dX10_seatByRight_65 : decode cX10_seatByRight 65 = .ok (.getfield 94, 3) := by decide +kernel
theorem dX10_seatByRight_68 : decode cX10_seatByRight 68 = .ok (.aload 4, 2) := by decide +kernel
theorem dX10_seatByRight_70 : decode cX10_seatByRight 70 = .ok (.getfield 99, 3) := by decide +kernel
theorem dX10_seatByRight_73 : decode cX10_seatByRight 73 = .ok (.invokevirtual 43, 3) := by decide +kernel
theorem dX10_seatByRight_76 : decode cX10_seatByRight 76 = .ok (.iconst 1, 1) := by decide +kernel
theorem dX10_seatByRight_77 : decode cX10_seatByRight 77 = .ok (.invokevirtual 106, 3) := by decide +kernel
theorem dX10_seatByRight_80 : decode cX10_seatByRight 80 = .ok (.iconst 1, 1) := by decide +kernel
theorem dX10_seatByRight_81 : decode cX10_seatByRight 81 = .ok (.ireturn, 1) := by decide +kernel
def fX10_seatByRight (a1 : Nat) (a3 : Int32) (h : Hp) : Option (Int32 × Hp) := bd (fX4_find a3 h) (fun r1 h2 => mt r1 (some (0, h2)) (fun z3 => bd (fX10_openThoseOf a3 h2) (fun r4 h5 => bd (fX10_bestRun (gI h5 2 z3 1) (gI h5 2 z3 2) 1 h5) (fun r6 h7 => br (r6 = (-1)) (some (0, h7)) (bd (fX1_worthOf r6 (gI h7 2 z3 1) (gI h7 2 z3 2) h7) (fun r8 h9 => bd (fX8_put a1 a3 r6 (gI h7 2 z3 1) r8 1 h9) (fun r10 h11 => some (1, h11))))))))
set_option maxRecDepth 20000 in
theorem tX10_seatByRight {X : Cz} {a1 : Nat} {a3 : Int32} {h hE : Hp} {rE : Int32} (hF : fX10_seatByRight a1 a3 h = some (rE, hE)) : Ct X mX10_seatByRight true [zr 10 0, zr 8 a1, zr 53 0, zi a3] h (some (zi rE)) hE := by
  refine Ct_of (by decide) (Nat.le_of_ble_eq_true rfl) (ls := [(0, zr 10 0), (1, zr 8 a1), (2, zr 53 0), (3, zi a3)]) rfl ?_
  unfold fX10_seatByRight at hF
  refine v_aload_n (j := 0) dX10_seatByRight_0 rfl ?_
  refine v_getL (c := 10) rfl rfl rfl ly10_1 cz10 flX10_29 dX10_seatByRight_1 ?_
  refine v_iload_n (j := 3) dX10_seatByRight_4 rfl ?_
  replace hF := bd_use hF
  obtain ⟨r1, h2, er1, hF⟩ := hF
  refine v_cV (hm := h2) (av := [zi a3]) (st := []) (stn := [zq 2 r1]) (tX4_find er1) lcX4_find mlX10_90 imX4_find seX4_find rfl rfl rfl rfl ⟨by decide, by decide⟩ (Nat.le_of_ble_eq_true rfl) dX10_seatByRight_5 rfl rfl ?_
  clear er1
  refine v_astore (ls' := [(4, zq 2 r1), (0, zr 10 0), (1, zr 8 a1), (2, zr 53 0), (3, zi a3)]) dX10_seatByRight_8 (by decide) rfl ?_
  refine v_aload (j := 0) dX10_seatByRight_10 rfl ?_
  cases r1 with
  | none =>
    replace hF := mtN hF
    refine v_ifnonnullN (tgt := 17) dX10_seatByRight_12 (by decide) ?_
    refine v_iconst (v := 0) dX10_seatByRight_15 (by decide) ?_
    obtain ⟨rfl, rfl⟩ := ret_use hF
    exact v_zret rfl (Or.inl rfl) dX10_seatByRight_16
  | some z3 =>
    replace hF := mtS hF
    refine v_ifnonnullS (q := (2, z3)) (tgt := 17) dX10_seatByRight_12 (by decide) ?_
    refine v_aload_n (j := 1) dX10_seatByRight_17 rfl ?_
    refine v_aload_n (j := 3) dX10_seatByRight_18 rfl ?_
    refine v_iload_n (j := 4) dX10_seatByRight_19 rfl ?_
    replace hF := bd_use hF
    obtain ⟨r4, h5, er4, hF⟩ := hF
    refine v_cV (hm := h5) (av := [zr 53 0, zi a3]) (st := []) (stn := []) (tX10_openThoseOf er4) lcX10_openThoseOf mlX10_66 imX10_openThoseOf seX10_openThoseOf rfl rfl rfl rfl ⟨by decide, by decide⟩ (Nat.le_of_ble_eq_true rfl) dX10_seatByRight_20 rfl rfl ?_
    clear er4
    refine v_aload_n (j := 1) dX10_seatByRight_23 rfl ?_
    refine v_aload (j := 0) dX10_seatByRight_24 rfl ?_
    refine v_getI (c := 2) rfl (Or.inl rfl) cz2 flX10_94 dX10_seatByRight_26 ?_
    refine v_aload (j := 0) dX10_seatByRight_29 rfl ?_
    refine v_getI (c := 2) rfl (Or.inl rfl) cz2 flX10_99 dX10_seatByRight_31 ?_
    refine v_iconst (v := 1) dX10_seatByRight_34 (by decide) ?_
    replace hF := bd_use hF
    obtain ⟨r6, h7, er6, hF⟩ := hF
    refine v_cV (hm := h7) (av := [zi (gI h5 2 z3 1), zi (gI h5 2 z3 2), zi 1]) (st := []) (stn := [zi r6]) (tX10_bestRun er6) lcX10_bestRun mlX10_102 imX10_bestRun seX10_bestRun rfl rfl rfl rfl ⟨by decide, by decide⟩ (Nat.le_of_ble_eq_true rfl) dX10_seatByRight_35 rfl rfl ?_
    clear er6
    refine v_istore (ls' := [(5, zi r6), (4, zr 2 z3), (0, zr 10 0), (1, zr 8 a1), (2, zr 53 0), (3, zi a3)]) dX10_seatByRight_38 (by decide) rfl ?_
    refine v_iload (j := 0) dX10_seatByRight_40 rfl ?_
    refine v_iconst (v := (-1)) dX10_seatByRight_42 (by decide) ?_
    refine v_icmp_ne dX10_seatByRight_43 (by decide : _ = ((48 : Nat) : Int)) (fun q => ?_) (fun q => ?_)
    · replace hF := brF q hF
      refine v_aload_n (j := 3) dX10_seatByRight_48 rfl ?_
      refine v_iload_n (j := 5) dX10_seatByRight_49 rfl ?_
      refine v_iload (j := 0) dX10_seatByRight_50 rfl ?_
      refine v_aload (j := 1) dX10_seatByRight_52 rfl ?_
      refine v_getI (c := 2) rfl (Or.inl rfl) cz2 flX10_94 dX10_seatByRight_54 ?_
      refine v_aload_n (j := 2) dX10_seatByRight_57 rfl ?_
      refine v_getL (c := 10) rfl rfl rfl ly10_0 cz10 flX10_25 dX10_seatByRight_58 ?_
      refine v_iload (j := 0) dX10_seatByRight_61 rfl ?_
      refine v_aload (j := 1) dX10_seatByRight_63 rfl ?_
      refine v_getI (c := 2) rfl (Or.inl rfl) cz2 flX10_94 dX10_seatByRight_65 ?_
      refine v_aload (j := 1) dX10_seatByRight_68 rfl ?_
      refine v_getI (c := 2) rfl (Or.inl rfl) cz2 flX10_99 dX10_seatByRight_70 ?_
      replace hF := bd_use hF
      obtain ⟨r8, h9, er8, hF⟩ := hF
      refine v_cV (hm := h9) (av := [zi r6, zi (gI h7 2 z3 1), zi (gI h7 2 z3 2)]) (st := [zi (gI h7 2 z3 1), zi r6, zi a3, zr 8 a1]) (stn := [zi r8, zi (gI h7 2 z3 1), zi r6, zi a3, zr 8 a1]) (tX1_worthOf er8) lcX1_worthOf mlX10_43 imX1_worthOf seX1_worthOf rfl rfl rfl rfl ⟨by decide, by decide⟩ (Nat.le_of_ble_eq_true rfl) dX10_seatByRight_73 rfl rfl ?_
      clear er8
      refine v_iconst (v := 1) dX10_seatByRight_76 (by decide) ?_
      replace hF := bd_use hF
      obtain ⟨r10, h11, er10, hF⟩ := hF
      refine v_cV (hm := h11) (av := [zi a3, zi r6, zi (gI h7 2 z3 1), zi r8, zi 1]) (st := []) (stn := []) (tX8_put er10) lcX8_put mlX10_106 imX8_put seX8_put rfl rfl rfl rfl ⟨by decide, by decide⟩ (Nat.le_of_ble_eq_true rfl) dX10_seatByRight_77 rfl rfl ?_
      clear er10
      refine v_iconst (v := 1) dX10_seatByRight_80 (by decide) ?_
      obtain ⟨rfl, rfl⟩ := ret_use hF
      exact v_zret rfl (Or.inr rfl) dX10_seatByRight_81
    · replace hF := brT (Decidable.not_not.mp q) hF
      refine v_iconst (v := 0) dX10_seatByRight_46 (by decide) ?_
      obtain ⟨rfl, rfl⟩ := ret_use hF
      exact v_zret rfl (Or.inl rfl) dX10_seatByRight_47
theorem dX10_sumSeated_0 : decode cX10_sumSeated 0 = .ok (.aload_n 1, 1) := by decide +kernel
theorem dX10_sumSeated_1 : decode cX10_sumSeated 1 = .ok (.ifnull 29, 3) := by decide +kernel
theorem dX10_sumSeated_4 : decode cX10_sumSeated 4 = .ok (.aload_n 0, 1) := by decide +kernel
theorem dX10_sumSeated_5 : decode cX10_sumSeated 5 = .ok (.iload_n 3, 1) := by decide +kernel
theorem dX10_sumSeated_6 : decode cX10_sumSeated 6 = .ok (.aload_n 1, 1) := by decide +kernel
theorem dX10_sumSeated_7 : decode cX10_sumSeated 7 = .ok (.getfield 94, 3) := by decide +kernel
theorem dX10_sumSeated_10 : decode cX10_sumSeated 10 = .ok (.aload_n 1, 1) := by decide +kernel
theorem dX10_sumSeated_11 : decode cX10_sumSeated 11 = .ok (.getfield 126, 3) := by decide +kernel
theorem dX10_sumSeated_14 : decode cX10_sumSeated 14 = .ok (.iload 4, 2) := by decide +kernel
theorem dX10_sumSeated_16 : decode cX10_sumSeated 16 = .ok (.if_icmp .ge 7, 3) := by decide +kernel
theorem dX10_sumSeated_19 : decode cX10_sumSeated 19 = .ok (.iconst 1, 1) := by decide +kernel
theorem dX10_sumSeated_20 : decode cX10_sumSeated 20 = .ok (.goto 4, 3) := by decide +kernel
theorem dX10_sumSeated_23 : decode cX10_sumSeated 23 = .ok (.iconst 0, 1) := by decide +kernel
theorem dX10_sumSeated_24 : decode cX10_sumSeated 24 = .ok (.invokevirtual 39, 3) := by decide +kernel
theorem dX10_sumSeated_27 : decode cX10_sumSeated 27 = .ok (.ifCond .ne 7, 3) := by decide +kernel
theorem dX10_sumSeated_30 : decode cX10_sumSeated 30 = .ok (.ldc2_w 129, 3) := by decide +kernel
theorem dX10_sumSeated_33 : decode cX10_sumSeated 33 = .ok (.lreturn, 1) := by decide +kernel
theorem dX10_sumSeated_34 : decode cX10_sumSeated 34 = .ok (.aload_n 0, 1) := by decide +kernel
theorem dX10_sumSeated_35 : decode cX10_sumSeated 35 = .ok (.getfield 25, 3) := by decide +kernel
theorem dX10_sumSeated_38 : decode cX10_sumSeated 38 = .ok (.iload_n 3, 1) := by decide +kernel
theorem dX10_sumSeated_39 : decode cX10_sumSeated 39 = .ok (.aload_n 1, 1) := by decide +kernel
theorem dX10_sumSeated_40 : decode cX10_sumSeated 40 = .ok (.getfield 94, 3) := by decide +kernel
theorem dX10_sumSeated_43 : decode cX10_sumSeated 43 = .ok (.aload_n 1, 1) := by decide +kernel
theorem dX10_sumSeated_44 : decode cX10_sumSeated 44 = .ok (.getfield 99, 3) := by decide +kernel
theorem dX10_sumSeated_47 : decode cX10_sumSeated 47 = .ok (.invokevirtual 43, 3) := by decide +kernel
theorem dX10_sumSeated_50 : decode cX10_sumSeated 50 = .ok (.i2l, 1) := by decide +kernel
theorem dX10_sumSeated_51 : decode cX10_sumSeated 51 = .ok (.lstore 5, 2) := by decide +kernel
theorem dX10_sumSeated_53 : decode cX10_sumSeated 53 = .ok (.lload 5, 2) := by decide +kernel
theorem dX10_sumSeated_55 : decode cX10_sumSeated 55 = .ok (.aload_n 1, 1) := by decide +kernel
theorem dX10_sumSeated_56 : decode cX10_sumSeated 56 = .ok (.getfield 126, 3) := by decide +kernel
theorem dX10_sumSeated_59 : decode cX10_sumSeated 59 = .ok (.iconst 1, 1) := by decide +kernel
theorem dX10_sumSeated_60 : decode cX10_sumSeated 60 = .ok (.iadd, 1) := by decide +kernel
theorem dX10_sumSeated_61 : decode cX10_sumSeated 61 = .ok (.i2l, 1) := by decide +kernel
theorem dX10_sumSeated_62 : decode cX10_sumSeated 62 = .ok (.lmul, 1) := by decide +kernel
theorem dX10_sumSeated_63 : decode cX10_sumSeated 63 = .ok (.aload_n 0, 1) := by decide +kernel
theorem dX10_sumSeated_64 : decode cX10_sumSeated 64 = .ok (.getfield 21, 3) := by decide +kernel
theorem dX10_sumSeated_67 : decode cX10_sumSeated 67 = .ok (.iload_n 2, 1) := by decide +kernel
theorem dX10_sumSeated_68 : decode cX10_sumSeated 68 = .ok (.iload_n 3, 1) := by decide +kernel
theorem dX10_sumSeated_69 : decode cX10_sumSeated 69 = .ok (.iadd, 1) := by decide +kernel
theorem dX10_sumSeated_70 : decode cX10_sumSeated 70 = .ok (.aload_n 1, 1) := by decide +kernel
theorem dX10_sumSeated_71 : decode cX10_sumSeated 71 = .ok (.getfield 94, 3) := by decide +kernel
theorem dX10_sumSeated_74 : decode cX10_sumSeated 74 = .ok (.iadd, 1) := by decide +kernel
theorem dX10_sumSeated_75 : decode cX10_sumSeated 75 = .ok (.laload, 1) := by decide +kernel
theorem dX10_sumSeated_76 : decode cX10_sumSeated 76 = .ok (.ladd, 1) := by decide +kernel
theorem dX10_sumSeated_77 : decode cX10_sumSeated 77 = .ok (.lreturn, 1) := by decide +kernel
def fX10_sumSeated (a1 : Option Nat) (a2 : Int32) (a3 : Int32) (a4 : Int32) (h : Hp) : Option (Int64 × Hp) := mt a1 (some ((-1), h)) (fun z1 => lb (fun (x3 : Int32) (x4 : Int32) (x5 : Int32) (h6 : Hp) => bd (fX10_isRunOpen x3 x4 x5 h6) (fun r7 h8 => br (r7 = 0) (some ((-1), h8)) (bd (fX1_worthOf a3 (gI h8 2 z1 1) (gI h8 2 z1 2) h8) (fun r9 h10 => gd (ib ((a2 + a3) + (gI h10 2 z1 1)) 3341) (some ((r9.toInt64 * (((gI h10 2 z1 0) + 1).toInt64)) + (gJ h10 51 0 (ix ((a2 + a3) + (gI h10 2 z1 1)))), h10)))))) (fun j2 => br (a4 ≤ (gI h 2 z1 0)) (j2 a3 (gI h 2 z1 1) 0 h) (j2 a3 (gI h 2 z1 1) 1 h)))
set_option maxRecDepth 20000 in
theorem tX10_sumSeated {X : Cz} {a1 : Option Nat} {a2 : Int32} {a3 : Int32} {a4 : Int32} {h hE : Hp} {rE : Int64} (hF : fX10_sumSeated a1 a2 a3 a4 h = some (rE, hE)) : Ct X mX10_sumSeated true [zr 10 0, zq 2 a1, zi a2, zi a3, zi a4] h (some (zj rE)) hE := by
  refine Ct_of (by decide) (Nat.le_of_ble_eq_true rfl) (ls := [(0, zr 10 0), (1, zq 2 a1), (2, zi a2), (3, zi a3), (4, zi a4)]) rfl ?_
  unfold fX10_sumSeated at hF
  refine v_aload_n (j := 1) dX10_sumSeated_0 rfl ?_
  cases a1 with
  | none =>
    replace hF := mtN hF
    refine v_ifnullN (tgt := 30) dX10_sumSeated_1 (by decide) ?_
    refine v_ldc2 dX10_sumSeated_30 kcX10_129 ?_
    obtain ⟨rfl, rfl⟩ := ret_use hF
    exact v_lret rfl dX10_sumSeated_33
  | some z1 =>
    replace hF := mtS hF
    refine v_ifnullS (q := (2, z1)) (tgt := 30) dX10_sumSeated_1 (by decide) ?_
    refine v_aload_n (j := 0) dX10_sumSeated_4 rfl ?_
    refine v_iload_n (j := 3) dX10_sumSeated_5 rfl ?_
    refine v_aload_n (j := 1) dX10_sumSeated_6 rfl ?_
    refine v_getI (c := 2) rfl (Or.inl rfl) cz2 flX10_94 dX10_sumSeated_7 ?_
    refine v_aload_n (j := 1) dX10_sumSeated_10 rfl ?_
    refine v_getI (c := 2) rfl (Or.inl rfl) cz2 flX10_126 dX10_sumSeated_11 ?_
    refine v_iload (j := 4) dX10_sumSeated_14 rfl ?_
    replace hF := lb_ex hF
    obtain ⟨j2, ej2, hF⟩ := hF
    have j2V : ∀ (x3 : Int32) (x4 : Int32) (x5 : Int32) (h6 : Hp), j2 x3 x4 x5 h6 = some (rE, hE) → V X mX10_sumSeated true h 24 [(0, zr 10 0), (1, zr 2 z1), (2, zi a2), (3, zi a3)] [zi x5, zi x4, zi x3, zr 10 0] h6 (some (zj rE)) hE := by
      intro x3 x4 x5 h6 hF
      subst ej2
      replace hF := bd_use hF
      obtain ⟨r7, h8, er7, hF⟩ := hF
      refine v_cV (hm := h8) (av := [zi x3, zi x4, zi x5]) (st := []) (stn := [zi r7]) (tX10_isRunOpen er7) lcX10_isRunOpen mlX10_39 imX10_isRunOpen seX10_isRunOpen rfl rfl rfl rfl ⟨by decide, by decide⟩ (Nat.le_of_ble_eq_true rfl) dX10_sumSeated_24 rfl rfl ?_
      clear er7
      refine v_if_ne dX10_sumSeated_27 (by decide : _ = ((34 : Nat) : Int)) (fun q => ?_) (fun q => ?_)
      · replace hF := brF q hF
        refine v_aload_n (j := 0) dX10_sumSeated_34 rfl ?_
        refine v_getL (c := 10) rfl rfl rfl ly10_0 cz10 flX10_25 dX10_sumSeated_35 ?_
        refine v_iload_n (j := 3) dX10_sumSeated_38 rfl ?_
        refine v_aload_n (j := 1) dX10_sumSeated_39 rfl ?_
        refine v_getI (c := 2) rfl (Or.inl rfl) cz2 flX10_94 dX10_sumSeated_40 ?_
        refine v_aload_n (j := 1) dX10_sumSeated_43 rfl ?_
        refine v_getI (c := 2) rfl (Or.inl rfl) cz2 flX10_99 dX10_sumSeated_44 ?_
        replace hF := bd_use hF
        obtain ⟨r9, h10, er9, hF⟩ := hF
        refine v_cV (hm := h10) (av := [zi a3, zi (gI h8 2 z1 1), zi (gI h8 2 z1 2)]) (st := []) (stn := [zi r9]) (tX1_worthOf er9) lcX1_worthOf mlX10_43 imX1_worthOf seX1_worthOf rfl rfl rfl rfl ⟨by decide, by decide⟩ (Nat.le_of_ble_eq_true rfl) dX10_sumSeated_47 rfl rfl ?_
        clear er9
        refine v_i2l dX10_sumSeated_50 ?_
        refine v_lstore (ls' := [(5, zj r9.toInt64), (0, zr 10 0), (1, zr 2 z1), (2, zi a2), (3, zi a3)]) dX10_sumSeated_51 (by decide) rfl ?_
        refine v_lload (j := 0) dX10_sumSeated_53 rfl ?_
        refine v_aload_n (j := 2) dX10_sumSeated_55 rfl ?_
        refine v_getI (c := 2) rfl (Or.inl rfl) cz2 flX10_126 dX10_sumSeated_56 ?_
        refine v_iconst (v := 1) dX10_sumSeated_59 (by decide) ?_
        refine v_iadd dX10_sumSeated_60 ?_
        refine v_i2l dX10_sumSeated_61 ?_
        refine v_lmul dX10_sumSeated_62 ?_
        refine v_aload_n (j := 1) dX10_sumSeated_63 rfl ?_
        refine v_getL (c := 10) rfl rfl rfl ly10_6 cz10 flX10_21 dX10_sumSeated_64 ?_
        refine v_iload_n (j := 3) dX10_sumSeated_67 rfl ?_
        refine v_iload_n (j := 4) dX10_sumSeated_68 rfl ?_
        refine v_iadd dX10_sumSeated_69 ?_
        refine v_aload_n (j := 2) dX10_sumSeated_70 rfl ?_
        refine v_getI (c := 2) rfl (Or.inl rfl) cz2 flX10_94 dX10_sumSeated_71 ?_
        refine v_iadd dX10_sumSeated_74 ?_
        replace hF := gd_use hF
        obtain ⟨q11, hF⟩ := hF
        refine v_lald rfl q11 dX10_sumSeated_75 ?_
        refine v_ladd dX10_sumSeated_76 ?_
        obtain ⟨rfl, rfl⟩ := ret_use hF
        exact v_lret rfl dX10_sumSeated_77
      · replace hF := brT (Decidable.not_not.mp q) hF
        refine v_ldc2 dX10_sumSeated_30 kcX10_129 ?_
        obtain ⟨rfl, rfl⟩ := ret_use hF
        exact v_lret rfl dX10_sumSeated_33
    clear ej2
    refine v_icmp_ge dX10_sumSeated_16 (by decide : _ = ((23 : Nat) : Int)) (fun q => ?_) (fun q => ?_)
    · replace hF := brT q hF
      refine v_iconst (v := 0) dX10_sumSeated_23 (by decide) ?_
      refine v_sub [0, 1, 2, 3] rfl ?_
      exact j2V a3 (gI h 2 z1 1) 0 h hF
    · replace hF := brF q hF
      refine v_iconst (v := 1) dX10_sumSeated_19 (by decide) ?_
      refine v_goto (tgt := 24) dX10_sumSeated_20 (by decide) ?_
      refine v_sub [0, 1, 2, 3] rfl ?_
      exact j2V a3 (gI h 2 z1 1) 1 h hF
theorem dX10_fillBest_0 : decode cX10_fillBest 0 = .ok (.aload_n 0, 1) := by decide +kernel
theorem dX10_fillBest_1 : decode cX10_fillBest 1 = .ok (.getfield 29, 3) := by decide +kernel
theorem dX10_fillBest_4 : decode cX10_fillBest 4 = .ok (.aload_n 0, 1) := by decide +kernel
theorem dX10_fillBest_5 : decode cX10_fillBest 5 = .ok (.getfield 18, 3) := by decide +kernel
theorem dX10_fillBest_8 : decode cX10_fillBest 8 = .ok (.iload_n 1, 1) := by decide +kernel
theorem dX10_fillBest_9 : decode cX10_fillBest 9 = .ok (.iaload, 1) := by decide +kernel
theorem dX10_fillBest_10 : decode cX10_fillBest 10 = .ok (.invokevirtual 90, 3) := by decide +kernel
theorem dX10_fillBest_13 : decode cX10_fillBest 13 = .ok (.astore_n 3, 1) := by decide +kernel
theorem dX10_fillBest_14 : decode cX10_fillBest 14 = .ok (.iload_n 1, 1) := by decide +kernel
theorem dX10_fillBest_15 : decode cX10_fillBest 15 = .ok (.sipush 257, 3) := by decide +kernel
theorem dX10_fillBest_18 : decode cX10_fillBest 18 = .ok (.imul, 1) := by decide +kernel
theorem dX10_fillBest_19 : decode cX10_fillBest 19 = .ok (.istore 4, 2) := by decide +kernel
theorem dX10_fillBest_21 : decode cX10_fillBest 21 = .ok (.iload 4, 2) := by decide +kernel
theorem dX10_fillBest_23 : decode cX10_fillBest 23 = .ok (.sipush 256, 3) := by decide +kernel
theorem dX10_fillBest_26 : decode cX10_fillBest 26 = .ok (.iadd, 1) := by decide +kernel
theorem dX10_fillBest_27 : decode cX10_fillBest 27 = .ok (.iconst 1, 1) := by decide +kernel
theorem dX10_fillBest_28 : decode cX10_fillBest 28 = .ok (.iadd, 1) := by decide +kernel
theorem dX10_fillBest_29 : decode cX10_fillBest 29 = .ok (.istore 5, 2) := by decide +kernel
theorem dX10_fillBest_31 : decode cX10_fillBest 31 = .ok (.aload_n 0, 1) := by decide +kernel
theorem dX10_fillBest_32 : decode cX10_fillBest 32 = .ok (.getfield 25, 3) := by decide +kernel
theorem dX10_fillBest_35 : decode cX10_fillBest 35 = .ok (.invokevirtual 33, 3) := by decide +kernel
theorem dX10_fillBest_38 : decode cX10_fillBest 38 = .ok (.istore 6, 2) := by decide +kernel
theorem dX10_fillBest_40 : decode cX10_fillBest 40 = .ok (.iload_n 1, 1) := by decide +kernel
theorem dX10_fillBest_41 : decode cX10_fillBest 41 = .ok (.aload_n 0, 1) := by decide +kernel
theorem dX10_fillBest_42 : decode cX10_fillBest 42 = .ok (.getfield 52, 3) := by decide +kernel
theorem dX10_fillBest_45 : decode cX10_fillBest 45 = .ok (.iconst 1, 1) := by decide +kernel
theorem dX10_fillBest_46 : decode cX10_fillBest 46 = .ok (.isub, 1) := by decide +kernel
theorem dX10_fillBest_47 : decode cX10_fillBest 47 = .ok (.if_icmp .ne 20, 3) := by decide +kernel
theorem dX10_fillBest_50 : decode cX10_fillBest 50 = .ok (.aload_n 0, 1) := by decide +kernel
theorem dX10_fillBest_51 : decode cX10_fillBest 51 = .ok (.getfield 21, 3) := by decide +kernel
theorem dX10_fillBest_54 : decode cX10_fillBest 54 = .ok (.iload 5, 2) := by decide +kernel
theorem dX10_fillBest_56 : decode cX10_fillBest 56 = .ok (.iload 5, 2) := by decide +kernel
theorem dX10_fillBest_58 : decode cX10_fillBest 58 = .ok (.iload 6, 2) := by decide +kernel
theorem dX10_fillBest_60 : decode cX10_fillBest 60 = .ok (.iadd, 1) := by decide +kernel
theorem dX10_fillBest_61 : decode cX10_fillBest 61 = .ok (.iconst 1, 1) := by decide +kernel
theorem dX10_fillBest_62 : decode cX10_fillBest 62 = .ok (.iadd, 1) := by decide +kernel
theorem dX10_fillBest_63 : decode cX10_fillBest 63 = .ok (.lconst 0, 1) := by decide +kernel
theorem dX10_fillBest_64 : decode cX10_fillBest 64 = .ok (.invokestatic 110, 3) := by decide +kernel
theorem dX10_fillBest_67 : decode cX10_fillBest 67 = .ok (.aload_n 0, 1) := by decide +kernel
theorem dX10_fillBest_68 : decode cX10_fillBest 68 = .ok (.getfield 21, 3) := by decide +kernel
theorem dX10_fillBest_71 : decode cX10_fillBest 71 = .ok (.iload 4, 2) := by decide +kernel
theorem dX10_fillBest_73 : decode cX10_fillBest 73 = .ok (.iload 6, 2) := by decide +kernel
theorem dX10_fillBest_75 : decode cX10_fillBest 75 = .ok (.iadd, 1) := by decide +kernel
theorem dX10_fillBest_76 : decode cX10_fillBest 76 = .ok (.lconst 0, 1) := by decide +kernel
theorem dX10_fillBest_77 : decode cX10_fillBest 77 = .ok (.lastore, 1) := by decide +kernel
theorem dX10_fillBest_78 : decode cX10_fillBest 78 = .ok (.iload 6, 2) := by decide +kernel
theorem dX10_fillBest_80 : decode cX10_fillBest 80 = .ok (.iconst 1, 1) := by decide +kernel
theorem dX10_fillBest_81 : decode cX10_fillBest 81 = .ok (.isub, 1) := by decide +kernel
theorem dX10_fillBest_82 : decode cX10_fillBest 82 = .ok (.istore 7, 2) := by decide +kernel
theorem dX10_fillBest_84 : decode cX10_fillBest 84 = .ok (.iload 7, 2) := by decide +kernel
theorem dX10_fillBest_86 : decode cX10_fillBest 86 = .ok (.ifCond .lt 61, 3) := by decide +kernel
theorem dX10_fillBest_89 : decode cX10_fillBest 89 = .ok (.aload_n 0, 1) := by decide +kernel
theorem dX10_fillBest_90 : decode cX10_fillBest 90 = .ok (.getfield 21, 3) := by decide +kernel
theorem dX10_fillBest_93 : decode cX10_fillBest 93 = .ok (.iload 5, 2) := by decide +kernel
theorem dX10_fillBest_95 : decode cX10_fillBest 95 = .ok (.iload 7, 2) := by decide +kernel
theorem dX10_fillBest_97 : decode cX10_fillBest 97 = .ok (.iadd, 1) := by decide +kernel
theorem dX10_fillBest_98 : decode cX10_fillBest 98 = .ok (.laload, 1) := by decide +kernel
theorem dX10_fillBest_99 : decode cX10_fillBest 99 = .ok (.aload_n 0, 1) := by decide +kernel
theorem dX10_fillBest_100 : decode cX10_fillBest 100 = .ok (.getfield 21, 3) := by decide +kernel
theorem dX10_fillBest_103 : decode cX10_fillBest 103 = .ok (.iload 4, 2) := by decide +kernel
theorem dX10_fillBest_105 : decode cX10_fillBest 105 = .ok (.iload 7, 2) := by decide +kernel
theorem dX10_fillBest_107 : decode cX10_fillBest 107 = .ok (.iadd, 1) := by decide +kernel
theorem dX10_fillBest_108 : decode cX10_fillBest 108 = .ok (.iconst 1, 1) := by decide +kernel
theorem dX10_fillBest_109 : decode cX10_fillBest 109 = .ok (.iadd, 1) := by decide +kernel
theorem dX10_fillBest_110 : decode cX10_fillBest 110 = .ok (.laload, 1) := by decide +kernel
theorem dX10_fillBest_111 : decode cX10_fillBest 111 = .ok (.invokestatic 116, 3) := by decide +kernel
theorem dX10_fillBest_114 : decode cX10_fillBest 114 = .ok (.lstore 8, 2) := by decide +kernel
theorem dX10_fillBest_116 : decode cX10_fillBest 116 = .ok (.aload_n 0, 1) := by decide +kernel
theorem dX10_fillBest_117 : decode cX10_fillBest 117 = .ok (.getfield 21, 3) := by decide +kernel
theorem dX10_fillBest_120 : decode cX10_fillBest 120 = .ok (.iload 4, 2) := by decide +kernel
theorem dX10_fillBest_122 : decode cX10_fillBest 122 = .ok (.iload 7, 2) := by decide +kernel
theorem dX10_fillBest_124 : decode cX10_fillBest 124 = .ok (.iadd, 1) := by decide +kernel
theorem dX10_fillBest_125 : decode cX10_fillBest 125 = .ok (.lload 8, 2) := by decide +kernel
theorem dX10_fillBest_127 : decode cX10_fillBest 127 = .ok (.aload_n 0, 1) := by decide +kernel
theorem dX10_fillBest_128 : decode cX10_fillBest 128 = .ok (.aload_n 3, 1) := by decide +kernel
theorem dX10_fillBest_129 : decode cX10_fillBest 129 = .ok (.iload 5, 2) := by decide +kernel
theorem dX10_fillBest_131 : decode cX10_fillBest 131 = .ok (.iload 7, 2) := by decide +kernel
theorem dX10_fillBest_133 : decode cX10_fillBest 133 = .ok (.iload_n 2, 1) := by decide +kernel
theorem dX10_fillBest_134 : decode cX10_fillBest 134 = .ok (.invokevirtual 122, 3) := by decide +kernel
theorem dX10_fillBest_137 : decode cX10_fillBest 137 = .ok (.invokestatic 116, 3) := by decide +kernel
theorem dX10_fillBest_140 : decode cX10_fillBest 140 = .ok (.lastore, 1) := by decide +kernel
theorem dX10_fillBest_141 : decode cX10_fillBest 141 = .ok (.iinc 7 (-1), 3) := by decide +kernel
theorem dX10_fillBest_144 : decode cX10_fillBest 144 = .ok (.goto (-60), 3) := by decide +kernel
theorem dX10_fillBest_147 : decode cX10_fillBest 147 = .ok (.return_, 1) := by decide +kernel
def fX10_fillBest_L84 : Nat → Int32 → Option Nat → Int32 → Int32 → Int32 → Hp → Option ((Int32) × Hp)
  | 0, _, _, _, _, _, _ => none
  | n + 1, a2, a3, a4, a5, a7, h => br (a7 < 0) (some ((a7), h)) (gd (ib (a5 + a7) 3341) (gd (ib ((a4 + a7) + 1) 3341) (lb (mxJ (gJ h 51 0 (ix (a5 + a7))) (gJ h 51 0 (ix ((a4 + a7) + 1)))) (fun v14 => bd (fX10_sumSeated a3 a5 a7 a2 h) (fun r15 h16 => gd (ib (a4 + a7) 3341) (lb (sJ h16 51 0 (ix (a4 + a7)) (mxJ v14 r15)) (fun h18 => lb (a7 + (-1)) (fun v19 => fX10_fillBest_L84 n a2 a3 a4 a5 v19 h18))))))))
def fX10_fillBest (a1 : Int32) (a2 : Int32) (h : Hp) : Option (Unit × Hp) := gd (ib a1 12) (bd (fX4_find (gI h 50 0 (ix a1)) h) (fun r2 h3 => lb (a1 * 257) (fun v4 => lb ((v4 + 256) + 1) (fun v5 => lb (fX1_spotsEnd h3) (fun v6 => lb (fun (h8 : Hp) => gd (ib (v4 + v6) 3341) (lb (sJ h8 51 0 (ix (v4 + v6)) 0) (fun h10 => lb (v6 - 1) (fun v11 => bd (fX10_fillBest_L84 FU a2 r2 v4 v5 v11 h10) (fun v22 h20 => some ((), h20)))))) (fun j7 => br (a1 = ((gI h3 10 0 5) - 1)) (gd (0 ≤ v5.toInt ∧ v5.toInt ≤ ((v5 + v6) + 1).toInt ∧ ((v5 + v6) + 1).toInt ≤ 3341) (lb (flJ h3 51 0 (ix v5) (ix ((v5 + v6) + 1)) 0) (fun h24 => j7 h24))) (j7 h3)))))))
set_option maxRecDepth 20000 in
theorem tX10_fillBest_L84 {X : Cz} {h0 : Hp} {r : Option AV} {hE : Hp} : ∀ (n : Nat) (a2 : Int32) (a3 : Option Nat) (a4 : Int32) (a5 : Int32) (a7 : Int32) (h : Hp) (z : (Int32) × Hp), fX10_fillBest_L84 n a2 a3 a4 a5 a7 h = some z → V X mX10_fillBest true h0 147 [(0, zr 10 0), (2, zi a2), (3, zq 2 a3), (4, zi a4), (5, zi a5), (7, zi z.1)] [] z.2 r hE → V X mX10_fillBest true h0 84 [(0, zr 10 0), (2, zi a2), (3, zq 2 a3), (4, zi a4), (5, zi a5), (7, zi a7)] [] h r hE := by
  intro n
  induction n with
  | zero => intro a2 a3 a4 a5 a7 h z hF k; cases hF
  | succ n ih =>
    intro a2 a3 a4 a5 a7 h z hF k
    rw [fX10_fillBest_L84] at hF
    refine v_iload (j := 5) dX10_fillBest_84 rfl ?_
    refine v_if_lt dX10_fillBest_86 (by decide : _ = ((147 : Nat) : Int)) (fun q => ?_) (fun q => ?_)
    · replace hF := brT q hF
      cases hF
      exact k
    · replace hF := brF q hF
      refine v_aload_n (j := 0) dX10_fillBest_89 rfl ?_
      refine v_getL (c := 10) rfl rfl rfl ly10_6 cz10 flX10_21 dX10_fillBest_90 ?_
      refine v_iload (j := 4) dX10_fillBest_93 rfl ?_
      refine v_iload (j := 5) dX10_fillBest_95 rfl ?_
      refine v_iadd dX10_fillBest_97 ?_
      replace hF := gd_use hF
      obtain ⟨q12, hF⟩ := hF
      refine v_lald rfl q12 dX10_fillBest_98 ?_
      refine v_aload_n (j := 0) dX10_fillBest_99 rfl ?_
      refine v_getL (c := 10) rfl rfl rfl ly10_6 cz10 flX10_21 dX10_fillBest_100 ?_
      refine v_iload (j := 3) dX10_fillBest_103 rfl ?_
      refine v_iload (j := 5) dX10_fillBest_105 rfl ?_
      refine v_iadd dX10_fillBest_107 ?_
      refine v_iconst (v := 1) dX10_fillBest_108 (by decide) ?_
      refine v_iadd dX10_fillBest_109 ?_
      replace hF := gd_use hF
      obtain ⟨q13, hF⟩ := hF
      refine v_lald rfl q13 dX10_fillBest_110 ?_
      refine v_J9_max_f86c9 mlX10_116 (by decide) (Nat.le_of_ble_eq_true rfl) dX10_fillBest_111 ?_
      refine v_topj fun v14 ev14 => ?_
      replace hF := lb_use ev14 hF
      clear ev14
      refine v_lstore (ls' := [(8, zj v14), (0, zr 10 0), (2, zi a2), (3, zq 2 a3), (4, zi a4), (5, zi a5), (7, zi a7)]) dX10_fillBest_114 (by decide) rfl ?_
      refine v_aload_n (j := 1) dX10_fillBest_116 rfl ?_
      refine v_getL (c := 10) rfl rfl rfl ly10_6 cz10 flX10_21 dX10_fillBest_117 ?_
      refine v_iload (j := 4) dX10_fillBest_120 rfl ?_
      refine v_iload (j := 6) dX10_fillBest_122 rfl ?_
      refine v_iadd dX10_fillBest_124 ?_
      refine v_lload (j := 0) dX10_fillBest_125 rfl ?_
      refine v_aload_n (j := 1) dX10_fillBest_127 rfl ?_
      refine v_aload_n (j := 3) dX10_fillBest_128 rfl ?_
      refine v_iload (j := 5) dX10_fillBest_129 rfl ?_
      refine v_iload (j := 6) dX10_fillBest_131 rfl ?_
      refine v_iload_n (j := 2) dX10_fillBest_133 rfl ?_
      replace hF := bd_use hF
      obtain ⟨r15, h16, er15, hF⟩ := hF
      refine v_cV (hm := h16) (av := [zq 2 a3, zi a5, zi a7, zi a2]) (st := [zj v14, zi (a4 + a7), zr 51 0]) (stn := [zj r15, zj v14, zi (a4 + a7), zr 51 0]) (tX10_sumSeated er15) lcX10_sumSeated mlX10_122 imX10_sumSeated seX10_sumSeated rfl rfl rfl rfl ⟨by decide, by decide⟩ (Nat.le_of_ble_eq_true rfl) dX10_fillBest_134 rfl rfl ?_
      clear er15
      refine v_J9_max_f86c9 mlX10_116 (by decide) (Nat.le_of_ble_eq_true rfl) dX10_fillBest_137 ?_
      replace hF := gd_use hF
      obtain ⟨q17, hF⟩ := hF
      refine v_last rfl q17 dX10_fillBest_140 ?_
      refine v_toph fun h18 eh18 => ?_
      replace hF := lb_use eh18 hF
      clear eh18
      obtain ⟨v19, ev19⟩ : ∃ y : Int32, y = a7 + (-1) := ⟨_, rfl⟩
      replace hF := lb_use ev19 hF
      refine v_iinc (j := 6) (v := v19) (ls' := [(7, zi v19), (8, zj v14), (0, zr 10 0), (2, zi a2), (3, zq 2 a3), (4, zi a4), (5, zi a5)]) dX10_fillBest_141 rfl (by rw [ev19]; rfl) (by decide) rfl ?_
      clear ev19
      refine v_goto (tgt := 84) dX10_fillBest_144 (by decide) ?_
      refine v_sub [2, 3, 4, 5, 6, 0] rfl ?_
      exact ih a2 a3 a4 a5 v19 h18 _ hF k
set_option maxRecDepth 20000 in
theorem tX10_fillBest {X : Cz} {a1 : Int32} {a2 : Int32} {h hE : Hp} {rE : Unit} (hF : fX10_fillBest a1 a2 h = some (rE, hE)) : Ct X mX10_fillBest true [zr 10 0, zi a1, zi a2] h (none) hE := by
  refine Ct_of (by decide) (Nat.le_of_ble_eq_true rfl) (ls := [(0, zr 10 0), (1, zi a1), (2, zi a2)]) rfl ?_
  unfold fX10_fillBest at hF
  refine v_aload_n (j := 0) dX10_fillBest_0 rfl ?_
  refine v_getL (c := 10) rfl rfl rfl ly10_1 cz10 flX10_29 dX10_fillBest_1 ?_
  refine v_aload_n (j := 0) dX10_fillBest_4 rfl ?_
  refine v_getL (c := 10) rfl rfl rfl ly10_4 cz10 flX10_18 dX10_fillBest_5 ?_
  refine v_iload_n (j := 1) dX10_fillBest_8 rfl ?_
  replace hF := gd_use hF
  obtain ⟨q1, hF⟩ := hF
  refine v_iald rfl q1 dX10_fillBest_9 ?_
  replace hF := bd_use hF
  obtain ⟨r2, h3, er2, hF⟩ := hF
  refine v_cV (hm := h3) (av := [zi (gI h 50 0 (ix a1))]) (st := []) (stn := [zq 2 r2]) (tX4_find er2) lcX4_find mlX10_90 imX4_find seX4_find rfl rfl rfl rfl ⟨by decide, by decide⟩ (Nat.le_of_ble_eq_true rfl) dX10_fillBest_10 rfl rfl ?_
  clear er2
  refine v_astore_n (ls' := [(3, zq 2 r2), (0, zr 10 0), (1, zi a1), (2, zi a2)]) dX10_fillBest_13 (by decide) rfl ?_
  refine v_iload_n (j := 2) dX10_fillBest_14 rfl ?_
  refine v_sipush (v := 257) dX10_fillBest_15 (by decide) ?_
  refine v_imul dX10_fillBest_18 ?_
  refine v_topi fun v4 ev4 => ?_
  replace hF := lb_use ev4 hF
  clear ev4
  refine v_istore (ls' := [(4, zi v4), (3, zq 2 r2), (0, zr 10 0), (1, zi a1), (2, zi a2)]) dX10_fillBest_19 (by decide) rfl ?_
  refine v_iload (j := 0) dX10_fillBest_21 rfl ?_
  refine v_sipush (v := 256) dX10_fillBest_23 (by decide) ?_
  refine v_iadd dX10_fillBest_26 ?_
  refine v_iconst (v := 1) dX10_fillBest_27 (by decide) ?_
  refine v_iadd dX10_fillBest_28 ?_
  refine v_topi fun v5 ev5 => ?_
  replace hF := lb_use ev5 hF
  clear ev5
  refine v_istore (ls' := [(5, zi v5), (4, zi v4), (3, zq 2 r2), (0, zr 10 0), (1, zi a1), (2, zi a2)]) dX10_fillBest_29 (by decide) rfl ?_
  refine v_aload_n (j := 3) dX10_fillBest_31 rfl ?_
  refine v_getL (c := 10) rfl rfl rfl ly10_0 cz10 flX10_25 dX10_fillBest_32 ?_
  refine v_cV (hm := h3) (av := []) (st := []) (stn := [zi (fX1_spotsEnd h3)]) (tX1_spotsEnd h3) lcX1_spotsEnd mlX10_33 imX1_spotsEnd seX1_spotsEnd rfl rfl rfl rfl ⟨by decide, by decide⟩ (Nat.le_of_ble_eq_true rfl) dX10_fillBest_35 rfl rfl ?_
  refine v_topi fun v6 ev6 => ?_
  replace hF := lb_use ev6 hF
  clear ev6
  refine v_istore (ls' := [(6, zi v6), (5, zi v5), (4, zi v4), (3, zq 2 r2), (0, zr 10 0), (1, zi a1), (2, zi a2)]) dX10_fillBest_38 (by decide) rfl ?_
  refine v_iload_n (j := 5) dX10_fillBest_40 rfl ?_
  refine v_aload_n (j := 4) dX10_fillBest_41 rfl ?_
  refine v_getI (c := 10) rfl (Or.inl rfl) cz10 flX10_52 dX10_fillBest_42 ?_
  refine v_iconst (v := 1) dX10_fillBest_45 (by decide) ?_
  refine v_isub dX10_fillBest_46 ?_
  replace hF := lb_ex hF
  obtain ⟨j7, ej7, hF⟩ := hF
  have j7V : ∀ (h8 : Hp), j7 h8 = some ((), hE) → V X mX10_fillBest true h 67 [(0, zr 10 0), (2, zi a2), (3, zq 2 r2), (4, zi v4), (5, zi v5), (6, zi v6)] [] h8 (none) hE := by
    intro h8 hF
    subst ej7
    refine v_aload_n (j := 0) dX10_fillBest_67 rfl ?_
    refine v_getL (c := 10) rfl rfl rfl ly10_6 cz10 flX10_21 dX10_fillBest_68 ?_
    refine v_iload (j := 3) dX10_fillBest_71 rfl ?_
    refine v_iload (j := 5) dX10_fillBest_73 rfl ?_
    refine v_iadd dX10_fillBest_75 ?_
    refine v_lconst (v := 0) dX10_fillBest_76 (by decide) ?_
    replace hF := gd_use hF
    obtain ⟨q9, hF⟩ := hF
    refine v_last rfl q9 dX10_fillBest_77 ?_
    refine v_toph fun h10 eh10 => ?_
    replace hF := lb_use eh10 hF
    clear eh10
    refine v_iload (j := 5) dX10_fillBest_78 rfl ?_
    refine v_iconst (v := 1) dX10_fillBest_80 (by decide) ?_
    refine v_isub dX10_fillBest_81 ?_
    refine v_topi fun v11 ev11 => ?_
    replace hF := lb_use ev11 hF
    clear ev11
    refine v_istore (ls' := [(7, zi v11), (0, zr 10 0), (2, zi a2), (3, zq 2 r2), (4, zi v4), (5, zi v5), (6, zi v6)]) dX10_fillBest_82 (by decide) rfl ?_
    refine v_sub [1, 2, 3, 4, 5, 0] rfl ?_
    replace hF := bd_use hF
    obtain ⟨v22, h20, ev22, hF⟩ := hF
    refine tX10_fillBest_L84 _ a2 r2 v4 v5 v11 h10 _ ev22 ?_
    clear ev22
    cases hF
    exact v_vret rfl dX10_fillBest_147
  clear ej7
  refine v_icmp_ne dX10_fillBest_47 (by decide : _ = ((67 : Nat) : Int)) (fun q => ?_) (fun q => ?_)
  · replace hF := brF q hF
    refine v_sub [4, 6, 3, 2, 1, 0] rfl ?_
    exact j7V h3 hF
  · replace hF := brT (Decidable.not_not.mp q) hF
    refine v_aload_n (j := 4) dX10_fillBest_50 rfl ?_
    refine v_getL (c := 10) rfl rfl rfl ly10_6 cz10 flX10_21 dX10_fillBest_51 ?_
    refine v_iload (j := 1) dX10_fillBest_54 rfl ?_
    refine v_iload (j := 1) dX10_fillBest_56 rfl ?_
    refine v_iload (j := 0) dX10_fillBest_58 rfl ?_
    refine v_iadd dX10_fillBest_60 ?_
    refine v_iconst (v := 1) dX10_fillBest_61 (by decide) ?_
    refine v_iadd dX10_fillBest_62 ?_
    refine v_lconst (v := 0) dX10_fillBest_63 (by decide) ?_
    replace hF := gd_use hF
    obtain ⟨q23, hF⟩ := hF
    refine v_cS (av := [zr 51 0, zi v5, zi ((v5 + v6) + 1), zj 0]) (st := []) (stn := []) (tJ7_fill_bad5a (n := 0) (k := 51) rfl (by decide) v5 ((v5 + v6) + 1) 0 h3 q23.1 q23.2.1 q23.2.2) lcJ7_fill_bad5a mlX10_110 sxJ7_fill_bad5a rfl ⟨by decide, by decide⟩ (Nat.le_of_ble_eq_true rfl) dX10_fillBest_64 rfl rfl ?_
    refine v_toph fun h24 eh24 => ?_
    replace hF := lb_use eh24 hF
    clear eh24
    refine v_sub [4, 6, 3, 2, 1, 0] rfl ?_
    exact j7V h24 hF
theorem dX10_firstOfBest_0 : decode cX10_firstOfBest 0 = .ok (.iload_n 1, 1) := by decide +kernel
theorem dX10_firstOfBest_1 : decode cX10_firstOfBest 1 = .ok (.sipush 257, 3) := by decide +kernel
theorem dX10_firstOfBest_4 : decode cX10_firstOfBest 4 = .ok (.imul, 1) := by decide +kernel
theorem dX10_firstOfBest_5 : decode cX10_firstOfBest 5 = .ok (.istore 5, 2) := by decide +kernel
theorem dX10_firstOfBest_7 : decode cX10_firstOfBest 7 = .ok (.iload 5, 2) := by decide +kernel
theorem dX10_firstOfBest_9 : decode cX10_firstOfBest 9 = .ok (.sipush 256, 3) := by decide +kernel
theorem dX10_firstOfBest_12 : decode cX10_firstOfBest 12 = .ok (.iadd, 1) := by decide +kernel
theorem dX10_firstOfBest_13 : decode cX10_firstOfBest 13 = .ok (.iconst 1, 1) := by decide +kernel
theorem dX10_firstOfBest_14 : decode cX10_firstOfBest 14 = .ok (.iadd, 1) := by decide +kernel
theorem dX10_firstOfBest_15 : decode cX10_firstOfBest 15 = .ok (.istore 6, 2) := by decide +kernel
theorem dX10_firstOfBest_17 : decode cX10_firstOfBest 17 = .ok (.aload_n 0, 1) := by decide +kernel
theorem dX10_firstOfBest_18 : decode cX10_firstOfBest 18 = .ok (.getfield 25, 3) := by decide +kernel
theorem dX10_firstOfBest_21 : decode cX10_firstOfBest 21 = .ok (.invokevirtual 33, 3) := by decide +kernel
theorem dX10_firstOfBest_24 : decode cX10_firstOfBest 24 = .ok (.istore 7, 2) := by decide +kernel
theorem dX10_firstOfBest_26 : decode cX10_firstOfBest 26 = .ok (.iload_n 3, 1) := by decide +kernel
theorem dX10_firstOfBest_27 : decode cX10_firstOfBest 27 = .ok (.istore 8, 2) := by decide +kernel
theorem dX10_firstOfBest_29 : decode cX10_firstOfBest 29 = .ok (.iload 8, 2) := by decide +kernel
theorem dX10_firstOfBest_31 : decode cX10_firstOfBest 31 = .ok (.iload 7, 2) := by decide +kernel
theorem dX10_firstOfBest_33 : decode cX10_firstOfBest 33 = .ok (.if_icmp .ge 36, 3) := by decide +kernel
theorem dX10_firstOfBest_36 : decode cX10_firstOfBest 36 = .ok (.aload_n 0, 1) := by decide +kernel
theorem dX10_firstOfBest_37 : decode cX10_firstOfBest 37 = .ok (.aload_n 2, 1) := by decide +kernel
theorem dX10_firstOfBest_38 : decode cX10_firstOfBest 38 = .ok (.iload 6, 2) := by decide +kernel
theorem dX10_firstOfBest_40 : decode cX10_firstOfBest 40 = .ok (.iload 8, 2) := by decide +kernel
theorem dX10_firstOfBest_42 : decode cX10_firstOfBest 42 = .ok (.iload 4, 2) := by decide +kernel
theorem dX10_firstOfBest_44 : decode cX10_firstOfBest 44 = .ok (.invokevirtual 122, 3) := by decide +kernel
theorem dX10_firstOfBest_47 : decode cX10_firstOfBest 47 = .ok (.aload_n 0, 1) := by decide +kernel
theorem dX10_firstOfBest_48 : decode cX10_firstOfBest 48 = .ok (.getfield 21, 3) := by decide +kernel
theorem dX10_firstOfBest_51 : decode cX10_firstOfBest 51 = .ok (.iload 5, 2) := by decide +kernel
theorem dX10_firstOfBest_53 : decode cX10_firstOfBest 53 = .ok (.iload_n 3, 1) := by decide +kernel
theorem dX10_firstOfBest_54 : decode cX10_firstOfBest 54 = .ok (.iadd, 1) := by decide +kernel
theorem dX10_firstOfBest_55 : decode cX10_firstOfBest 55 = .ok (.laload, 1) := by decide +kernel
theorem dX10_firstOfBest_56 : decode cX10_firstOfBest 56 = .ok (.lcmp, 1) := by decide +kernel
theorem dX10_firstOfBest_57 : decode cX10_firstOfBest 57 = .ok (.ifCond .ne 6, 3) := by decide +kernel
theorem dX10_firstOfBest_60 : decode cX10_firstOfBest 60 = .ok (.iload 8, 2) := by decide +kernel
theorem dX10_firstOfBest_62 : decode cX10_firstOfBest 62 = .ok (.ireturn, 1) := by decide +kernel
theorem dX10_firstOfBest_63 : decode cX10_firstOfBest 63 = .ok (.iinc 8 1, 3) := by decide +kernel
theorem dX10_firstOfBest_66 : decode cX10_firstOfBest 66 = .ok (.goto (-37), 3) := by decide +kernel
theorem dX10_firstOfBest_69 : decode cX10_firstOfBest 69 = .ok (.iconst (-1), 1) := by decide +kernel
theorem dX10_firstOfBest_70 : decode cX10_firstOfBest 70 = .ok (.ireturn, 1) := by decide +kernel
def fX10_firstOfBest_L29 : Nat → Option Nat → Int32 → Int32 → Int32 → Int32 → Int32 → Int32 → Hp → Option ((Int32 ⊕ Int32) × Hp)
  | 0, _, _, _, _, _, _, _, _ => none
  | n + 1, a2, a3, a4, a5, a6, a7, a8, h => br (a7 ≤ a8) (some (.inr (a8), h)) (bd (fX10_sumSeated a2 a6 a8 a4 h) (fun r4 h5 => gd (ib (a5 + a3) 3341) (br (r4 = (gJ h5 51 0 (ix (a5 + a3)))) (some (.inl a8, h5)) (lb (a8 + 1) (fun v7 => fX10_firstOfBest_L29 n a2 a3 a4 a5 a6 a7 v7 h5)))))
def fX10_firstOfBest (a1 : Int32) (a2 : Option Nat) (a3 : Int32) (a4 : Int32) (h : Hp) : Option (Int32 × Hp) := lb (a1 * 257) (fun v1 => lb ((v1 + 256) + 1) (fun v2 => lb (fX1_spotsEnd h) (fun v3 => bd (fX10_firstOfBest_L29 FU a2 a3 a4 v1 v2 v3 a3 h) (fun u11 h8 => ms u11 (fun r12 => some (r12, h8)) (fun v10 => some ((-1), h8))))))
set_option maxRecDepth 20000 in
theorem tX10_firstOfBest_L29 {X : Cz} {h0 : Hp} {r : Option AV} {hE : Hp} : ∀ (n : Nat) (a2 : Option Nat) (a3 : Int32) (a4 : Int32) (a5 : Int32) (a6 : Int32) (a7 : Int32) (a8 : Int32) (h : Hp) (z : (Int32 ⊕ Int32) × Hp), fX10_firstOfBest_L29 n a2 a3 a4 a5 a6 a7 a8 h = some z → lk z r hE (fun v => some (zi v)) (fun t hx => V X mX10_firstOfBest true h0 69 [(0, zr 10 0), (2, zq 2 a2), (3, zi a3), (4, zi a4), (5, zi a5), (6, zi a6), (7, zi a7), (8, zi t)] [] hx r hE) → V X mX10_firstOfBest true h0 29 [(0, zr 10 0), (2, zq 2 a2), (3, zi a3), (4, zi a4), (5, zi a5), (6, zi a6), (7, zi a7), (8, zi a8)] [] h r hE := by
  intro n
  induction n with
  | zero => intro a2 a3 a4 a5 a6 a7 a8 h z hF k; cases hF
  | succ n ih =>
    intro a2 a3 a4 a5 a6 a7 a8 h z hF k
    rw [fX10_firstOfBest_L29] at hF
    refine v_iload (j := 7) dX10_firstOfBest_29 rfl ?_
    refine v_iload (j := 6) dX10_firstOfBest_31 rfl ?_
    refine v_icmp_ge dX10_firstOfBest_33 (by decide : _ = ((69 : Nat) : Int)) (fun q => ?_) (fun q => ?_)
    · replace hF := brT q hF
      cases hF
      exact k
    · replace hF := brF q hF
      refine v_aload_n (j := 0) dX10_firstOfBest_36 rfl ?_
      refine v_aload_n (j := 1) dX10_firstOfBest_37 rfl ?_
      refine v_iload (j := 5) dX10_firstOfBest_38 rfl ?_
      refine v_iload (j := 7) dX10_firstOfBest_40 rfl ?_
      refine v_iload (j := 3) dX10_firstOfBest_42 rfl ?_
      replace hF := bd_use hF
      obtain ⟨r4, h5, er4, hF⟩ := hF
      refine v_cV (hm := h5) (av := [zq 2 a2, zi a6, zi a8, zi a4]) (st := []) (stn := [zj r4]) (tX10_sumSeated er4) lcX10_sumSeated mlX10_122 imX10_sumSeated seX10_sumSeated rfl rfl rfl rfl ⟨by decide, by decide⟩ (Nat.le_of_ble_eq_true rfl) dX10_firstOfBest_44 rfl rfl ?_
      clear er4
      refine v_aload_n (j := 0) dX10_firstOfBest_47 rfl ?_
      refine v_getL (c := 10) rfl rfl rfl ly10_6 cz10 flX10_21 dX10_firstOfBest_48 ?_
      refine v_iload (j := 4) dX10_firstOfBest_51 rfl ?_
      refine v_iload_n (j := 2) dX10_firstOfBest_53 rfl ?_
      refine v_iadd dX10_firstOfBest_54 ?_
      replace hF := gd_use hF
      obtain ⟨q6, hF⟩ := hF
      refine v_lald rfl q6 dX10_firstOfBest_55 ?_
      refine v_lif_ne (x := r4) (y := (gJ h5 51 0 (ix (a5 + a3)))) dX10_firstOfBest_56 dX10_firstOfBest_57 (by decide : _ = ((63 : Nat) : Int)) (fun q => ?_) (fun q => ?_)
      · replace hF := brF q hF
        obtain ⟨v7, ev7⟩ : ∃ y : Int32, y = a8 + 1 := ⟨_, rfl⟩
        replace hF := lb_use ev7 hF
        refine v_iinc (j := 7) (v := v7) (ls' := [(8, zi v7), (0, zr 10 0), (2, zq 2 a2), (3, zi a3), (4, zi a4), (5, zi a5), (6, zi a6), (7, zi a7)]) dX10_firstOfBest_63 rfl (by rw [ev7]; rfl) (by decide) rfl ?_
        clear ev7
        refine v_goto (tgt := 29) dX10_firstOfBest_66 (by decide) ?_
        refine v_sub [1, 2, 3, 4, 5, 6, 7, 0] rfl ?_
        exact ih a2 a3 a4 a5 a6 a7 v7 h5 _ hF k
      · replace hF := brT (Decidable.not_not.mp q) hF
        refine v_iload (j := 7) dX10_firstOfBest_60 rfl ?_
        cases hF
        obtain ⟨rfl, rfl⟩ := (k : _ ∧ _)
        exact v_iret rfl dX10_firstOfBest_62
set_option maxRecDepth 20000 in
theorem tX10_firstOfBest {X : Cz} {a1 : Int32} {a2 : Option Nat} {a3 : Int32} {a4 : Int32} {h hE : Hp} {rE : Int32} (hF : fX10_firstOfBest a1 a2 a3 a4 h = some (rE, hE)) : Ct X mX10_firstOfBest true [zr 10 0, zi a1, zq 2 a2, zi a3, zi a4] h (some (zi rE)) hE := by
  refine Ct_of (by decide) (Nat.le_of_ble_eq_true rfl) (ls := [(0, zr 10 0), (1, zi a1), (2, zq 2 a2), (3, zi a3), (4, zi a4)]) rfl ?_
  unfold fX10_firstOfBest at hF
  refine v_iload_n (j := 1) dX10_firstOfBest_0 rfl ?_
  refine v_sipush (v := 257) dX10_firstOfBest_1 (by decide) ?_
  refine v_imul dX10_firstOfBest_4 ?_
  refine v_topi fun v1 ev1 => ?_
  replace hF := lb_use ev1 hF
  clear ev1
  refine v_istore (ls' := [(5, zi v1), (0, zr 10 0), (1, zi a1), (2, zq 2 a2), (3, zi a3), (4, zi a4)]) dX10_firstOfBest_5 (by decide) rfl ?_
  refine v_iload (j := 0) dX10_firstOfBest_7 rfl ?_
  refine v_sipush (v := 256) dX10_firstOfBest_9 (by decide) ?_
  refine v_iadd dX10_firstOfBest_12 ?_
  refine v_iconst (v := 1) dX10_firstOfBest_13 (by decide) ?_
  refine v_iadd dX10_firstOfBest_14 ?_
  refine v_topi fun v2 ev2 => ?_
  replace hF := lb_use ev2 hF
  clear ev2
  refine v_istore (ls' := [(6, zi v2), (5, zi v1), (0, zr 10 0), (1, zi a1), (2, zq 2 a2), (3, zi a3), (4, zi a4)]) dX10_firstOfBest_15 (by decide) rfl ?_
  refine v_aload_n (j := 2) dX10_firstOfBest_17 rfl ?_
  refine v_getL (c := 10) rfl rfl rfl ly10_0 cz10 flX10_25 dX10_firstOfBest_18 ?_
  refine v_cV (hm := h) (av := []) (st := []) (stn := [zi (fX1_spotsEnd h)]) (tX1_spotsEnd h) lcX1_spotsEnd mlX10_33 imX1_spotsEnd seX1_spotsEnd rfl rfl rfl rfl ⟨by decide, by decide⟩ (Nat.le_of_ble_eq_true rfl) dX10_firstOfBest_21 rfl rfl ?_
  refine v_topi fun v3 ev3 => ?_
  replace hF := lb_use ev3 hF
  clear ev3
  refine v_istore (ls' := [(7, zi v3), (6, zi v2), (5, zi v1), (0, zr 10 0), (1, zi a1), (2, zq 2 a2), (3, zi a3), (4, zi a4)]) dX10_firstOfBest_24 (by decide) rfl ?_
  refine v_iload_n (j := 6) dX10_firstOfBest_26 rfl ?_
  refine v_istore (ls' := [(8, zi a3), (7, zi v3), (6, zi v2), (5, zi v1), (0, zr 10 0), (1, zi a1), (2, zq 2 a2), (3, zi a3), (4, zi a4)]) dX10_firstOfBest_27 (by decide) rfl ?_
  refine v_sub [4, 6, 7, 8, 3, 2, 1, 0] rfl ?_
  replace hF := bd_use hF
  obtain ⟨u11, h8, ev10, hF⟩ := hF
  rcases u11 with r12 | v10
  · obtain ⟨rfl, rfl⟩ := ret_use hF
    exact tX10_firstOfBest_L29 _ a2 a3 a4 v1 v2 v3 a3 h _ ev10 ⟨rfl, rfl⟩
  replace hF := msR hF
  refine tX10_firstOfBest_L29 _ a2 a3 a4 v1 v2 v3 a3 h _ ev10 ?_
  clear ev10
  refine v_iconst (v := (-1)) dX10_firstOfBest_69 (by decide) ?_
  obtain ⟨rfl, rfl⟩ := ret_use hF
  exact v_iret rfl dX10_firstOfBest_70
theorem dX10_seatByRank_0 : decode cX10_seatByRank 0 = .ok (.iconst 0, 1) := by decide +kernel
theorem dX10_seatByRank_1 : decode cX10_seatByRank 1 = .ok (.istore_n 3, 1) := by decide +kernel
theorem dX10_seatByRank_2 : decode cX10_seatByRank 2 = .ok (.iconst 0, 1) := by decide +kernel
theorem dX10_seatByRank_3 : decode cX10_seatByRank 3 = .ok (.istore 4, 2) := by decide +kernel
theorem dX10_seatByRank_5 : decode cX10_seatByRank 5 = .ok (.iload 4, 2) := by decide +kernel
theorem dX10_seatByRank_7 : decode cX10_seatByRank 7 = .ok (.aload_n 0, 1) := by decide +kernel
theorem dX10_seatByRank_8 : decode cX10_seatByRank 8 = .ok (.getfield 52, 3) := by decide +kernel
theorem dX10_seatByRank_11 : decode cX10_seatByRank 11 = .ok (.if_icmp .ge 99, 3) := by decide +kernel
theorem dX10_seatByRank_14 : decode cX10_seatByRank 14 = .ok (.aload_n 0, 1) := by decide +kernel
theorem dX10_seatByRank_15 : decode cX10_seatByRank 15 = .ok (.getfield 29, 3) := by decide +kernel
theorem dX10_seatByRank_18 : decode cX10_seatByRank 18 = .ok (.aload_n 0, 1) := by decide +kernel
theorem dX10_seatByRank_19 : decode cX10_seatByRank 19 = .ok (.getfield 18, 3) := by decide +kernel
theorem dX10_seatByRank_22 : decode cX10_seatByRank 22 = .ok (.iload 4, 2) := by decide +kernel
theorem dX10_seatByRank_24 : decode cX10_seatByRank 24 = .ok (.iaload, 1) := by decide +kernel
theorem dX10_seatByRank_25 : decode cX10_seatByRank 25 = .ok (.invokevirtual 90, 3) := by decide +kernel
theorem dX10_seatByRank_28 : decode cX10_seatByRank 28 = .ok (.astore 5, 2) := by decide +kernel
theorem dX10_seatByRank_30 : decode cX10_seatByRank 30 = .ok (.aload_n 0, 1) := by decide +kernel
theorem dX10_seatByRank_31 : decode cX10_seatByRank 31 = .ok (.iload 4, 2) := by decide +kernel
theorem dX10_seatByRank_33 : decode cX10_seatByRank 33 = .ok (.aload 5, 2) := by decide +kernel
theorem dX10_seatByRank_35 : decode cX10_seatByRank 35 = .ok (.iload_n 3, 1) := by decide +kernel
theorem dX10_seatByRank_36 : decode cX10_seatByRank 36 = .ok (.iload_n 2, 1) := by decide +kernel
theorem dX10_seatByRank_37 : decode cX10_seatByRank 37 = .ok (.invokevirtual 131, 3) := by decide +kernel
theorem dX10_seatByRank_40 : decode cX10_seatByRank 40 = .ok (.istore 6, 2) := by decide +kernel
theorem dX10_seatByRank_42 : decode cX10_seatByRank 42 = .ok (.aload 5, 2) := by decide +kernel
theorem dX10_seatByRank_44 : decode cX10_seatByRank 44 = .ok (.ifnull 60, 3) := by decide +kernel
theorem dX10_seatByRank_47 : decode cX10_seatByRank 47 = .ok (.iload 6, 2) := by decide +kernel
theorem dX10_seatByRank_49 : decode cX10_seatByRank 49 = .ok (.iconst (-1), 1) := by decide +kernel
theorem dX10_seatByRank_50 : decode cX10_seatByRank 50 = .ok (.if_icmp .eq 54, 3) := by decide +kernel
theorem dX10_seatByRank_53 : decode cX10_seatByRank 53 = .ok (.aload_n 0, 1) := by decide +kernel
theorem dX10_seatByRank_54 : decode cX10_seatByRank 54 = .ok (.getfield 25, 3) := by decide +kernel
theorem dX10_seatByRank_57 : decode cX10_seatByRank 57 = .ok (.iload 6, 2) := by decide +kernel
theorem dX10_seatByRank_59 : decode cX10_seatByRank 59 = .ok (.aload 5, 2) := by decide +kernel
theorem dX10_seatByRank_61 : decode cX10_seatByRank 61 = .ok (.getfield 94, 3) := by decide +kernel
theorem dX10_seatByRank_64 : decode cX10_seatByRank 64 = .ok (.aload 5, 2) := by decide +kernel
theorem dX10_seatByRank_66 : decode cX10_seatByRank 66 = .ok (.getfield 99, 3) := by decide +kernel
theorem dX10_seatByRank_69 : decode cX10_seatByRank 69 = .ok (.invokevirtual 43, 3) := by decide +kernel
theorem dX10_seatByRank_72 : decode cX10_seatByRank 72 = .ok (.istore 7, 2) := by decide +kernel
theorem dX10_seatByRank_74 : decode cX10_seatByRank 74 = .ok (.aload_n 1, 1) := by decide +kernel
theorem dX10_seatByRank_75 : decode cX10_seatByRank 75 = .ok (.aload_n 0, 1) := by decide +kernel
theorem dX10_seatByRank_76 : decode cX10_seatByRank 76 = .ok (.getfield 18, 3) := by decide +kernel
theorem dX10_seatByRank_79 : decode cX10_seatByRank 79 = .ok (.iload 4, 2) := by decide +kernel
theorem dX10_seatByRank_81 : decode cX10_seatByRank 81 = .ok (.iaload, 1) := by decide +kernel
theorem dX10_seatByRank_82 : decode cX10_seatByRank 82 = .ok (.iload 6, 2) := by decide +kernel
theorem dX10_seatByRank_84 : decode cX10_seatByRank 84 = .ok (.aload 5, 2) := by decide +kernel
theorem dX10_seatByRank_86 : decode cX10_seatByRank 86 = .ok (.getfield 94, 3) := by decide +kernel
theorem dX10_seatByRank_89 : decode cX10_seatByRank 89 = .ok (.iload 7, 2) := by decide +kernel
theorem dX10_seatByRank_91 : decode cX10_seatByRank 91 = .ok (.iconst 0, 1) := by decide +kernel
theorem dX10_seatByRank_92 : decode cX10_seatByRank 92 = .ok (.invokevirtual 106, 3) := by decide +kernel
theorem dX10_seatByRank_95 : decode cX10_seatByRank 95 = .ok (.iload 6, 2) := by decide +kernel
theorem dX10_seatByRank_97 : decode cX10_seatByRank 97 = .ok (.aload 5, 2) := by decide +kernel
theorem dX10_seatByRank_99 : decode cX10_seatByRank 99 = .ok (.getfield 94, 3) := by decide +kernel
theorem dX10_seatByRank_102 : decode cX10_seatByRank 102 = .ok (.iadd, 1) := by decide +kernel
theorem dX10_seatByRank_103 : decode cX10_seatByRank 103 = .ok (.istore_n 3, 1) := by decide +kernel
theorem dX10_seatByRank_104 : decode cX10_seatByRank 104 = .ok (.iinc 4 1, 3) := by decide +kernel
theorem dX10_seatByRank_107 : decode cX10_seatByRank 107 = .ok (.goto (-102), 3) := by decide +kernel
theorem dX10_seatByRank_110 : decode cX10_seatByRank 110 = .ok (.return_, 1) := by decide +kernel
def fX10_seatByRank_L5 : Nat → Nat → Int32 → Int32 → Int32 → Hp → Option ((Int32 × Int32) × Hp)
  | 0, _, _, _, _, _ => none
  | n + 1, a1, a2, a3, a4, h => br ((gI h 10 0 5) ≤ a4) (some ((a3, a4), h)) (gd (ib a4 12) (bd (fX4_find (gI h 50 0 (ix a4)) h) (fun r2 h3 => bd (fX10_firstOfBest a4 r2 a3 a2 h3) (fun r4 h5 => mt r2 (lb (a4 + 1) (fun v7 => fX10_seatByRank_L5 n a1 a2 a3 v7 h5)) (fun z6 => br (r4 = (-1)) (lb (a4 + 1) (fun v8 => fX10_seatByRank_L5 n a1 a2 a3 v8 h5)) (bd (fX1_worthOf r4 (gI h5 2 z6 1) (gI h5 2 z6 2) h5) (fun r9 h10 => gd (ib a4 12) (bd (fX8_put a1 (gI h10 50 0 (ix a4)) r4 (gI h10 2 z6 1) r9 0 h10) (fun r12 h13 => lb (r4 + (gI h13 2 z6 1)) (fun v14 => lb (a4 + 1) (fun v15 => fX10_seatByRank_L5 n a1 a2 v14 v15 h13)))))))))))
def fX10_seatByRank (a1 : Nat) (a2 : Int32) (h : Hp) : Option (Unit × Hp) := bd (fX10_seatByRank_L5 FU a1 a2 0 0 h) (fun t17 h16 => lb t17.1 (fun v18 => lb t17.2 (fun v19 => some ((), h16))))
set_option maxRecDepth 20000 in
theorem tX10_seatByRank_L5 {X : Cz} {h0 : Hp} {r : Option AV} {hE : Hp} : ∀ (n : Nat) (a1 : Nat) (a2 : Int32) (a3 : Int32) (a4 : Int32) (h : Hp) (z : (Int32 × Int32) × Hp), fX10_seatByRank_L5 n a1 a2 a3 a4 h = some z → V X mX10_seatByRank true h0 110 [(0, zr 10 0), (1, zr 8 a1), (2, zi a2), (3, zi z.1.1), (4, zi z.1.2)] [] z.2 r hE → V X mX10_seatByRank true h0 5 [(0, zr 10 0), (1, zr 8 a1), (2, zi a2), (3, zi a3), (4, zi a4)] [] h r hE := by
  intro n
  induction n with
  | zero => intro a1 a2 a3 a4 h z hF k; cases hF
  | succ n ih =>
    intro a1 a2 a3 a4 h z hF k
    rw [fX10_seatByRank_L5] at hF
    refine v_iload (j := 4) dX10_seatByRank_5 rfl ?_
    refine v_aload_n (j := 0) dX10_seatByRank_7 rfl ?_
    refine v_getI (c := 10) rfl (Or.inl rfl) cz10 flX10_52 dX10_seatByRank_8 ?_
    refine v_icmp_ge dX10_seatByRank_11 (by decide : _ = ((110 : Nat) : Int)) (fun q => ?_) (fun q => ?_)
    · replace hF := brT q hF
      cases hF
      exact k
    · replace hF := brF q hF
      refine v_aload_n (j := 0) dX10_seatByRank_14 rfl ?_
      refine v_getL (c := 10) rfl rfl rfl ly10_1 cz10 flX10_29 dX10_seatByRank_15 ?_
      refine v_aload_n (j := 0) dX10_seatByRank_18 rfl ?_
      refine v_getL (c := 10) rfl rfl rfl ly10_4 cz10 flX10_18 dX10_seatByRank_19 ?_
      refine v_iload (j := 4) dX10_seatByRank_22 rfl ?_
      replace hF := gd_use hF
      obtain ⟨q1, hF⟩ := hF
      refine v_iald rfl q1 dX10_seatByRank_24 ?_
      replace hF := bd_use hF
      obtain ⟨r2, h3, er2, hF⟩ := hF
      refine v_cV (hm := h3) (av := [zi (gI h 50 0 (ix a4))]) (st := []) (stn := [zq 2 r2]) (tX4_find er2) lcX4_find mlX10_90 imX4_find seX4_find rfl rfl rfl rfl ⟨by decide, by decide⟩ (Nat.le_of_ble_eq_true rfl) dX10_seatByRank_25 rfl rfl ?_
      clear er2
      refine v_astore (ls' := [(5, zq 2 r2), (0, zr 10 0), (1, zr 8 a1), (2, zi a2), (3, zi a3), (4, zi a4)]) dX10_seatByRank_28 (by decide) rfl ?_
      refine v_aload_n (j := 1) dX10_seatByRank_30 rfl ?_
      refine v_iload (j := 5) dX10_seatByRank_31 rfl ?_
      refine v_aload (j := 0) dX10_seatByRank_33 rfl ?_
      refine v_iload_n (j := 4) dX10_seatByRank_35 rfl ?_
      refine v_iload_n (j := 3) dX10_seatByRank_36 rfl ?_
      replace hF := bd_use hF
      obtain ⟨r4, h5, er4, hF⟩ := hF
      refine v_cV (hm := h5) (av := [zi a4, zq 2 r2, zi a3, zi a2]) (st := []) (stn := [zi r4]) (tX10_firstOfBest er4) lcX10_firstOfBest mlX10_131 imX10_firstOfBest seX10_firstOfBest rfl rfl rfl rfl ⟨by decide, by decide⟩ (Nat.le_of_ble_eq_true rfl) dX10_seatByRank_37 rfl rfl ?_
      clear er4
      refine v_istore (ls' := [(6, zi r4), (5, zq 2 r2), (0, zr 10 0), (1, zr 8 a1), (2, zi a2), (3, zi a3), (4, zi a4)]) dX10_seatByRank_40 (by decide) rfl ?_
      refine v_aload (j := 1) dX10_seatByRank_42 rfl ?_
      cases r2 with
      | none =>
        replace hF := mtN hF
        refine v_ifnullN (tgt := 104) dX10_seatByRank_44 (by decide) ?_
        obtain ⟨v7, ev7⟩ : ∃ y : Int32, y = a4 + 1 := ⟨_, rfl⟩
        replace hF := lb_use ev7 hF
        refine v_iinc (j := 6) (v := v7) (ls' := [(4, zi v7), (6, zi r4), (5, zo), (0, zr 10 0), (1, zr 8 a1), (2, zi a2), (3, zi a3)]) dX10_seatByRank_104 rfl (by rw [ev7]; rfl) (by decide) rfl ?_
        clear ev7
        refine v_goto (tgt := 5) dX10_seatByRank_107 (by decide) ?_
        refine v_sub [3, 4, 5, 6, 0] rfl ?_
        exact ih a1 a2 a3 v7 h5 _ hF k
      | some z6 =>
        replace hF := mtS hF
        refine v_ifnullS (q := (2, z6)) (tgt := 104) dX10_seatByRank_44 (by decide) ?_
        refine v_iload (j := 0) dX10_seatByRank_47 rfl ?_
        refine v_iconst (v := (-1)) dX10_seatByRank_49 (by decide) ?_
        refine v_icmp_eq dX10_seatByRank_50 (by decide : _ = ((104 : Nat) : Int)) (fun q => ?_) (fun q => ?_)
        · replace hF := brT q hF
          obtain ⟨v8, ev8⟩ : ∃ y : Int32, y = a4 + 1 := ⟨_, rfl⟩
          replace hF := lb_use ev8 hF
          refine v_iinc (j := 6) (v := v8) (ls' := [(4, zi v8), (6, zi r4), (5, zr 2 z6), (0, zr 10 0), (1, zr 8 a1), (2, zi a2), (3, zi a3)]) dX10_seatByRank_104 rfl (by rw [ev8]; rfl) (by decide) rfl ?_
          clear ev8
          refine v_goto (tgt := 5) dX10_seatByRank_107 (by decide) ?_
          refine v_sub [3, 4, 5, 6, 0] rfl ?_
          exact ih a1 a2 a3 v8 h5 _ hF k
        · replace hF := brF q hF
          refine v_aload_n (j := 2) dX10_seatByRank_53 rfl ?_
          refine v_getL (c := 10) rfl rfl rfl ly10_0 cz10 flX10_25 dX10_seatByRank_54 ?_
          refine v_iload (j := 0) dX10_seatByRank_57 rfl ?_
          refine v_aload (j := 1) dX10_seatByRank_59 rfl ?_
          refine v_getI (c := 2) rfl (Or.inl rfl) cz2 flX10_94 dX10_seatByRank_61 ?_
          refine v_aload (j := 1) dX10_seatByRank_64 rfl ?_
          refine v_getI (c := 2) rfl (Or.inl rfl) cz2 flX10_99 dX10_seatByRank_66 ?_
          replace hF := bd_use hF
          obtain ⟨r9, h10, er9, hF⟩ := hF
          refine v_cV (hm := h10) (av := [zi r4, zi (gI h5 2 z6 1), zi (gI h5 2 z6 2)]) (st := []) (stn := [zi r9]) (tX1_worthOf er9) lcX1_worthOf mlX10_43 imX1_worthOf seX1_worthOf rfl rfl rfl rfl ⟨by decide, by decide⟩ (Nat.le_of_ble_eq_true rfl) dX10_seatByRank_69 rfl rfl ?_
          clear er9
          refine v_istore (ls' := [(7, zi r9), (6, zi r4), (5, zr 2 z6), (0, zr 10 0), (1, zr 8 a1), (2, zi a2), (3, zi a3), (4, zi a4)]) dX10_seatByRank_72 (by decide) rfl ?_
          refine v_aload_n (j := 4) dX10_seatByRank_74 rfl ?_
          refine v_aload_n (j := 3) dX10_seatByRank_75 rfl ?_
          refine v_getL (c := 10) rfl rfl rfl ly10_4 cz10 flX10_18 dX10_seatByRank_76 ?_
          refine v_iload (j := 7) dX10_seatByRank_79 rfl ?_
          replace hF := gd_use hF
          obtain ⟨q11, hF⟩ := hF
          refine v_iald rfl q11 dX10_seatByRank_81 ?_
          refine v_iload (j := 1) dX10_seatByRank_82 rfl ?_
          refine v_aload (j := 2) dX10_seatByRank_84 rfl ?_
          refine v_getI (c := 2) rfl (Or.inl rfl) cz2 flX10_94 dX10_seatByRank_86 ?_
          refine v_iload (j := 0) dX10_seatByRank_89 rfl ?_
          refine v_iconst (v := 0) dX10_seatByRank_91 (by decide) ?_
          replace hF := bd_use hF
          obtain ⟨r12, h13, er12, hF⟩ := hF
          refine v_cV (hm := h13) (av := [zi (gI h10 50 0 (ix a4)), zi r4, zi (gI h10 2 z6 1), zi r9, zi 0]) (st := []) (stn := []) (tX8_put er12) lcX8_put mlX10_106 imX8_put seX8_put rfl rfl rfl rfl ⟨by decide, by decide⟩ (Nat.le_of_ble_eq_true rfl) dX10_seatByRank_92 rfl rfl ?_
          clear er12
          refine v_iload (j := 1) dX10_seatByRank_95 rfl ?_
          refine v_aload (j := 2) dX10_seatByRank_97 rfl ?_
          refine v_getI (c := 2) rfl (Or.inl rfl) cz2 flX10_94 dX10_seatByRank_99 ?_
          refine v_iadd dX10_seatByRank_102 ?_
          refine v_topi fun v14 ev14 => ?_
          replace hF := lb_use ev14 hF
          clear ev14
          refine v_istore_n (ls' := [(3, zi v14), (7, zi r9), (6, zi r4), (5, zr 2 z6), (0, zr 10 0), (1, zr 8 a1), (2, zi a2), (4, zi a4)]) dX10_seatByRank_103 (by decide) rfl ?_
          obtain ⟨v15, ev15⟩ : ∃ y : Int32, y = a4 + 1 := ⟨_, rfl⟩
          replace hF := lb_use ev15 hF
          refine v_iinc (j := 7) (v := v15) (ls' := [(4, zi v15), (3, zi v14), (7, zi r9), (6, zi r4), (5, zr 2 z6), (0, zr 10 0), (1, zr 8 a1), (2, zi a2)]) dX10_seatByRank_104 rfl (by rw [ev15]; rfl) (by decide) rfl ?_
          clear ev15
          refine v_goto (tgt := 5) dX10_seatByRank_107 (by decide) ?_
          refine v_sub [5, 6, 7, 1, 0] rfl ?_
          exact ih a1 a2 v14 v15 h13 _ hF k
set_option maxRecDepth 20000 in
theorem tX10_seatByRank {X : Cz} {a1 : Nat} {a2 : Int32} {h hE : Hp} {rE : Unit} (hF : fX10_seatByRank a1 a2 h = some (rE, hE)) : Ct X mX10_seatByRank true [zr 10 0, zr 8 a1, zi a2] h (none) hE := by
  refine Ct_of (by decide) (Nat.le_of_ble_eq_true rfl) (ls := [(0, zr 10 0), (1, zr 8 a1), (2, zi a2)]) rfl ?_
  unfold fX10_seatByRank at hF
  refine v_iconst (v := 0) dX10_seatByRank_0 (by decide) ?_
  refine v_istore_n (ls' := [(3, zi 0), (0, zr 10 0), (1, zr 8 a1), (2, zi a2)]) dX10_seatByRank_1 (by decide) rfl ?_
  refine v_iconst (v := 0) dX10_seatByRank_2 (by decide) ?_
  refine v_istore (ls' := [(4, zi 0), (3, zi 0), (0, zr 10 0), (1, zr 8 a1), (2, zi a2)]) dX10_seatByRank_3 (by decide) rfl ?_
  refine v_sub [2, 3, 4, 1, 0] rfl ?_
  replace hF := bd_use hF
  obtain ⟨t17, h16, et17, hF⟩ := hF
  refine tX10_seatByRank_L5 _ a1 a2 0 0 h _ et17 ?_
  clear et17
  obtain ⟨v18, v19⟩ := t17
  replace hF := lb_use (x := v18) rfl hF
  replace hF := lb_use (x := v19) rfl hF
  cases hF
  exact v_vret rfl dX10_seatByRank_110
theorem dX10_seatAll_0 : decode cX10_seatAll 0 = .ok (.aload_n 1, 1) := by decide +kernel
theorem dX10_seatAll_1 : decode cX10_seatAll 1 = .ok (.invokevirtual 47, 3) := by decide +kernel
theorem dX10_seatAll_4 : decode cX10_seatAll 4 = .ok (.aload_n 0, 1) := by decide +kernel
theorem dX10_seatAll_5 : decode cX10_seatAll 5 = .ok (.iconst 0, 1) := by decide +kernel
theorem dX10_seatAll_6 : decode cX10_seatAll 6 = .ok (.putfield 52, 3) := by decide +kernel
theorem dX10_seatAll_9 : decode cX10_seatAll 9 = .ok (.aload_n 0, 1) := by decide +kernel
theorem dX10_seatAll_10 : decode cX10_seatAll 10 = .ok (.getfield 29, 3) := by decide +kernel
theorem dX10_seatAll_13 : decode cX10_seatAll 13 = .ok (.aload_n 0, 1) := by decide +kernel
theorem dX10_seatAll_14 : decode cX10_seatAll 14 = .ok (.getfield 15, 3) := by decide +kernel
theorem dX10_seatAll_17 : decode cX10_seatAll 17 = .ok (.invokevirtual 56, 3) := by decide +kernel
theorem dX10_seatAll_20 : decode cX10_seatAll 20 = .ok (.istore 4, 2) := by decide +kernel
theorem dX10_seatAll_22 : decode cX10_seatAll 22 = .ok (.iconst 0, 1) := by decide +kernel
theorem dX10_seatAll_23 : decode cX10_seatAll 23 = .ok (.istore 5, 2) := by decide +kernel
theorem dX10_seatAll_25 : decode cX10_seatAll 25 = .ok (.iload 5, 2) := by decide +kernel
theorem dX10_seatAll_27 : decode cX10_seatAll 27 = .ok (.iload 4, 2) := by decide +kernel
theorem dX10_seatAll_29 : decode cX10_seatAll 29 = .ok (.if_icmp .ge 51, 3) := by decide +kernel
theorem dX10_seatAll_32 : decode cX10_seatAll 32 = .ok (.aload_n 0, 1) := by decide +kernel
theorem dX10_seatAll_33 : decode cX10_seatAll 33 = .ok (.aload_n 1, 1) := by decide +kernel
theorem dX10_seatAll_34 : decode cX10_seatAll 34 = .ok (.aload_n 2, 1) := by decide +kernel
theorem dX10_seatAll_35 : decode cX10_seatAll 35 = .ok (.aload_n 0, 1) := by decide +kernel
theorem dX10_seatAll_36 : decode cX10_seatAll 36 = .ok (.getfield 15, 3) := by decide +kernel
theorem dX10_seatAll_39 : decode cX10_seatAll 39 = .ok (.iload 5, 2) := by decide +kernel
theorem dX10_seatAll_41 : decode cX10_seatAll 41 = .ok (.iaload, 1) := by decide +kernel
theorem dX10_seatAll_42 : decode cX10_seatAll 42 = .ok (.invokevirtual 62, 3) := by decide +kernel
theorem dX10_seatAll_45 : decode cX10_seatAll 45 = .ok (.ifCond .ne 29, 3) := by decide +kernel
theorem dX10_seatAll_48 : decode cX10_seatAll 48 = .ok (.aload_n 0, 1) := by decide +kernel
theorem dX10_seatAll_49 : decode cX10_seatAll 49 = .ok (.getfield 18, 3) := by decide +kernel
theorem dX10_seatAll_52 : decode cX10_seatAll 52 = .ok (.aload_n 0, 1) := by decide +kernel
theorem dX10_seatAll_53 : decode cX10_seatAll 53 = .ok (.getfield 52, 3) := by decide +kernel
theorem dX10_seatAll_56 : decode cX10_seatAll 56 = .ok (.aload_n 0, 1) := by decide +kernel
theorem dX10_seatAll_57 : decode cX10_seatAll 57 = .ok (.getfield 15, 3) := by decide +kernel
theorem dX10_seatAll_60 : decode cX10_seatAll 60 = .ok (.iload 5, 2) := by decide +kernel
theorem dX10_seatAll_62 : decode cX10_seatAll 62 = .ok (.iaload, 1) := by decide +kernel
theorem dX10_seatAll_63 : decode cX10_seatAll 63 = .ok (.iastore, 1) := by decide +kernel
theorem dX10_seatAll_64 : decode cX10_seatAll 64 = .ok (.aload_n 0, 1) := by decide +kernel
theorem dX10_seatAll_65 : decode cX10_seatAll 65 = .ok (.dup, 1) := by decide +kernel
theorem dX10_seatAll_66 : decode cX10_seatAll 66 = .ok (.getfield 52, 3) := by decide +kernel
theorem dX10_seatAll_69 : decode cX10_seatAll 69 = .ok (.iconst 1, 1) := by decide +kernel
theorem dX10_seatAll_70 : decode cX10_seatAll 70 = .ok (.iadd, 1) := by decide +kernel
theorem dX10_seatAll_71 : decode cX10_seatAll 71 = .ok (.putfield 52, 3) := by decide +kernel
theorem dX10_seatAll_74 : decode cX10_seatAll 74 = .ok (.iinc 5 1, 3) := by decide +kernel
theorem dX10_seatAll_77 : decode cX10_seatAll 77 = .ok (.goto (-52), 3) := by decide +kernel
theorem dX10_seatAll_80 : decode cX10_seatAll 80 = .ok (.aload_n 0, 1) := by decide +kernel
theorem dX10_seatAll_81 : decode cX10_seatAll 81 = .ok (.aload_n 2, 1) := by decide +kernel
theorem dX10_seatAll_82 : decode cX10_seatAll 82 = .ok (.iconst (-1), 1) := by decide +kernel
theorem dX10_seatAll_83 : decode cX10_seatAll 83 = .ok (.invokevirtual 66, 3) := by decide +kernel
theorem dX10_seatAll_86 : decode cX10_seatAll 86 = .ok (.aload_n 0, 1) := by decide +kernel
theorem dX10_seatAll_87 : decode cX10_seatAll 87 = .ok (.getfield 52, 3) := by decide +kernel
theorem dX10_seatAll_90 : decode cX10_seatAll 90 = .ok (.iconst 1, 1) := by decide +kernel
theorem dX10_seatAll_91 : decode cX10_seatAll 91 = .ok (.isub, 1) := by decide +kernel
theorem dX10_seatAll_92 : decode cX10_seatAll 92 = .ok (.istore 5, 2) := by decide +kernel
theorem dX10_seatAll_94 : decode cX10_seatAll 94 = .ok (.iload 5, 2) := by decide +kernel
theorem dX10_seatAll_96 : decode cX10_seatAll 96 = .ok (.ifCond .lt 16, 3) := by decide +kernel
theorem dX10_seatAll_99 : decode cX10_seatAll 99 = .ok (.aload_n 0, 1) := by decide +kernel
theorem dX10_seatAll_100 : decode cX10_seatAll 100 = .ok (.iload 5, 2) := by decide +kernel
theorem dX10_seatAll_102 : decode cX10_seatAll 102 = .ok (.iload_n 3, 1) := by decide +kernel
theorem dX10_seatAll_103 : decode cX10_seatAll 103 = .ok (.invokevirtual 70, 3) := by decide +kernel
theorem dX10_seatAll_106 : decode cX10_seatAll 106 = .ok (.iinc 5 (-1), 3) := by decide +kernel
theorem dX10_seatAll_109 : decode cX10_seatAll 109 = .ok (.goto (-15), 3) := by decide +kernel
theorem dX10_seatAll_112 : decode cX10_seatAll 112 = .ok (.aload_n 0, 1) := by decide +kernel
theorem dX10_seatAll_113 : decode cX10_seatAll 113 = .ok (.aload_n 1, 1) := by decide +kernel
theorem dX10_seatAll_114 : decode cX10_seatAll 114 = .ok (.iload_n 3, 1) := by decide +kernel
theorem dX10_seatAll_115 : decode cX10_seatAll 115 = .ok (.invokevirtual 74, 3) := by decide +kernel
theorem dX10_seatAll_118 : decode cX10_seatAll 118 = .ok (.return_, 1) := by decide +kernel
def fX10_seatAll_L25 : Nat → Nat → Int32 → Int32 → Int32 → Hp → Option ((Int32) × Hp)
  | 0, _, _, _, _, _ => none
  | n + 1, a1, a3, a4, a5, h => br (a4 ≤ a5) (some ((a5), h)) (gd (ib a5 12) (bd (fX10_seatByRight a1 (gI h 49 0 (ix a5)) h) (fun r7 h8 => br (r7 = 0) (gd (ib a5 12) (gd (ib (gI h8 10 0 5) 12) (lb (sI h8 50 0 (ix (gI h8 10 0 5)) (gI h8 49 0 (ix a5))) (fun h12 => lb (sI h12 10 0 5 ((gI h12 10 0 5) + 1)) (fun h13 => lb (a5 + 1) (fun v14 => fX10_seatAll_L25 n a1 a3 a4 v14 h13)))))) (lb (a5 + 1) (fun v9 => fX10_seatAll_L25 n a1 a3 a4 v9 h8)))))
def fX10_seatAll_L94 : Nat → Nat → Int32 → Int32 → Hp → Option ((Int32) × Hp)
  | 0, _, _, _, _ => none
  | n + 1, a1, a3, a5, h => br (a5 < 0) (some ((a5), h)) (bd (fX10_fillBest a5 a3 h) (fun r21 h22 => lb (a5 + (-1)) (fun v23 => fX10_seatAll_L94 n a1 a3 v23 h22)))
def fX10_seatAll (a1 : Nat) (a3 : Int32) (h : Hp) : Option (Unit × Hp) := bd (fX8_clear a1 h) (fun r1 h2 => lb (sI h2 10 0 5 0) (fun h3 => bd (fX4_fillOrder h3) (fun r4 h5 => bd (fX10_seatAll_L25 FU a1 a3 r4 0 h5) (fun v17 h15 => bd (fX10_openThoseOf (-1) h15) (fun r18 h19 => lb ((gI h19 10 0 5) - 1) (fun v20 => bd (fX10_seatAll_L94 FU a1 a3 v20 h19) (fun v26 h24 => bd (fX10_seatByRank a1 a3 h24) (fun r27 h28 => some ((), h28)))))))))
set_option maxRecDepth 20000 in
theorem tX10_seatAll_L25 {X : Cz} {h0 : Hp} {r : Option AV} {hE : Hp} : ∀ (n : Nat) (a1 : Nat) (a3 : Int32) (a4 : Int32) (a5 : Int32) (h : Hp) (z : (Int32) × Hp), fX10_seatAll_L25 n a1 a3 a4 a5 h = some z → V X mX10_seatAll true h0 80 [(0, zr 10 0), (1, zr 8 a1), (2, zr 53 0), (3, zi a3), (4, zi a4), (5, zi z.1)] [] z.2 r hE → V X mX10_seatAll true h0 25 [(0, zr 10 0), (1, zr 8 a1), (2, zr 53 0), (3, zi a3), (4, zi a4), (5, zi a5)] [] h r hE := by
  intro n
  induction n with
  | zero => intro a1 a3 a4 a5 h z hF k; cases hF
  | succ n ih =>
    intro a1 a3 a4 a5 h z hF k
    rw [fX10_seatAll_L25] at hF
    refine v_iload (j := 5) dX10_seatAll_25 rfl ?_
    refine v_iload (j := 4) dX10_seatAll_27 rfl ?_
    refine v_icmp_ge dX10_seatAll_29 (by decide : _ = ((80 : Nat) : Int)) (fun q => ?_) (fun q => ?_)
    · replace hF := brT q hF
      cases hF
      exact k
    · replace hF := brF q hF
      refine v_aload_n (j := 0) dX10_seatAll_32 rfl ?_
      refine v_aload_n (j := 1) dX10_seatAll_33 rfl ?_
      refine v_aload_n (j := 2) dX10_seatAll_34 rfl ?_
      refine v_aload_n (j := 0) dX10_seatAll_35 rfl ?_
      refine v_getL (c := 10) rfl rfl rfl ly10_3 cz10 flX10_15 dX10_seatAll_36 ?_
      refine v_iload (j := 5) dX10_seatAll_39 rfl ?_
      replace hF := gd_use hF
      obtain ⟨q6, hF⟩ := hF
      refine v_iald rfl q6 dX10_seatAll_41 ?_
      replace hF := bd_use hF
      obtain ⟨r7, h8, er7, hF⟩ := hF
      refine v_cV (hm := h8) (av := [zr 8 a1, zr 53 0, zi (gI h 49 0 (ix a5))]) (st := []) (stn := [zi r7]) (tX10_seatByRight er7) lcX10_seatByRight mlX10_62 imX10_seatByRight seX10_seatByRight rfl rfl rfl rfl ⟨by decide, by decide⟩ (Nat.le_of_ble_eq_true rfl) dX10_seatAll_42 rfl rfl ?_
      clear er7
      refine v_if_ne dX10_seatAll_45 (by decide : _ = ((74 : Nat) : Int)) (fun q => ?_) (fun q => ?_)
      · replace hF := brF q hF
        obtain ⟨v9, ev9⟩ : ∃ y : Int32, y = a5 + 1 := ⟨_, rfl⟩
        replace hF := lb_use ev9 hF
        refine v_iinc (j := 5) (v := v9) (ls' := [(5, zi v9), (0, zr 10 0), (1, zr 8 a1), (2, zr 53 0), (3, zi a3), (4, zi a4)]) dX10_seatAll_74 rfl (by rw [ev9]; rfl) (by decide) rfl ?_
        clear ev9
        refine v_goto (tgt := 25) dX10_seatAll_77 (by decide) ?_
        refine v_sub [1, 2, 3, 4, 5, 0] rfl ?_
        exact ih a1 a3 a4 v9 h8 _ hF k
      · replace hF := brT (Decidable.not_not.mp q) hF
        refine v_aload_n (j := 0) dX10_seatAll_48 rfl ?_
        refine v_getL (c := 10) rfl rfl rfl ly10_4 cz10 flX10_18 dX10_seatAll_49 ?_
        refine v_aload_n (j := 0) dX10_seatAll_52 rfl ?_
        refine v_getI (c := 10) rfl (Or.inl rfl) cz10 flX10_52 dX10_seatAll_53 ?_
        refine v_aload_n (j := 0) dX10_seatAll_56 rfl ?_
        refine v_getL (c := 10) rfl rfl rfl ly10_3 cz10 flX10_15 dX10_seatAll_57 ?_
        refine v_iload (j := 5) dX10_seatAll_60 rfl ?_
        replace hF := gd_use hF
        obtain ⟨q10, hF⟩ := hF
        refine v_iald rfl q10 dX10_seatAll_62 ?_
        replace hF := gd_use hF
        obtain ⟨q11, hF⟩ := hF
        refine v_iast rfl q11 dX10_seatAll_63 ?_
        refine v_toph fun h12 eh12 => ?_
        replace hF := lb_use eh12 hF
        clear eh12
        refine v_aload_n (j := 0) dX10_seatAll_64 rfl ?_
        refine v_dup dX10_seatAll_65 rfl ?_
        refine v_getI (c := 10) rfl (Or.inl rfl) cz10 flX10_52 dX10_seatAll_66 ?_
        refine v_iconst (v := 1) dX10_seatAll_69 (by decide) ?_
        refine v_iadd dX10_seatAll_70 ?_
        refine v_putI (c := 10) rfl rfl (Nat.le_of_ble_eq_true rfl) cz10 flX10_52 dX10_seatAll_71 ?_
        refine v_toph fun h13 eh13 => ?_
        replace hF := lb_use eh13 hF
        clear eh13
        obtain ⟨v14, ev14⟩ : ∃ y : Int32, y = a5 + 1 := ⟨_, rfl⟩
        replace hF := lb_use ev14 hF
        refine v_iinc (j := 5) (v := v14) (ls' := [(5, zi v14), (0, zr 10 0), (1, zr 8 a1), (2, zr 53 0), (3, zi a3), (4, zi a4)]) dX10_seatAll_74 rfl (by rw [ev14]; rfl) (by decide) rfl ?_
        clear ev14
        refine v_goto (tgt := 25) dX10_seatAll_77 (by decide) ?_
        refine v_sub [1, 2, 3, 4, 5, 0] rfl ?_
        exact ih a1 a3 a4 v14 h13 _ hF k
set_option maxRecDepth 20000 in
theorem tX10_seatAll_L94 {X : Cz} {h0 : Hp} {r : Option AV} {hE : Hp} : ∀ (n : Nat) (a1 : Nat) (a3 : Int32) (a5 : Int32) (h : Hp) (z : (Int32) × Hp), fX10_seatAll_L94 n a1 a3 a5 h = some z → V X mX10_seatAll true h0 112 [(0, zr 10 0), (1, zr 8 a1), (3, zi a3), (5, zi z.1)] [] z.2 r hE → V X mX10_seatAll true h0 94 [(0, zr 10 0), (1, zr 8 a1), (3, zi a3), (5, zi a5)] [] h r hE := by
  intro n
  induction n with
  | zero => intro a1 a3 a5 h z hF k; cases hF
  | succ n ih =>
    intro a1 a3 a5 h z hF k
    rw [fX10_seatAll_L94] at hF
    refine v_iload (j := 3) dX10_seatAll_94 rfl ?_
    refine v_if_lt dX10_seatAll_96 (by decide : _ = ((112 : Nat) : Int)) (fun q => ?_) (fun q => ?_)
    · replace hF := brT q hF
      cases hF
      exact k
    · replace hF := brF q hF
      refine v_aload_n (j := 0) dX10_seatAll_99 rfl ?_
      refine v_iload (j := 3) dX10_seatAll_100 rfl ?_
      refine v_iload_n (j := 2) dX10_seatAll_102 rfl ?_
      replace hF := bd_use hF
      obtain ⟨r21, h22, er21, hF⟩ := hF
      refine v_cV (hm := h22) (av := [zi a5, zi a3]) (st := []) (stn := []) (tX10_fillBest er21) lcX10_fillBest mlX10_70 imX10_fillBest seX10_fillBest rfl rfl rfl rfl ⟨by decide, by decide⟩ (Nat.le_of_ble_eq_true rfl) dX10_seatAll_103 rfl rfl ?_
      clear er21
      obtain ⟨v23, ev23⟩ : ∃ y : Int32, y = a5 + (-1) := ⟨_, rfl⟩
      replace hF := lb_use ev23 hF
      refine v_iinc (j := 3) (v := v23) (ls' := [(5, zi v23), (0, zr 10 0), (1, zr 8 a1), (3, zi a3)]) dX10_seatAll_106 rfl (by rw [ev23]; rfl) (by decide) rfl ?_
      clear ev23
      refine v_goto (tgt := 94) dX10_seatAll_109 (by decide) ?_
      refine v_sub [1, 2, 3, 0] rfl ?_
      exact ih a1 a3 v23 h22 _ hF k
set_option maxRecDepth 20000 in
theorem tX10_seatAll {X : Cz} {a1 : Nat} {a3 : Int32} {h hE : Hp} {rE : Unit} (hF : fX10_seatAll a1 a3 h = some (rE, hE)) : Ct X mX10_seatAll true [zr 10 0, zr 8 a1, zr 53 0, zi a3] h (none) hE := by
  refine Ct_of (by decide) (Nat.le_of_ble_eq_true rfl) (ls := [(0, zr 10 0), (1, zr 8 a1), (2, zr 53 0), (3, zi a3)]) rfl ?_
  unfold fX10_seatAll at hF
  refine v_aload_n (j := 1) dX10_seatAll_0 rfl ?_
  replace hF := bd_use hF
  obtain ⟨r1, h2, er1, hF⟩ := hF
  refine v_cV (hm := h2) (av := []) (st := []) (stn := []) (tX8_clear er1) lcX8_clear mlX10_47 imX8_clear seX8_clear rfl rfl rfl rfl ⟨by decide, by decide⟩ (Nat.le_of_ble_eq_true rfl) dX10_seatAll_1 rfl rfl ?_
  clear er1
  refine v_aload_n (j := 0) dX10_seatAll_4 rfl ?_
  refine v_iconst (v := 0) dX10_seatAll_5 (by decide) ?_
  refine v_putI (c := 10) rfl rfl (Nat.le_of_ble_eq_true rfl) cz10 flX10_52 dX10_seatAll_6 ?_
  refine v_toph fun h3 eh3 => ?_
  replace hF := lb_use eh3 hF
  clear eh3
  refine v_aload_n (j := 0) dX10_seatAll_9 rfl ?_
  refine v_getL (c := 10) rfl rfl rfl ly10_1 cz10 flX10_29 dX10_seatAll_10 ?_
  refine v_aload_n (j := 0) dX10_seatAll_13 rfl ?_
  refine v_getL (c := 10) rfl rfl rfl ly10_3 cz10 flX10_15 dX10_seatAll_14 ?_
  replace hF := bd_use hF
  obtain ⟨r4, h5, er4, hF⟩ := hF
  refine v_cV (hm := h5) (av := [zr 49 0]) (st := []) (stn := [zi r4]) (tX4_fillOrder er4) lcX4_fillOrder mlX10_56 imX4_fillOrder seX4_fillOrder rfl rfl rfl rfl ⟨by decide, by decide⟩ (Nat.le_of_ble_eq_true rfl) dX10_seatAll_17 rfl rfl ?_
  clear er4
  refine v_istore (ls' := [(4, zi r4), (0, zr 10 0), (1, zr 8 a1), (2, zr 53 0), (3, zi a3)]) dX10_seatAll_20 (by decide) rfl ?_
  refine v_iconst (v := 0) dX10_seatAll_22 (by decide) ?_
  refine v_istore (ls' := [(5, zi 0), (4, zi r4), (0, zr 10 0), (1, zr 8 a1), (2, zr 53 0), (3, zi a3)]) dX10_seatAll_23 (by decide) rfl ?_
  refine v_sub [2, 3, 4, 5, 1, 0] rfl ?_
  replace hF := bd_use hF
  obtain ⟨v17, h15, ev17, hF⟩ := hF
  refine tX10_seatAll_L25 _ a1 a3 r4 0 h5 _ ev17 ?_
  clear ev17
  refine v_aload_n (j := 0) dX10_seatAll_80 rfl ?_
  refine v_aload_n (j := 2) dX10_seatAll_81 rfl ?_
  refine v_iconst (v := (-1)) dX10_seatAll_82 (by decide) ?_
  replace hF := bd_use hF
  obtain ⟨r18, h19, er18, hF⟩ := hF
  refine v_cV (hm := h19) (av := [zr 53 0, zi (-1)]) (st := []) (stn := []) (tX10_openThoseOf er18) lcX10_openThoseOf mlX10_66 imX10_openThoseOf seX10_openThoseOf rfl rfl rfl rfl ⟨by decide, by decide⟩ (Nat.le_of_ble_eq_true rfl) dX10_seatAll_83 rfl rfl ?_
  clear er18
  refine v_aload_n (j := 0) dX10_seatAll_86 rfl ?_
  refine v_getI (c := 10) rfl (Or.inl rfl) cz10 flX10_52 dX10_seatAll_87 ?_
  refine v_iconst (v := 1) dX10_seatAll_90 (by decide) ?_
  refine v_isub dX10_seatAll_91 ?_
  refine v_topi fun v20 ev20 => ?_
  replace hF := lb_use ev20 hF
  clear ev20
  refine v_istore (ls' := [(5, zi v20), (0, zr 10 0), (1, zr 8 a1), (2, zr 53 0), (3, zi a3), (4, zi r4)]) dX10_seatAll_92 (by decide) rfl ?_
  refine v_sub [1, 2, 4, 0] rfl ?_
  replace hF := bd_use hF
  obtain ⟨v26, h24, ev26, hF⟩ := hF
  refine tX10_seatAll_L94 _ a1 a3 v20 h19 _ ev26 ?_
  clear ev26
  refine v_aload_n (j := 0) dX10_seatAll_112 rfl ?_
  refine v_aload_n (j := 1) dX10_seatAll_113 rfl ?_
  refine v_iload_n (j := 2) dX10_seatAll_114 rfl ?_
  replace hF := bd_use hF
  obtain ⟨r27, h28, er27, hF⟩ := hF
  refine v_cV (hm := h28) (av := [zr 8 a1, zi a3]) (st := []) (stn := []) (tX10_seatByRank er27) lcX10_seatByRank mlX10_74 imX10_seatByRank seX10_seatByRank rfl rfl rfl rfl ⟨by decide, by decide⟩ (Nat.le_of_ble_eq_true rfl) dX10_seatAll_115 rfl rfl ?_
  clear er27
  cases hF
  exact v_vret rfl dX10_seatAll_118
