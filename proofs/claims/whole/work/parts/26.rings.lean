/-! functions and ties, printed by program (wip/gen/dec.py) -/
theorem dX6_init_0 : decode cX6_init 0 = .ok (.aload_n 0, 1) := by decide +kernel
theorem dX6_init_1 : decode cX6_init 1 = .ok (.invokespecial 3, 3) := by decide +kernel
theorem dX6_init_4 : decode cX6_init 4 = .ok (.aload_n 0, 1) := by decide +kernel
theorem dX6_init_5 : decode cX6_init 5 = .ok (.bipush 12, 2) := by decide +kernel
theorem dX6_init_7 : decode cX6_init 7 = .ok (.newarray .int, 2) := by decide +kernel
theorem dX6_init_9 : decode cX6_init 9 = .ok (.putfield 9, 3) := by decide +kernel
theorem dX6_init_12 : decode cX6_init 12 = .ok (.aload_n 0, 1) := by decide +kernel
theorem dX6_init_13 : decode cX6_init 13 = .ok (.bipush 12, 2) := by decide +kernel
theorem dX6_init_15 : decode cX6_init 15 = .ok (.newarray .int, 2) := by decide +kernel
theorem dX6_init_17 : decode cX6_init 17 = .ok (.putfield 15, 3) := by decide +kernel
theorem dX6_init_20 : decode cX6_init 20 = .ok (.aload_n 0, 1) := by decide +kernel
theorem dX6_init_21 : decode cX6_init 21 = .ok (.aload_n 1, 1) := by decide +kernel
theorem dX6_init_22 : decode cX6_init 22 = .ok (.putfield 18, 3) := by decide +kernel
theorem dX6_init_25 : decode cX6_init 25 = .ok (.aload_n 0, 1) := by decide +kernel
theorem dX6_init_26 : decode cX6_init 26 = .ok (.aload_n 2, 1) := by decide +kernel
theorem dX6_init_27 : decode cX6_init 27 = .ok (.putfield 22, 3) := by decide +kernel
theorem dX6_init_30 : decode cX6_init 30 = .ok (.aload_n 0, 1) := by decide +kernel
theorem dX6_init_31 : decode cX6_init 31 = .ok (.getfield 15, 3) := by decide +kernel
theorem dX6_init_34 : decode cX6_init 34 = .ok (.iconst (-1), 1) := by decide +kernel
theorem dX6_init_35 : decode cX6_init 35 = .ok (.invokestatic 26, 3) := by decide +kernel
theorem dX6_init_38 : decode cX6_init 38 = .ok (.return_, 1) := by decide +kernel
def fX6_init (a0 : Nat) (a1 : Option Nat) (a2 : Option Nat) (h : Hp) : Option (Unit × Hp) := lb (gN h 36) (fun z1 => lb (nw h 36 12) (fun h2 => lb (sR h2 6 a0 2 (some z1)) (fun h3 => lb (gN h3 37) (fun z4 => lb (nw h3 37 12) (fun h5 => lb (sR h5 6 a0 3 (some z4)) (fun h6 => lb (sR h6 6 a0 0 a1) (fun h7 => lb (sR h7 6 a0 1 a2) (fun h8 => lb (gR h8 6 a0 3) (fun o9 => mt o9 none (fun z10 => lb (flI h8 37 z10 0 12 (-1)) (fun h11 => some ((), h11))))))))))))
set_option maxRecDepth 20000 in
theorem tX6_init {X : Cz} {a0 : Nat} {a1 : Option Nat} {a2 : Option Nat} {h hE : Hp} {rE : Unit} (hF : fX6_init a0 a1 a2 h = some (rE, hE)) : Ct X mX6_init false [zr 6 a0, zq 1 a1, zq 4 a2] h (none) hE := by
  refine Ct_of (by decide) (Nat.le_of_ble_eq_true rfl) (ls := [(0, zr 6 a0), (1, zq 1 a1), (2, zq 4 a2)]) rfl ?_
  unfold fX6_init at hF
  refine v_aload_n (j := 0) dX6_init_0 rfl ?_
  refine v_objI mlX6_3 oiI oiC (by decide) (Nat.le_of_ble_eq_true rfl) dX6_init_1 ?_
  refine v_aload_n (j := 0) dX6_init_4 rfl ?_
  refine v_bipush (v := 12) dX6_init_5 (by decide) ?_
  refine v_newa (k := 36) (idx := 0) (at0 := .int) rfl (by decide) rfl ac_int (by decide) (by decide) (by decide) (Or.inl rfl) dX6_init_7 ?_
  refine v_topr fun z1 ez1 => ?_
  replace hF := lb_use ez1 hF
  clear ez1
  refine v_toph fun h2 eh2 => ?_
  replace hF := lb_use eh2 hF
  clear eh2
  refine v_putFR (o := some z1) (c := 6) (k2 := 36) rfl rfl (Nat.le_of_ble_eq_true rfl) rfl (Or.inl rfl) cz6 flX6_9 rfl (fun q hq => by cases hq; rfl) dX6_init_9 ?_
  refine v_toph fun h3 eh3 => ?_
  replace hF := lb_use eh3 hF
  clear eh3
  refine v_aload_n (j := 0) dX6_init_12 rfl ?_
  refine v_bipush (v := 12) dX6_init_13 (by decide) ?_
  refine v_newa (k := 37) (idx := 0) (at0 := .int) rfl (by decide) rfl ac_int (by decide) (by decide) (by decide) (Or.inl rfl) dX6_init_15 ?_
  refine v_topr fun z4 ez4 => ?_
  replace hF := lb_use ez4 hF
  clear ez4
  refine v_toph fun h5 eh5 => ?_
  replace hF := lb_use eh5 hF
  clear eh5
  refine v_putFR (o := some z4) (c := 6) (k2 := 37) rfl rfl (Nat.le_of_ble_eq_true rfl) rfl (Or.inl rfl) cz6 flX6_15 rfl (fun q hq => by cases hq; rfl) dX6_init_17 ?_
  refine v_toph fun h6 eh6 => ?_
  replace hF := lb_use eh6 hF
  clear eh6
  refine v_aload_n (j := 0) dX6_init_20 rfl ?_
  refine v_aload_n (j := 1) dX6_init_21 rfl ?_
  refine v_putFR (o := a1) (c := 6) (k2 := 1) rfl rfl (Nat.le_of_ble_eq_true rfl) rfl (Or.inl rfl) cz6 flX6_18 rfl (fun q hq => by cases hq; rfl) dX6_init_22 ?_
  refine v_toph fun h7 eh7 => ?_
  replace hF := lb_use eh7 hF
  clear eh7
  refine v_aload_n (j := 0) dX6_init_25 rfl ?_
  refine v_aload_n (j := 2) dX6_init_26 rfl ?_
  refine v_putFR (o := a2) (c := 6) (k2 := 4) rfl rfl (Nat.le_of_ble_eq_true rfl) rfl (Or.inl rfl) cz6 flX6_22 rfl (fun q hq => by cases hq; rfl) dX6_init_27 ?_
  refine v_toph fun h8 eh8 => ?_
  replace hF := lb_use eh8 hF
  clear eh8
  refine v_aload_n (j := 0) dX6_init_30 rfl ?_
  refine v_getR (c := 6) (k2 := 37) rfl rfl rfl cz6 flX6_15 dX6_init_31 ?_
  refine v_topq fun o9 eo9 => ?_
  replace hF := lb_use eo9 hF
  clear eo9
  refine v_iconst (v := (-1)) dX6_init_34 (by decide) ?_
  replace hF := mt_use hF
  obtain ⟨z10, ez10, hF⟩ := hF
  subst ez10
  refine v_cS (av := [zr 37 z10, zi (-1)]) (st := []) (stn := []) (tJ7_fill_53178 (n := z10) (k := 37) rfl (by decide) (-1) h8) lcJ7_fill_53178 mlX6_26 sxJ7_fill_53178 rfl ⟨by decide, by decide⟩ (Nat.le_of_ble_eq_true rfl) dX6_init_35 rfl rfl ?_
  refine v_toph fun h11 eh11 => ?_
  replace hF := lb_use eh11 hF
  clear eh11
  cases hF
  exact v_vret rfl dX6_init_38
theorem dX6_worthOfRun_0 : decode cX6_worthOfRun 0 = .ok (.aload_n 3, 1) := by decide +kernel
theorem dX6_worthOfRun_1 : decode cX6_worthOfRun 1 = .ok (.getfield 66, 3) := by decide +kernel
theorem dX6_worthOfRun_4 : decode cX6_worthOfRun 4 = .ok (.iload_n 2, 1) := by decide +kernel
theorem dX6_worthOfRun_5 : decode cX6_worthOfRun 5 = .ok (.iaload, 1) := by decide +kernel
theorem dX6_worthOfRun_6 : decode cX6_worthOfRun 6 = .ok (.aload_n 1, 1) := by decide +kernel
theorem dX6_worthOfRun_7 : decode cX6_worthOfRun 7 = .ok (.getfield 69, 3) := by decide +kernel
theorem dX6_worthOfRun_10 : decode cX6_worthOfRun 10 = .ok (.if_icmp .ge 5, 3) := by decide +kernel
theorem dX6_worthOfRun_13 : decode cX6_worthOfRun 13 = .ok (.iconst (-1), 1) := by decide +kernel
theorem dX6_worthOfRun_14 : decode cX6_worthOfRun 14 = .ok (.ireturn, 1) := by decide +kernel
theorem dX6_worthOfRun_15 : decode cX6_worthOfRun 15 = .ok (.aload_n 0, 1) := by decide +kernel
theorem dX6_worthOfRun_16 : decode cX6_worthOfRun 16 = .ok (.getfield 18, 3) := by decide +kernel
theorem dX6_worthOfRun_19 : decode cX6_worthOfRun 19 = .ok (.aload_n 3, 1) := by decide +kernel
theorem dX6_worthOfRun_20 : decode cX6_worthOfRun 20 = .ok (.getfield 74, 3) := by decide +kernel
theorem dX6_worthOfRun_23 : decode cX6_worthOfRun 23 = .ok (.iload_n 2, 1) := by decide +kernel
theorem dX6_worthOfRun_24 : decode cX6_worthOfRun 24 = .ok (.iaload, 1) := by decide +kernel
theorem dX6_worthOfRun_25 : decode cX6_worthOfRun 25 = .ok (.aload_n 1, 1) := by decide +kernel
theorem dX6_worthOfRun_26 : decode cX6_worthOfRun 26 = .ok (.getfield 69, 3) := by decide +kernel
theorem dX6_worthOfRun_29 : decode cX6_worthOfRun 29 = .ok (.aload_n 1, 1) := by decide +kernel
theorem dX6_worthOfRun_30 : decode cX6_worthOfRun 30 = .ok (.getfield 77, 3) := by decide +kernel
theorem dX6_worthOfRun_33 : decode cX6_worthOfRun 33 = .ok (.invokevirtual 80, 3) := by decide +kernel
theorem dX6_worthOfRun_36 : decode cX6_worthOfRun 36 = .ok (.ireturn, 1) := by decide +kernel
def fX6_worthOfRun (a1 : Nat) (a2 : Int32) (a3 : Nat) (h : Hp) : Option (Int32 × Hp) := lb (gR h 8 a3 1) (fun o1 => mt o1 none (fun z2 => gd (ib a2 12) (br ((gI h 2 a1 1) ≤ (gI h 42 z2 (ix a2))) (lb (gR h 8 a3 0) (fun o4 => mt o4 none (fun z5 => gd (ib a2 12) (bd (fX1_worthOf (gI h 41 z5 (ix a2)) (gI h 2 a1 1) (gI h 2 a1 2) h) (fun r7 h8 => some (r7, h8)))))) (some ((-1), h)))))
set_option maxRecDepth 20000 in
theorem tX6_worthOfRun {X : Cz} {a1 : Nat} {a2 : Int32} {a3 : Nat} {h hE : Hp} {rE : Int32} (hF : fX6_worthOfRun a1 a2 a3 h = some (rE, hE)) : Ct X mX6_worthOfRun true [zr 6 0, zr 2 a1, zi a2, zr 8 a3] h (some (zi rE)) hE := by
  refine Ct_of (by decide) (Nat.le_of_ble_eq_true rfl) (ls := [(0, zr 6 0), (1, zr 2 a1), (2, zi a2), (3, zr 8 a3)]) rfl ?_
  unfold fX6_worthOfRun at hF
  refine v_aload_n (j := 3) dX6_worthOfRun_0 rfl ?_
  refine v_getR (c := 8) (k2 := 42) rfl rfl rfl cz8 flX6_66 dX6_worthOfRun_1 ?_
  refine v_topq fun o1 eo1 => ?_
  replace hF := lb_use eo1 hF
  clear eo1
  refine v_iload_n (j := 2) dX6_worthOfRun_4 rfl ?_
  replace hF := mt_use hF
  obtain ⟨z2, ez2, hF⟩ := hF
  subst ez2
  replace hF := gd_use hF
  obtain ⟨q3, hF⟩ := hF
  refine v_iald rfl q3 dX6_worthOfRun_5 ?_
  refine v_aload_n (j := 1) dX6_worthOfRun_6 rfl ?_
  refine v_getI (c := 2) rfl (Or.inl rfl) cz2 flX6_69 dX6_worthOfRun_7 ?_
  refine v_icmp_ge dX6_worthOfRun_10 (by decide : _ = ((15 : Nat) : Int)) (fun q => ?_) (fun q => ?_)
  · replace hF := brT q hF
    refine v_aload_n (j := 0) dX6_worthOfRun_15 rfl ?_
    refine v_getL (c := 6) rfl rfl rfl ly6_0 cz6 flX6_18 dX6_worthOfRun_16 ?_
    refine v_aload_n (j := 3) dX6_worthOfRun_19 rfl ?_
    refine v_getR (c := 8) (k2 := 41) rfl rfl rfl cz8 flX6_74 dX6_worthOfRun_20 ?_
    refine v_topq fun o4 eo4 => ?_
    replace hF := lb_use eo4 hF
    clear eo4
    refine v_iload_n (j := 2) dX6_worthOfRun_23 rfl ?_
    replace hF := mt_use hF
    obtain ⟨z5, ez5, hF⟩ := hF
    subst ez5
    replace hF := gd_use hF
    obtain ⟨q6, hF⟩ := hF
    refine v_iald rfl q6 dX6_worthOfRun_24 ?_
    refine v_aload_n (j := 1) dX6_worthOfRun_25 rfl ?_
    refine v_getI (c := 2) rfl (Or.inl rfl) cz2 flX6_69 dX6_worthOfRun_26 ?_
    refine v_aload_n (j := 1) dX6_worthOfRun_29 rfl ?_
    refine v_getI (c := 2) rfl (Or.inl rfl) cz2 flX6_77 dX6_worthOfRun_30 ?_
    replace hF := bd_use hF
    obtain ⟨r7, h8, er7, hF⟩ := hF
    refine v_cV (hm := h8) (av := [zi (gI h 41 z5 (ix a2)), zi (gI h 2 a1 1), zi (gI h 2 a1 2)]) (st := []) (stn := [zi r7]) (tX1_worthOf er7) lcX1_worthOf mlX6_80 imX1_worthOf seX1_worthOf rfl rfl rfl rfl ⟨by decide, by decide⟩ (Nat.le_of_ble_eq_true rfl) dX6_worthOfRun_33 rfl rfl ?_
    clear er7
    obtain ⟨rfl, rfl⟩ := ret_use hF
    exact v_iret rfl dX6_worthOfRun_36
  · replace hF := brF q hF
    refine v_iconst (v := (-1)) dX6_worthOfRun_13 (by decide) ?_
    obtain ⟨rfl, rfl⟩ := ret_use hF
    exact v_iret rfl dX6_worthOfRun_14
theorem dX6_favourite_0 : decode cX6_favourite 0 = .ok (.aload_n 0, 1) := by decide +kernel
theorem dX6_favourite_1 : decode cX6_favourite 1 = .ok (.getfield 22, 3) := by decide +kernel
theorem dX6_favourite_4 : decode cX6_favourite 4 = .ok (.iload_n 1, 1) := by decide +kernel
theorem dX6_favourite_5 : decode cX6_favourite 5 = .ok (.invokevirtual 58, 3) := by decide +kernel
theorem dX6_favourite_8 : decode cX6_favourite 8 = .ok (.astore 4, 2) := by decide +kernel
theorem dX6_favourite_10 : decode cX6_favourite 10 = .ok (.aload 4, 2) := by decide +kernel
theorem dX6_favourite_12 : decode cX6_favourite 12 = .ok (.ifnonnull 5, 3) := by decide +kernel
theorem dX6_favourite_15 : decode cX6_favourite 15 = .ok (.iload_n 1, 1) := by decide +kernel
theorem dX6_favourite_16 : decode cX6_favourite 16 = .ok (.ireturn, 1) := by decide +kernel
theorem dX6_favourite_17 : decode cX6_favourite 17 = .ok (.iload_n 1, 1) := by decide +kernel
theorem dX6_favourite_18 : decode cX6_favourite 18 = .ok (.istore 5, 2) := by decide +kernel
theorem dX6_favourite_20 : decode cX6_favourite 20 = .ok (.aload_n 0, 1) := by decide +kernel
theorem dX6_favourite_21 : decode cX6_favourite 21 = .ok (.aload 4, 2) := by decide +kernel
theorem dX6_favourite_23 : decode cX6_favourite 23 = .ok (.iload_n 1, 1) := by decide +kernel
theorem dX6_favourite_24 : decode cX6_favourite 24 = .ok (.aload_n 3, 1) := by decide +kernel
theorem dX6_favourite_25 : decode cX6_favourite 25 = .ok (.invokevirtual 62, 3) := by decide +kernel
theorem dX6_favourite_28 : decode cX6_favourite 28 = .ok (.istore 6, 2) := by decide +kernel
theorem dX6_favourite_30 : decode cX6_favourite 30 = .ok (.iconst 0, 1) := by decide +kernel
theorem dX6_favourite_31 : decode cX6_favourite 31 = .ok (.istore 7, 2) := by decide +kernel
theorem dX6_favourite_33 : decode cX6_favourite 33 = .ok (.iload 7, 2) := by decide +kernel
theorem dX6_favourite_35 : decode cX6_favourite 35 = .ok (.bipush 12, 2) := by decide +kernel
theorem dX6_favourite_37 : decode cX6_favourite 37 = .ok (.if_icmp .ge 44, 3) := by decide +kernel
theorem dX6_favourite_40 : decode cX6_favourite 40 = .ok (.iload_n 2, 1) := by decide +kernel
theorem dX6_favourite_41 : decode cX6_favourite 41 = .ok (.iload 7, 2) := by decide +kernel
theorem dX6_favourite_43 : decode cX6_favourite 43 = .ok (.ishr, 1) := by decide +kernel
theorem dX6_favourite_44 : decode cX6_favourite 44 = .ok (.iconst 1, 1) := by decide +kernel
theorem dX6_favourite_45 : decode cX6_favourite 45 = .ok (.iand, 1) := by decide +kernel
theorem dX6_favourite_46 : decode cX6_favourite 46 = .ok (.ifCond .eq 29, 3) := by decide +kernel
theorem dX6_favourite_49 : decode cX6_favourite 49 = .ok (.aload_n 0, 1) := by decide +kernel
theorem dX6_favourite_50 : decode cX6_favourite 50 = .ok (.aload 4, 2) := by decide +kernel
theorem dX6_favourite_52 : decode cX6_favourite 52 = .ok (.iload 7, 2) := by decide +kernel
theorem dX6_favourite_54 : decode cX6_favourite 54 = .ok (.aload_n 3, 1) := by decide +kernel
theorem dX6_favourite_55 : decode cX6_favourite 55 = .ok (.invokevirtual 62, 3) := by decide +kernel
theorem dX6_favourite_58 : decode cX6_favourite 58 = .ok (.istore 8, 2) := by decide +kernel
theorem dX6_favourite_60 : decode cX6_favourite 60 = .ok (.iload 8, 2) := by decide +kernel
theorem dX6_favourite_62 : decode cX6_favourite 62 = .ok (.iload 6, 2) := by decide +kernel
theorem dX6_favourite_64 : decode cX6_favourite 64 = .ok (.if_icmp .le 11, 3) := by decide +kernel
theorem dX6_favourite_67 : decode cX6_favourite 67 = .ok (.iload 8, 2) := by decide +kernel
theorem dX6_favourite_69 : decode cX6_favourite 69 = .ok (.istore 6, 2) := by decide +kernel
theorem dX6_favourite_71 : decode cX6_favourite 71 = .ok (.iload 7, 2) := by decide +kernel
theorem dX6_favourite_73 : decode cX6_favourite 73 = .ok (.istore 5, 2) := by decide +kernel
theorem dX6_favourite_75 : decode cX6_favourite 75 = .ok (.iinc 7 1, 3) := by decide +kernel
theorem dX6_favourite_78 : decode cX6_favourite 78 = .ok (.goto (-45), 3) := by decide +kernel
theorem dX6_favourite_81 : decode cX6_favourite 81 = .ok (.iload 5, 2) := by decide +kernel
theorem dX6_favourite_83 : decode cX6_favourite 83 = .ok (.ireturn, 1) := by decide +kernel
def fX6_favourite_L33 : Nat → Int32 → Nat → Nat → Int32 → Int32 → Int32 → Hp → Option ((Int32 × Int32 × Int32) × Hp)
  | 0, _, _, _, _, _, _, _ => none
  | n + 1, a2, a3, a4, a5, a6, a7, h => br (12 ≤ a7) (some ((a5, a6, a7), h)) (br (((a2 >>> (a7 &&& 31)) &&& 1) = 0) (lb (a7 + 1) (fun v6 => fX6_favourite_L33 n a2 a3 a4 a5 a6 v6 h)) (bd (fX6_worthOfRun a4 a7 a3 h) (fun r7 h8 => br (r7 ≤ a6) (lb (a7 + 1) (fun v9 => fX6_favourite_L33 n a2 a3 a4 a5 a6 v9 h8)) (lb (a7 + 1) (fun v10 => fX6_favourite_L33 n a2 a3 a4 a7 r7 v10 h8)))))
def fX6_favourite (a1 : Int32) (a2 : Int32) (a3 : Nat) (h : Hp) : Option (Int32 × Hp) := bd (fX4_find a1 h) (fun r1 h2 => mt r1 (some (a1, h2)) (fun z3 => bd (fX6_worthOfRun z3 a1 a3 h2) (fun r4 h5 => bd (fX6_favourite_L33 FU a2 a3 z3 a1 r4 0 h5) (fun t12 h11 => lb t12.1 (fun v13 => lb t12.2.1 (fun v14 => lb t12.2.2 (fun v15 => some (v13, h11))))))))
set_option maxRecDepth 20000 in
theorem tX6_favourite_L33 {X : Cz} {h0 : Hp} {r : Option AV} {hE : Hp} : ∀ (n : Nat) (a2 : Int32) (a3 : Nat) (a4 : Nat) (a5 : Int32) (a6 : Int32) (a7 : Int32) (h : Hp) (z : (Int32 × Int32 × Int32) × Hp), fX6_favourite_L33 n a2 a3 a4 a5 a6 a7 h = some z → V X mX6_favourite true h0 81 [(0, zr 6 0), (2, zi a2), (3, zr 8 a3), (4, zr 2 a4), (5, zi z.1.1), (6, zi z.1.2.1), (7, zi z.1.2.2)] [] z.2 r hE → V X mX6_favourite true h0 33 [(0, zr 6 0), (2, zi a2), (3, zr 8 a3), (4, zr 2 a4), (5, zi a5), (6, zi a6), (7, zi a7)] [] h r hE := by
  intro n
  induction n with
  | zero => intro a2 a3 a4 a5 a6 a7 h z hF k; cases hF
  | succ n ih =>
    intro a2 a3 a4 a5 a6 a7 h z hF k
    rw [fX6_favourite_L33] at hF
    refine v_iload (j := 6) dX6_favourite_33 rfl ?_
    refine v_bipush (v := 12) dX6_favourite_35 (by decide) ?_
    refine v_icmp_ge dX6_favourite_37 (by decide : _ = ((81 : Nat) : Int)) (fun q => ?_) (fun q => ?_)
    · replace hF := brT q hF
      cases hF
      exact k
    · replace hF := brF q hF
      refine v_iload_n (j := 1) dX6_favourite_40 rfl ?_
      refine v_iload (j := 6) dX6_favourite_41 rfl ?_
      refine v_ishr dX6_favourite_43 ?_
      refine v_iconst (v := 1) dX6_favourite_44 (by decide) ?_
      refine v_iand dX6_favourite_45 ?_
      refine v_if_eq dX6_favourite_46 (by decide : _ = ((75 : Nat) : Int)) (fun q => ?_) (fun q => ?_)
      · replace hF := brT q hF
        obtain ⟨v6, ev6⟩ : ∃ y : Int32, y = a7 + 1 := ⟨_, rfl⟩
        replace hF := lb_use ev6 hF
        refine v_iinc (j := 6) (v := v6) (ls' := [(7, zi v6), (0, zr 6 0), (2, zi a2), (3, zr 8 a3), (4, zr 2 a4), (5, zi a5), (6, zi a6)]) dX6_favourite_75 rfl (by rw [ev6]; rfl) (by decide) rfl ?_
        clear ev6
        refine v_goto (tgt := 33) dX6_favourite_78 (by decide) ?_
        refine v_sub [1, 2, 3, 4, 5, 6, 0] rfl ?_
        exact ih a2 a3 a4 a5 a6 v6 h _ hF k
      · replace hF := brF q hF
        refine v_aload_n (j := 0) dX6_favourite_49 rfl ?_
        refine v_aload (j := 3) dX6_favourite_50 rfl ?_
        refine v_iload (j := 6) dX6_favourite_52 rfl ?_
        refine v_aload_n (j := 2) dX6_favourite_54 rfl ?_
        replace hF := bd_use hF
        obtain ⟨r7, h8, er7, hF⟩ := hF
        refine v_cV (hm := h8) (av := [zr 2 a4, zi a7, zr 8 a3]) (st := []) (stn := [zi r7]) (tX6_worthOfRun er7) lcX6_worthOfRun mlX6_62 imX6_worthOfRun seX6_worthOfRun rfl rfl rfl rfl ⟨by decide, by decide⟩ (Nat.le_of_ble_eq_true rfl) dX6_favourite_55 rfl rfl ?_
        clear er7
        refine v_istore (ls' := [(8, zi r7), (0, zr 6 0), (2, zi a2), (3, zr 8 a3), (4, zr 2 a4), (5, zi a5), (6, zi a6), (7, zi a7)]) dX6_favourite_58 (by decide) rfl ?_
        refine v_iload (j := 0) dX6_favourite_60 rfl ?_
        refine v_iload (j := 6) dX6_favourite_62 rfl ?_
        refine v_icmp_le dX6_favourite_64 (by decide : _ = ((75 : Nat) : Int)) (fun q => ?_) (fun q => ?_)
        · replace hF := brT q hF
          obtain ⟨v9, ev9⟩ : ∃ y : Int32, y = a7 + 1 := ⟨_, rfl⟩
          replace hF := lb_use ev9 hF
          refine v_iinc (j := 7) (v := v9) (ls' := [(7, zi v9), (8, zi r7), (0, zr 6 0), (2, zi a2), (3, zr 8 a3), (4, zr 2 a4), (5, zi a5), (6, zi a6)]) dX6_favourite_75 rfl (by rw [ev9]; rfl) (by decide) rfl ?_
          clear ev9
          refine v_goto (tgt := 33) dX6_favourite_78 (by decide) ?_
          refine v_sub [2, 3, 4, 5, 6, 7, 0] rfl ?_
          exact ih a2 a3 a4 a5 a6 v9 h8 _ hF k
        · replace hF := brF q hF
          refine v_iload (j := 0) dX6_favourite_67 rfl ?_
          refine v_istore (ls' := [(6, zi r7), (8, zi r7), (0, zr 6 0), (2, zi a2), (3, zr 8 a3), (4, zr 2 a4), (5, zi a5), (7, zi a7)]) dX6_favourite_69 (by decide) rfl ?_
          refine v_iload (j := 7) dX6_favourite_71 rfl ?_
          refine v_istore (ls' := [(5, zi a7), (6, zi r7), (8, zi r7), (0, zr 6 0), (2, zi a2), (3, zr 8 a3), (4, zr 2 a4), (7, zi a7)]) dX6_favourite_73 (by decide) rfl ?_
          obtain ⟨v10, ev10⟩ : ∃ y : Int32, y = a7 + 1 := ⟨_, rfl⟩
          replace hF := lb_use ev10 hF
          refine v_iinc (j := 7) (v := v10) (ls' := [(7, zi v10), (5, zi a7), (6, zi r7), (8, zi r7), (0, zr 6 0), (2, zi a2), (3, zr 8 a3), (4, zr 2 a4)]) dX6_favourite_75 rfl (by rw [ev10]; rfl) (by decide) rfl ?_
          clear ev10
          refine v_goto (tgt := 33) dX6_favourite_78 (by decide) ?_
          refine v_sub [4, 5, 6, 7, 1, 2, 0] rfl ?_
          exact ih a2 a3 a4 a7 r7 v10 h8 _ hF k
set_option maxRecDepth 20000 in
theorem tX6_favourite {X : Cz} {a1 : Int32} {a2 : Int32} {a3 : Nat} {h hE : Hp} {rE : Int32} (hF : fX6_favourite a1 a2 a3 h = some (rE, hE)) : Ct X mX6_favourite true [zr 6 0, zi a1, zi a2, zr 8 a3] h (some (zi rE)) hE := by
  refine Ct_of (by decide) (Nat.le_of_ble_eq_true rfl) (ls := [(0, zr 6 0), (1, zi a1), (2, zi a2), (3, zr 8 a3)]) rfl ?_
  unfold fX6_favourite at hF
  refine v_aload_n (j := 0) dX6_favourite_0 rfl ?_
  refine v_getL (c := 6) rfl rfl rfl ly6_1 cz6 flX6_22 dX6_favourite_1 ?_
  refine v_iload_n (j := 1) dX6_favourite_4 rfl ?_
  replace hF := bd_use hF
  obtain ⟨r1, h2, er1, hF⟩ := hF
  refine v_cV (hm := h2) (av := [zi a1]) (st := []) (stn := [zq 2 r1]) (tX4_find er1) lcX4_find mlX6_58 imX4_find seX4_find rfl rfl rfl rfl ⟨by decide, by decide⟩ (Nat.le_of_ble_eq_true rfl) dX6_favourite_5 rfl rfl ?_
  clear er1
  refine v_astore (ls' := [(4, zq 2 r1), (0, zr 6 0), (1, zi a1), (2, zi a2), (3, zr 8 a3)]) dX6_favourite_8 (by decide) rfl ?_
  refine v_aload (j := 0) dX6_favourite_10 rfl ?_
  cases r1 with
  | none =>
    replace hF := mtN hF
    refine v_ifnonnullN (tgt := 17) dX6_favourite_12 (by decide) ?_
    refine v_iload_n (j := 2) dX6_favourite_15 rfl ?_
    obtain ⟨rfl, rfl⟩ := ret_use hF
    exact v_iret rfl dX6_favourite_16
  | some z3 =>
    replace hF := mtS hF
    refine v_ifnonnullS (q := (2, z3)) (tgt := 17) dX6_favourite_12 (by decide) ?_
    refine v_iload_n (j := 2) dX6_favourite_17 rfl ?_
    refine v_istore (ls' := [(5, zi a1), (4, zr 2 z3), (0, zr 6 0), (1, zi a1), (2, zi a2), (3, zr 8 a3)]) dX6_favourite_18 (by decide) rfl ?_
    refine v_aload_n (j := 2) dX6_favourite_20 rfl ?_
    refine v_aload (j := 1) dX6_favourite_21 rfl ?_
    refine v_iload_n (j := 3) dX6_favourite_23 rfl ?_
    refine v_aload_n (j := 5) dX6_favourite_24 rfl ?_
    replace hF := bd_use hF
    obtain ⟨r4, h5, er4, hF⟩ := hF
    refine v_cV (hm := h5) (av := [zr 2 z3, zi a1, zr 8 a3]) (st := []) (stn := [zi r4]) (tX6_worthOfRun er4) lcX6_worthOfRun mlX6_62 imX6_worthOfRun seX6_worthOfRun rfl rfl rfl rfl ⟨by decide, by decide⟩ (Nat.le_of_ble_eq_true rfl) dX6_favourite_25 rfl rfl ?_
    clear er4
    refine v_istore (ls' := [(6, zi r4), (5, zi a1), (4, zr 2 z3), (0, zr 6 0), (1, zi a1), (2, zi a2), (3, zr 8 a3)]) dX6_favourite_28 (by decide) rfl ?_
    refine v_iconst (v := 0) dX6_favourite_30 (by decide) ?_
    refine v_istore (ls' := [(7, zi 0), (6, zi r4), (5, zi a1), (4, zr 2 z3), (0, zr 6 0), (1, zi a1), (2, zi a2), (3, zr 8 a3)]) dX6_favourite_31 (by decide) rfl ?_
    refine v_sub [4, 6, 7, 3, 2, 1, 0] rfl ?_
    replace hF := bd_use hF
    obtain ⟨t12, h11, et12, hF⟩ := hF
    refine tX6_favourite_L33 _ a2 a3 z3 a1 r4 0 h5 _ et12 ?_
    clear et12
    obtain ⟨v13, v14, v15⟩ := t12
    replace hF := lb_use (x := v13) rfl hF
    replace hF := lb_use (x := v14) rfl hF
    replace hF := lb_use (x := v15) rfl hF
    refine v_iload (j := 4) dX6_favourite_81 rfl ?_
    obtain ⟨rfl, rfl⟩ := ret_use hF
    exact v_iret rfl dX6_favourite_83
theorem dX6_lookRound_0 : decode cX6_lookRound 0 = .ok (.iconst 0, 1) := by decide +kernel
theorem dX6_lookRound_1 : decode cX6_lookRound 1 = .ok (.istore_n 3, 1) := by decide +kernel
theorem dX6_lookRound_2 : decode cX6_lookRound 2 = .ok (.iload_n 3, 1) := by decide +kernel
theorem dX6_lookRound_3 : decode cX6_lookRound 3 = .ok (.bipush 12, 2) := by decide +kernel
theorem dX6_lookRound_5 : decode cX6_lookRound 5 = .ok (.if_icmp .ge 30, 3) := by decide +kernel
theorem dX6_lookRound_8 : decode cX6_lookRound 8 = .ok (.iload_n 1, 1) := by decide +kernel
theorem dX6_lookRound_9 : decode cX6_lookRound 9 = .ok (.iload_n 3, 1) := by decide +kernel
theorem dX6_lookRound_10 : decode cX6_lookRound 10 = .ok (.ishr, 1) := by decide +kernel
theorem dX6_lookRound_11 : decode cX6_lookRound 11 = .ok (.iconst 1, 1) := by decide +kernel
theorem dX6_lookRound_12 : decode cX6_lookRound 12 = .ok (.iand, 1) := by decide +kernel
theorem dX6_lookRound_13 : decode cX6_lookRound 13 = .ok (.ifCond .eq 16, 3) := by decide +kernel
theorem dX6_lookRound_16 : decode cX6_lookRound 16 = .ok (.aload_n 0, 1) := by decide +kernel
theorem dX6_lookRound_17 : decode cX6_lookRound 17 = .ok (.getfield 9, 3) := by decide +kernel
theorem dX6_lookRound_20 : decode cX6_lookRound 20 = .ok (.iload_n 3, 1) := by decide +kernel
theorem dX6_lookRound_21 : decode cX6_lookRound 21 = .ok (.aload_n 0, 1) := by decide +kernel
theorem dX6_lookRound_22 : decode cX6_lookRound 22 = .ok (.iload_n 3, 1) := by decide +kernel
theorem dX6_lookRound_23 : decode cX6_lookRound 23 = .ok (.iload_n 1, 1) := by decide +kernel
theorem dX6_lookRound_24 : decode cX6_lookRound 24 = .ok (.aload_n 2, 1) := by decide +kernel
theorem dX6_lookRound_25 : decode cX6_lookRound 25 = .ok (.invokevirtual 54, 3) := by decide +kernel
theorem dX6_lookRound_28 : decode cX6_lookRound 28 = .ok (.iastore, 1) := by decide +kernel
theorem dX6_lookRound_29 : decode cX6_lookRound 29 = .ok (.iinc 3 1, 3) := by decide +kernel
theorem dX6_lookRound_32 : decode cX6_lookRound 32 = .ok (.goto (-30), 3) := by decide +kernel
theorem dX6_lookRound_35 : decode cX6_lookRound 35 = .ok (.return_, 1) := by decide +kernel
def fX6_lookRound_L2 : Nat → Int32 → Nat → Int32 → Hp → Option ((Int32) × Hp)
  | 0, _, _, _, _ => none
  | n + 1, a1, a2, a3, h => br (12 ≤ a3) (some ((a3), h)) (br (((a1 >>> (a3 &&& 31)) &&& 1) = 0) (lb (a3 + 1) (fun v1 => fX6_lookRound_L2 n a1 a2 v1 h)) (bd (fX6_favourite a3 a1 a2 h) (fun r2 h3 => gd (ib a3 12) (lb (sI h3 36 0 (ix a3) r2) (fun h5 => lb (a3 + 1) (fun v6 => fX6_lookRound_L2 n a1 a2 v6 h5))))))
def fX6_lookRound (a1 : Int32) (a2 : Nat) (h : Hp) : Option (Unit × Hp) := bd (fX6_lookRound_L2 FU a1 a2 0 h) (fun v9 h7 => some ((), h7))
set_option maxRecDepth 20000 in
theorem tX6_lookRound_L2 {X : Cz} {h0 : Hp} {r : Option AV} {hE : Hp} : ∀ (n : Nat) (a1 : Int32) (a2 : Nat) (a3 : Int32) (h : Hp) (z : (Int32) × Hp), fX6_lookRound_L2 n a1 a2 a3 h = some z → V X mX6_lookRound true h0 35 [(0, zr 6 0), (1, zi a1), (2, zr 8 a2), (3, zi z.1)] [] z.2 r hE → V X mX6_lookRound true h0 2 [(0, zr 6 0), (1, zi a1), (2, zr 8 a2), (3, zi a3)] [] h r hE := by
  intro n
  induction n with
  | zero => intro a1 a2 a3 h z hF k; cases hF
  | succ n ih =>
    intro a1 a2 a3 h z hF k
    rw [fX6_lookRound_L2] at hF
    refine v_iload_n (j := 3) dX6_lookRound_2 rfl ?_
    refine v_bipush (v := 12) dX6_lookRound_3 (by decide) ?_
    refine v_icmp_ge dX6_lookRound_5 (by decide : _ = ((35 : Nat) : Int)) (fun q => ?_) (fun q => ?_)
    · replace hF := brT q hF
      cases hF
      exact k
    · replace hF := brF q hF
      refine v_iload_n (j := 1) dX6_lookRound_8 rfl ?_
      refine v_iload_n (j := 3) dX6_lookRound_9 rfl ?_
      refine v_ishr dX6_lookRound_10 ?_
      refine v_iconst (v := 1) dX6_lookRound_11 (by decide) ?_
      refine v_iand dX6_lookRound_12 ?_
      refine v_if_eq dX6_lookRound_13 (by decide : _ = ((29 : Nat) : Int)) (fun q => ?_) (fun q => ?_)
      · replace hF := brT q hF
        obtain ⟨v1, ev1⟩ : ∃ y : Int32, y = a3 + 1 := ⟨_, rfl⟩
        replace hF := lb_use ev1 hF
        refine v_iinc (j := 3) (v := v1) (ls' := [(3, zi v1), (0, zr 6 0), (1, zi a1), (2, zr 8 a2)]) dX6_lookRound_29 rfl (by rw [ev1]; rfl) (by decide) rfl ?_
        clear ev1
        refine v_goto (tgt := 2) dX6_lookRound_32 (by decide) ?_
        refine v_sub [1, 2, 3, 0] rfl ?_
        exact ih a1 a2 v1 h _ hF k
      · replace hF := brF q hF
        refine v_aload_n (j := 0) dX6_lookRound_16 rfl ?_
        refine v_getL (c := 6) rfl rfl rfl ly6_2 cz6 flX6_9 dX6_lookRound_17 ?_
        refine v_iload_n (j := 3) dX6_lookRound_20 rfl ?_
        refine v_aload_n (j := 0) dX6_lookRound_21 rfl ?_
        refine v_iload_n (j := 3) dX6_lookRound_22 rfl ?_
        refine v_iload_n (j := 1) dX6_lookRound_23 rfl ?_
        refine v_aload_n (j := 2) dX6_lookRound_24 rfl ?_
        replace hF := bd_use hF
        obtain ⟨r2, h3, er2, hF⟩ := hF
        refine v_cV (hm := h3) (av := [zi a3, zi a1, zr 8 a2]) (st := [zi a3, zr 36 0]) (stn := [zi r2, zi a3, zr 36 0]) (tX6_favourite er2) lcX6_favourite mlX6_54 imX6_favourite seX6_favourite rfl rfl rfl rfl ⟨by decide, by decide⟩ (Nat.le_of_ble_eq_true rfl) dX6_lookRound_25 rfl rfl ?_
        clear er2
        replace hF := gd_use hF
        obtain ⟨q4, hF⟩ := hF
        refine v_iast rfl q4 dX6_lookRound_28 ?_
        refine v_toph fun h5 eh5 => ?_
        replace hF := lb_use eh5 hF
        clear eh5
        obtain ⟨v6, ev6⟩ : ∃ y : Int32, y = a3 + 1 := ⟨_, rfl⟩
        replace hF := lb_use ev6 hF
        refine v_iinc (j := 3) (v := v6) (ls' := [(3, zi v6), (0, zr 6 0), (1, zi a1), (2, zr 8 a2)]) dX6_lookRound_29 rfl (by rw [ev6]; rfl) (by decide) rfl ?_
        clear ev6
        refine v_goto (tgt := 2) dX6_lookRound_32 (by decide) ?_
        refine v_sub [1, 2, 3, 0] rfl ?_
        exact ih a1 a2 v6 h5 _ hF k
set_option maxRecDepth 20000 in
theorem tX6_lookRound {X : Cz} {a1 : Int32} {a2 : Nat} {h hE : Hp} {rE : Unit} (hF : fX6_lookRound a1 a2 h = some (rE, hE)) : Ct X mX6_lookRound true [zr 6 0, zi a1, zr 8 a2] h (none) hE := by
  refine Ct_of (by decide) (Nat.le_of_ble_eq_true rfl) (ls := [(0, zr 6 0), (1, zi a1), (2, zr 8 a2)]) rfl ?_
  unfold fX6_lookRound at hF
  refine v_iconst (v := 0) dX6_lookRound_0 (by decide) ?_
  refine v_istore_n (ls' := [(3, zi 0), (0, zr 6 0), (1, zi a1), (2, zr 8 a2)]) dX6_lookRound_1 (by decide) rfl ?_
  refine v_sub [1, 2, 3, 0] rfl ?_
  replace hF := bd_use hF
  obtain ⟨v9, h7, ev9, hF⟩ := hF
  refine tX6_lookRound_L2 _ a1 a2 0 h _ ev9 ?_
  clear ev9
  cases hF
  exact v_vret rfl dX6_lookRound_35
theorem dX6_isInRing_0 : decode cX6_isInRing 0 = .ok (.aload_n 0, 1) := by decide +kernel
theorem dX6_isInRing_1 : decode cX6_isInRing 1 = .ok (.getfield 9, 3) := by decide +kernel
theorem dX6_isInRing_4 : decode cX6_isInRing 4 = .ok (.iload_n 1, 1) := by decide +kernel
theorem dX6_isInRing_5 : decode cX6_isInRing 5 = .ok (.iaload, 1) := by decide +kernel
theorem dX6_isInRing_6 : decode cX6_isInRing 6 = .ok (.istore_n 2, 1) := by decide +kernel
theorem dX6_isInRing_7 : decode cX6_isInRing 7 = .ok (.iconst 0, 1) := by decide +kernel
theorem dX6_isInRing_8 : decode cX6_isInRing 8 = .ok (.istore_n 3, 1) := by decide +kernel
theorem dX6_isInRing_9 : decode cX6_isInRing 9 = .ok (.iload_n 3, 1) := by decide +kernel
theorem dX6_isInRing_10 : decode cX6_isInRing 10 = .ok (.bipush 12, 2) := by decide +kernel
theorem dX6_isInRing_12 : decode cX6_isInRing 12 = .ok (.if_icmp .ge 21, 3) := by decide +kernel
theorem dX6_isInRing_15 : decode cX6_isInRing 15 = .ok (.iload_n 2, 1) := by decide +kernel
theorem dX6_isInRing_16 : decode cX6_isInRing 16 = .ok (.iload_n 1, 1) := by decide +kernel
theorem dX6_isInRing_17 : decode cX6_isInRing 17 = .ok (.if_icmp .eq 16, 3) := by decide +kernel
theorem dX6_isInRing_20 : decode cX6_isInRing 20 = .ok (.aload_n 0, 1) := by decide +kernel
theorem dX6_isInRing_21 : decode cX6_isInRing 21 = .ok (.getfield 9, 3) := by decide +kernel
theorem dX6_isInRing_24 : decode cX6_isInRing 24 = .ok (.iload_n 2, 1) := by decide +kernel
theorem dX6_isInRing_25 : decode cX6_isInRing 25 = .ok (.iaload, 1) := by decide +kernel
theorem dX6_isInRing_26 : decode cX6_isInRing 26 = .ok (.istore_n 2, 1) := by decide +kernel
theorem dX6_isInRing_27 : decode cX6_isInRing 27 = .ok (.iinc 3 1, 3) := by decide +kernel
theorem dX6_isInRing_30 : decode cX6_isInRing 30 = .ok (.goto (-21), 3) := by decide +kernel
theorem dX6_isInRing_33 : decode cX6_isInRing 33 = .ok (.iload_n 2, 1) := by decide +kernel
theorem dX6_isInRing_34 : decode cX6_isInRing 34 = .ok (.iload_n 1, 1) := by decide +kernel
theorem dX6_isInRing_35 : decode cX6_isInRing 35 = .ok (.if_icmp .ne 7, 3) := by decide +kernel
theorem dX6_isInRing_38 : decode cX6_isInRing 38 = .ok (.iconst 1, 1) := by decide +kernel
theorem dX6_isInRing_39 : decode cX6_isInRing 39 = .ok (.goto 4, 3) := by decide +kernel
theorem dX6_isInRing_42 : decode cX6_isInRing 42 = .ok (.iconst 0, 1) := by decide +kernel
theorem dX6_isInRing_43 : decode cX6_isInRing 43 = .ok (.ireturn, 1) := by decide +kernel
def fX6_isInRing_L9 : Nat → Int32 → Int32 → Int32 → Hp → Option ((Int32 × Int32) × Hp)
  | 0, _, _, _, _ => none
  | n + 1, a1, a2, a3, h => br (12 ≤ a3) (some ((a2, a3), h)) (br (a2 = a1) (some ((a2, a3), h)) (gd (ib a2 12) (lb (gI h 36 0 (ix a2)) (fun v4 => lb (a3 + 1) (fun v5 => fX6_isInRing_L9 n a1 v4 v5 h)))))
def fX6_isInRing (a1 : Int32) (h : Hp) : Option (Int32 × Hp) := gd (ib a1 12) (lb (gI h 36 0 (ix a1)) (fun v2 => bd (fX6_isInRing_L9 FU a1 v2 0 h) (fun t7 h6 => lb t7.1 (fun v8 => lb t7.2 (fun v9 => br (v8 = a1) (some (1, h6)) (some (0, h6)))))))
set_option maxRecDepth 20000 in
theorem tX6_isInRing_L9 {X : Cz} {h0 : Hp} {r : Option AV} {hE : Hp} : ∀ (n : Nat) (a1 : Int32) (a2 : Int32) (a3 : Int32) (h : Hp) (z : (Int32 × Int32) × Hp), fX6_isInRing_L9 n a1 a2 a3 h = some z → V X mX6_isInRing true h0 33 [(0, zr 6 0), (1, zi a1), (2, zi z.1.1), (3, zi z.1.2)] [] z.2 r hE → V X mX6_isInRing true h0 9 [(0, zr 6 0), (1, zi a1), (2, zi a2), (3, zi a3)] [] h r hE := by
  intro n
  induction n with
  | zero => intro a1 a2 a3 h z hF k; cases hF
  | succ n ih =>
    intro a1 a2 a3 h z hF k
    rw [fX6_isInRing_L9] at hF
    refine v_iload_n (j := 3) dX6_isInRing_9 rfl ?_
    refine v_bipush (v := 12) dX6_isInRing_10 (by decide) ?_
    refine v_icmp_ge dX6_isInRing_12 (by decide : _ = ((33 : Nat) : Int)) (fun q => ?_) (fun q => ?_)
    · replace hF := brT q hF
      cases hF
      exact k
    · replace hF := brF q hF
      refine v_iload_n (j := 2) dX6_isInRing_15 rfl ?_
      refine v_iload_n (j := 1) dX6_isInRing_16 rfl ?_
      refine v_icmp_eq dX6_isInRing_17 (by decide : _ = ((33 : Nat) : Int)) (fun q => ?_) (fun q => ?_)
      · replace hF := brT q hF
        cases hF
        exact k
      · replace hF := brF q hF
        refine v_aload_n (j := 0) dX6_isInRing_20 rfl ?_
        refine v_getL (c := 6) rfl rfl rfl ly6_2 cz6 flX6_9 dX6_isInRing_21 ?_
        refine v_iload_n (j := 2) dX6_isInRing_24 rfl ?_
        replace hF := gd_use hF
        obtain ⟨q3, hF⟩ := hF
        refine v_iald rfl q3 dX6_isInRing_25 ?_
        refine v_topi fun v4 ev4 => ?_
        replace hF := lb_use ev4 hF
        clear ev4
        refine v_istore_n (ls' := [(2, zi v4), (0, zr 6 0), (1, zi a1), (3, zi a3)]) dX6_isInRing_26 (by decide) rfl ?_
        obtain ⟨v5, ev5⟩ : ∃ y : Int32, y = a3 + 1 := ⟨_, rfl⟩
        replace hF := lb_use ev5 hF
        refine v_iinc (j := 3) (v := v5) (ls' := [(3, zi v5), (2, zi v4), (0, zr 6 0), (1, zi a1)]) dX6_isInRing_27 rfl (by rw [ev5]; rfl) (by decide) rfl ?_
        clear ev5
        refine v_goto (tgt := 9) dX6_isInRing_30 (by decide) ?_
        refine v_sub [2, 3, 1, 0] rfl ?_
        exact ih a1 v4 v5 h _ hF k
set_option maxRecDepth 20000 in
theorem tX6_isInRing {X : Cz} {a1 : Int32} {h hE : Hp} {rE : Int32} (hF : fX6_isInRing a1 h = some (rE, hE)) : Ct X mX6_isInRing true [zr 6 0, zi a1] h (some (zi rE)) hE := by
  refine Ct_of (by decide) (Nat.le_of_ble_eq_true rfl) (ls := [(0, zr 6 0), (1, zi a1)]) rfl ?_
  unfold fX6_isInRing at hF
  refine v_aload_n (j := 0) dX6_isInRing_0 rfl ?_
  refine v_getL (c := 6) rfl rfl rfl ly6_2 cz6 flX6_9 dX6_isInRing_1 ?_
  refine v_iload_n (j := 1) dX6_isInRing_4 rfl ?_
  replace hF := gd_use hF
  obtain ⟨q1, hF⟩ := hF
  refine v_iald rfl q1 dX6_isInRing_5 ?_
  refine v_topi fun v2 ev2 => ?_
  replace hF := lb_use ev2 hF
  clear ev2
  refine v_istore_n (ls' := [(2, zi v2), (0, zr 6 0), (1, zi a1)]) dX6_isInRing_6 (by decide) rfl ?_
  refine v_iconst (v := 0) dX6_isInRing_7 (by decide) ?_
  refine v_istore_n (ls' := [(3, zi 0), (2, zi v2), (0, zr 6 0), (1, zi a1)]) dX6_isInRing_8 (by decide) rfl ?_
  refine v_sub [2, 3, 1, 0] rfl ?_
  replace hF := bd_use hF
  obtain ⟨t7, h6, et7, hF⟩ := hF
  refine tX6_isInRing_L9 _ a1 v2 0 h _ et7 ?_
  clear et7
  obtain ⟨v8, v9⟩ := t7
  replace hF := lb_use (x := v8) rfl hF
  replace hF := lb_use (x := v9) rfl hF
  refine v_iload_n (j := 2) dX6_isInRing_33 rfl ?_
  refine v_iload_n (j := 1) dX6_isInRing_34 rfl ?_
  refine v_icmp_ne dX6_isInRing_35 (by decide : _ = ((42 : Nat) : Int)) (fun q => ?_) (fun q => ?_)
  · replace hF := brF q hF
    refine v_iconst (v := 0) dX6_isInRing_42 (by decide) ?_
    obtain ⟨rfl, rfl⟩ := ret_use hF
    exact v_zret rfl (Or.inl rfl) dX6_isInRing_43
  · replace hF := brT (Decidable.not_not.mp q) hF
    refine v_iconst (v := 1) dX6_isInRing_38 (by decide) ?_
    refine v_goto (tgt := 43) dX6_isInRing_39 (by decide) ?_
    obtain ⟨rfl, rfl⟩ := ret_use hF
    exact v_zret rfl (Or.inr rfl) dX6_isInRing_43
theorem dX6_ringed_0 : decode cX6_ringed 0 = .ok (.iconst 0, 1) := by decide +kernel
theorem dX6_ringed_1 : decode cX6_ringed 1 = .ok (.istore_n 2, 1) := by decide +kernel
theorem dX6_ringed_2 : decode cX6_ringed 2 = .ok (.iconst 0, 1) := by decide +kernel
theorem dX6_ringed_3 : decode cX6_ringed 3 = .ok (.istore_n 3, 1) := by decide +kernel
theorem dX6_ringed_4 : decode cX6_ringed 4 = .ok (.iload_n 3, 1) := by decide +kernel
theorem dX6_ringed_5 : decode cX6_ringed 5 = .ok (.bipush 12, 2) := by decide +kernel
theorem dX6_ringed_7 : decode cX6_ringed 7 = .ok (.if_icmp .ge 31, 3) := by decide +kernel
theorem dX6_ringed_10 : decode cX6_ringed 10 = .ok (.iload_n 1, 1) := by decide +kernel
theorem dX6_ringed_11 : decode cX6_ringed 11 = .ok (.iload_n 3, 1) := by decide +kernel
theorem dX6_ringed_12 : decode cX6_ringed 12 = .ok (.ishr, 1) := by decide +kernel
theorem dX6_ringed_13 : decode cX6_ringed 13 = .ok (.iconst 1, 1) := by decide +kernel
theorem dX6_ringed_14 : decode cX6_ringed 14 = .ok (.iand, 1) := by decide +kernel
theorem dX6_ringed_15 : decode cX6_ringed 15 = .ok (.ifCond .eq 17, 3) := by decide +kernel
theorem dX6_ringed_18 : decode cX6_ringed 18 = .ok (.aload_n 0, 1) := by decide +kernel
theorem dX6_ringed_19 : decode cX6_ringed 19 = .ok (.iload_n 3, 1) := by decide +kernel
theorem dX6_ringed_20 : decode cX6_ringed 20 = .ok (.invokevirtual 86, 3) := by decide +kernel
theorem dX6_ringed_23 : decode cX6_ringed 23 = .ok (.ifCond .eq 9, 3) := by decide +kernel
theorem dX6_ringed_26 : decode cX6_ringed 26 = .ok (.iload_n 2, 1) := by decide +kernel
theorem dX6_ringed_27 : decode cX6_ringed 27 = .ok (.iconst 1, 1) := by decide +kernel
theorem dX6_ringed_28 : decode cX6_ringed 28 = .ok (.iload_n 3, 1) := by decide +kernel
theorem dX6_ringed_29 : decode cX6_ringed 29 = .ok (.ishl, 1) := by decide +kernel
theorem dX6_ringed_30 : decode cX6_ringed 30 = .ok (.ior, 1) := by decide +kernel
theorem dX6_ringed_31 : decode cX6_ringed 31 = .ok (.istore_n 2, 1) := by decide +kernel
theorem dX6_ringed_32 : decode cX6_ringed 32 = .ok (.iinc 3 1, 3) := by decide +kernel
theorem dX6_ringed_35 : decode cX6_ringed 35 = .ok (.goto (-31), 3) := by decide +kernel
theorem dX6_ringed_38 : decode cX6_ringed 38 = .ok (.iload_n 2, 1) := by decide +kernel
theorem dX6_ringed_39 : decode cX6_ringed 39 = .ok (.ireturn, 1) := by decide +kernel
def fX6_ringed_L4 : Nat → Int32 → Int32 → Int32 → Hp → Option ((Int32 × Int32) × Hp)
  | 0, _, _, _, _ => none
  | n + 1, a1, a2, a3, h => br (12 ≤ a3) (some ((a2, a3), h)) (br (((a1 >>> (a3 &&& 31)) &&& 1) = 0) (lb (a3 + 1) (fun v1 => fX6_ringed_L4 n a1 a2 v1 h)) (bd (fX6_isInRing a3 h) (fun r2 h3 => br (r2 = 0) (lb (a3 + 1) (fun v4 => fX6_ringed_L4 n a1 a2 v4 h3)) (lb (a2 ||| ((1 : Int32) <<< (a3 &&& 31))) (fun v5 => lb (a3 + 1) (fun v6 => fX6_ringed_L4 n a1 v5 v6 h3))))))
def fX6_ringed (a1 : Int32) (h : Hp) : Option (Int32 × Hp) := bd (fX6_ringed_L4 FU a1 0 0 h) (fun t8 h7 => lb t8.1 (fun v9 => lb t8.2 (fun v10 => some (v9, h7))))
set_option maxRecDepth 20000 in
theorem tX6_ringed_L4 {X : Cz} {h0 : Hp} {r : Option AV} {hE : Hp} : ∀ (n : Nat) (a1 : Int32) (a2 : Int32) (a3 : Int32) (h : Hp) (z : (Int32 × Int32) × Hp), fX6_ringed_L4 n a1 a2 a3 h = some z → V X mX6_ringed true h0 38 [(0, zr 6 0), (1, zi a1), (2, zi z.1.1), (3, zi z.1.2)] [] z.2 r hE → V X mX6_ringed true h0 4 [(0, zr 6 0), (1, zi a1), (2, zi a2), (3, zi a3)] [] h r hE := by
  intro n
  induction n with
  | zero => intro a1 a2 a3 h z hF k; cases hF
  | succ n ih =>
    intro a1 a2 a3 h z hF k
    rw [fX6_ringed_L4] at hF
    refine v_iload_n (j := 3) dX6_ringed_4 rfl ?_
    refine v_bipush (v := 12) dX6_ringed_5 (by decide) ?_
    refine v_icmp_ge dX6_ringed_7 (by decide : _ = ((38 : Nat) : Int)) (fun q => ?_) (fun q => ?_)
    · replace hF := brT q hF
      cases hF
      exact k
    · replace hF := brF q hF
      refine v_iload_n (j := 1) dX6_ringed_10 rfl ?_
      refine v_iload_n (j := 3) dX6_ringed_11 rfl ?_
      refine v_ishr dX6_ringed_12 ?_
      refine v_iconst (v := 1) dX6_ringed_13 (by decide) ?_
      refine v_iand dX6_ringed_14 ?_
      refine v_if_eq dX6_ringed_15 (by decide : _ = ((32 : Nat) : Int)) (fun q => ?_) (fun q => ?_)
      · replace hF := brT q hF
        obtain ⟨v1, ev1⟩ : ∃ y : Int32, y = a3 + 1 := ⟨_, rfl⟩
        replace hF := lb_use ev1 hF
        refine v_iinc (j := 3) (v := v1) (ls' := [(3, zi v1), (0, zr 6 0), (1, zi a1), (2, zi a2)]) dX6_ringed_32 rfl (by rw [ev1]; rfl) (by decide) rfl ?_
        clear ev1
        refine v_goto (tgt := 4) dX6_ringed_35 (by decide) ?_
        refine v_sub [1, 2, 3, 0] rfl ?_
        exact ih a1 a2 v1 h _ hF k
      · replace hF := brF q hF
        refine v_aload_n (j := 0) dX6_ringed_18 rfl ?_
        refine v_iload_n (j := 3) dX6_ringed_19 rfl ?_
        replace hF := bd_use hF
        obtain ⟨r2, h3, er2, hF⟩ := hF
        refine v_cV (hm := h3) (av := [zi a3]) (st := []) (stn := [zi r2]) (tX6_isInRing er2) lcX6_isInRing mlX6_86 imX6_isInRing seX6_isInRing rfl rfl rfl rfl ⟨by decide, by decide⟩ (Nat.le_of_ble_eq_true rfl) dX6_ringed_20 rfl rfl ?_
        clear er2
        refine v_if_eq dX6_ringed_23 (by decide : _ = ((32 : Nat) : Int)) (fun q => ?_) (fun q => ?_)
        · replace hF := brT q hF
          obtain ⟨v4, ev4⟩ : ∃ y : Int32, y = a3 + 1 := ⟨_, rfl⟩
          replace hF := lb_use ev4 hF
          refine v_iinc (j := 3) (v := v4) (ls' := [(3, zi v4), (0, zr 6 0), (1, zi a1), (2, zi a2)]) dX6_ringed_32 rfl (by rw [ev4]; rfl) (by decide) rfl ?_
          clear ev4
          refine v_goto (tgt := 4) dX6_ringed_35 (by decide) ?_
          refine v_sub [1, 2, 3, 0] rfl ?_
          exact ih a1 a2 v4 h3 _ hF k
        · replace hF := brF q hF
          refine v_iload_n (j := 2) dX6_ringed_26 rfl ?_
          refine v_iconst (v := 1) dX6_ringed_27 (by decide) ?_
          refine v_iload_n (j := 3) dX6_ringed_28 rfl ?_
          refine v_ishl dX6_ringed_29 ?_
          refine v_ior dX6_ringed_30 ?_
          refine v_topi fun v5 ev5 => ?_
          replace hF := lb_use ev5 hF
          clear ev5
          refine v_istore_n (ls' := [(2, zi v5), (0, zr 6 0), (1, zi a1), (3, zi a3)]) dX6_ringed_31 (by decide) rfl ?_
          obtain ⟨v6, ev6⟩ : ∃ y : Int32, y = a3 + 1 := ⟨_, rfl⟩
          replace hF := lb_use ev6 hF
          refine v_iinc (j := 3) (v := v6) (ls' := [(3, zi v6), (2, zi v5), (0, zr 6 0), (1, zi a1)]) dX6_ringed_32 rfl (by rw [ev6]; rfl) (by decide) rfl ?_
          clear ev6
          refine v_goto (tgt := 4) dX6_ringed_35 (by decide) ?_
          refine v_sub [2, 3, 1, 0] rfl ?_
          exact ih a1 v5 v6 h3 _ hF k
set_option maxRecDepth 20000 in
theorem tX6_ringed {X : Cz} {a1 : Int32} {h hE : Hp} {rE : Int32} (hF : fX6_ringed a1 h = some (rE, hE)) : Ct X mX6_ringed true [zr 6 0, zi a1] h (some (zi rE)) hE := by
  refine Ct_of (by decide) (Nat.le_of_ble_eq_true rfl) (ls := [(0, zr 6 0), (1, zi a1)]) rfl ?_
  unfold fX6_ringed at hF
  refine v_iconst (v := 0) dX6_ringed_0 (by decide) ?_
  refine v_istore_n (ls' := [(2, zi 0), (0, zr 6 0), (1, zi a1)]) dX6_ringed_1 (by decide) rfl ?_
  refine v_iconst (v := 0) dX6_ringed_2 (by decide) ?_
  refine v_istore_n (ls' := [(3, zi 0), (2, zi 0), (0, zr 6 0), (1, zi a1)]) dX6_ringed_3 (by decide) rfl ?_
  refine v_sub [2, 3, 1, 0] rfl ?_
  replace hF := bd_use hF
  obtain ⟨t8, h7, et8, hF⟩ := hF
  refine tX6_ringed_L4 _ a1 0 0 h _ et8 ?_
  clear et8
  obtain ⟨v9, v10⟩ := t8
  replace hF := lb_use (x := v9) rfl hF
  replace hF := lb_use (x := v10) rfl hF
  refine v_iload_n (j := 2) dX6_ringed_38 rfl ?_
  obtain ⟨rfl, rfl⟩ := ret_use hF
  exact v_iret rfl dX6_ringed_39
theorem dX6_letGo_0 : decode cX6_letGo 0 = .ok (.iconst 0, 1) := by decide +kernel
theorem dX6_letGo_1 : decode cX6_letGo 1 = .ok (.istore_n 2, 1) := by decide +kernel
theorem dX6_letGo_2 : decode cX6_letGo 2 = .ok (.iconst 0, 1) := by decide +kernel
theorem dX6_letGo_3 : decode cX6_letGo 3 = .ok (.istore_n 3, 1) := by decide +kernel
theorem dX6_letGo_4 : decode cX6_letGo 4 = .ok (.iload_n 3, 1) := by decide +kernel
theorem dX6_letGo_5 : decode cX6_letGo 5 = .ok (.bipush 12, 2) := by decide +kernel
theorem dX6_letGo_7 : decode cX6_letGo 7 = .ok (.if_icmp .ge 47, 3) := by decide +kernel
theorem dX6_letGo_10 : decode cX6_letGo 10 = .ok (.iload_n 1, 1) := by decide +kernel
theorem dX6_letGo_11 : decode cX6_letGo 11 = .ok (.iload_n 3, 1) := by decide +kernel
theorem dX6_letGo_12 : decode cX6_letGo 12 = .ok (.ishr, 1) := by decide +kernel
theorem dX6_letGo_13 : decode cX6_letGo 13 = .ok (.iconst 1, 1) := by decide +kernel
theorem dX6_letGo_14 : decode cX6_letGo 14 = .ok (.iand, 1) := by decide +kernel
theorem dX6_letGo_15 : decode cX6_letGo 15 = .ok (.ifCond .eq 33, 3) := by decide +kernel
theorem dX6_letGo_18 : decode cX6_letGo 18 = .ok (.aload_n 0, 1) := by decide +kernel
theorem dX6_letGo_19 : decode cX6_letGo 19 = .ok (.getfield 15, 3) := by decide +kernel
theorem dX6_letGo_22 : decode cX6_letGo 22 = .ok (.iload_n 3, 1) := by decide +kernel
theorem dX6_letGo_23 : decode cX6_letGo 23 = .ok (.aload_n 0, 1) := by decide +kernel
theorem dX6_letGo_24 : decode cX6_letGo 24 = .ok (.getfield 9, 3) := by decide +kernel
theorem dX6_letGo_27 : decode cX6_letGo 27 = .ok (.iload_n 3, 1) := by decide +kernel
theorem dX6_letGo_28 : decode cX6_letGo 28 = .ok (.iaload, 1) := by decide +kernel
theorem dX6_letGo_29 : decode cX6_letGo 29 = .ok (.iastore, 1) := by decide +kernel
theorem dX6_letGo_30 : decode cX6_letGo 30 = .ok (.iload_n 2, 1) := by decide +kernel
theorem dX6_letGo_31 : decode cX6_letGo 31 = .ok (.aload_n 0, 1) := by decide +kernel
theorem dX6_letGo_32 : decode cX6_letGo 32 = .ok (.getfield 15, 3) := by decide +kernel
theorem dX6_letGo_35 : decode cX6_letGo 35 = .ok (.iload_n 3, 1) := by decide +kernel
theorem dX6_letGo_36 : decode cX6_letGo 36 = .ok (.iaload, 1) := by decide +kernel
theorem dX6_letGo_37 : decode cX6_letGo 37 = .ok (.iload_n 3, 1) := by decide +kernel
theorem dX6_letGo_38 : decode cX6_letGo 38 = .ok (.if_icmp .eq 7, 3) := by decide +kernel
theorem dX6_letGo_41 : decode cX6_letGo 41 = .ok (.iconst 1, 1) := by decide +kernel
theorem dX6_letGo_42 : decode cX6_letGo 42 = .ok (.goto 4, 3) := by decide +kernel
theorem dX6_letGo_45 : decode cX6_letGo 45 = .ok (.iconst 0, 1) := by decide +kernel
theorem dX6_letGo_46 : decode cX6_letGo 46 = .ok (.iadd, 1) := by decide +kernel
theorem dX6_letGo_47 : decode cX6_letGo 47 = .ok (.istore_n 2, 1) := by decide +kernel
theorem dX6_letGo_48 : decode cX6_letGo 48 = .ok (.iinc 3 1, 3) := by decide +kernel
theorem dX6_letGo_51 : decode cX6_letGo 51 = .ok (.goto (-47), 3) := by decide +kernel
theorem dX6_letGo_54 : decode cX6_letGo 54 = .ok (.iload_n 2, 1) := by decide +kernel
theorem dX6_letGo_55 : decode cX6_letGo 55 = .ok (.ireturn, 1) := by decide +kernel
def fX6_letGo_L4 : Nat → Int32 → Int32 → Int32 → Hp → Option ((Int32 × Int32) × Hp)
  | 0, _, _, _, _ => none
  | n + 1, a1, a2, a3, h => br (12 ≤ a3) (some ((a2, a3), h)) (br (((a1 >>> (a3 &&& 31)) &&& 1) = 0) (lb (a3 + 1) (fun v1 => fX6_letGo_L4 n a1 a2 v1 h)) (gd (ib a3 12) (gd (ib a3 12) (lb (sI h 37 0 (ix a3) (gI h 36 0 (ix a3))) (fun h4 => gd (ib a3 12) (br ((gI h4 37 0 (ix a3)) = a3) (lb (a2 + 0) (fun v6 => lb (a3 + 1) (fun v7 => fX6_letGo_L4 n a1 v6 v7 h4))) (lb (a2 + 1) (fun v8 => lb (a3 + 1) (fun v9 => fX6_letGo_L4 n a1 v8 v9 h4)))))))))
def fX6_letGo (a1 : Int32) (h : Hp) : Option (Int32 × Hp) := bd (fX6_letGo_L4 FU a1 0 0 h) (fun t11 h10 => lb t11.1 (fun v12 => lb t11.2 (fun v13 => some (v12, h10))))
set_option maxRecDepth 20000 in
theorem tX6_letGo_L4 {X : Cz} {h0 : Hp} {r : Option AV} {hE : Hp} : ∀ (n : Nat) (a1 : Int32) (a2 : Int32) (a3 : Int32) (h : Hp) (z : (Int32 × Int32) × Hp), fX6_letGo_L4 n a1 a2 a3 h = some z → V X mX6_letGo true h0 54 [(0, zr 6 0), (1, zi a1), (2, zi z.1.1), (3, zi z.1.2)] [] z.2 r hE → V X mX6_letGo true h0 4 [(0, zr 6 0), (1, zi a1), (2, zi a2), (3, zi a3)] [] h r hE := by
  intro n
  induction n with
  | zero => intro a1 a2 a3 h z hF k; cases hF
  | succ n ih =>
    intro a1 a2 a3 h z hF k
    rw [fX6_letGo_L4] at hF
    refine v_iload_n (j := 3) dX6_letGo_4 rfl ?_
    refine v_bipush (v := 12) dX6_letGo_5 (by decide) ?_
    refine v_icmp_ge dX6_letGo_7 (by decide : _ = ((54 : Nat) : Int)) (fun q => ?_) (fun q => ?_)
    · replace hF := brT q hF
      cases hF
      exact k
    · replace hF := brF q hF
      refine v_iload_n (j := 1) dX6_letGo_10 rfl ?_
      refine v_iload_n (j := 3) dX6_letGo_11 rfl ?_
      refine v_ishr dX6_letGo_12 ?_
      refine v_iconst (v := 1) dX6_letGo_13 (by decide) ?_
      refine v_iand dX6_letGo_14 ?_
      refine v_if_eq dX6_letGo_15 (by decide : _ = ((48 : Nat) : Int)) (fun q => ?_) (fun q => ?_)
      · replace hF := brT q hF
        obtain ⟨v1, ev1⟩ : ∃ y : Int32, y = a3 + 1 := ⟨_, rfl⟩
        replace hF := lb_use ev1 hF
        refine v_iinc (j := 3) (v := v1) (ls' := [(3, zi v1), (0, zr 6 0), (1, zi a1), (2, zi a2)]) dX6_letGo_48 rfl (by rw [ev1]; rfl) (by decide) rfl ?_
        clear ev1
        refine v_goto (tgt := 4) dX6_letGo_51 (by decide) ?_
        refine v_sub [1, 2, 3, 0] rfl ?_
        exact ih a1 a2 v1 h _ hF k
      · replace hF := brF q hF
        refine v_aload_n (j := 0) dX6_letGo_18 rfl ?_
        refine v_getL (c := 6) rfl rfl rfl ly6_3 cz6 flX6_15 dX6_letGo_19 ?_
        refine v_iload_n (j := 3) dX6_letGo_22 rfl ?_
        refine v_aload_n (j := 0) dX6_letGo_23 rfl ?_
        refine v_getL (c := 6) rfl rfl rfl ly6_2 cz6 flX6_9 dX6_letGo_24 ?_
        refine v_iload_n (j := 3) dX6_letGo_27 rfl ?_
        replace hF := gd_use hF
        obtain ⟨q2, hF⟩ := hF
        refine v_iald rfl q2 dX6_letGo_28 ?_
        replace hF := gd_use hF
        obtain ⟨q3, hF⟩ := hF
        refine v_iast rfl q3 dX6_letGo_29 ?_
        refine v_toph fun h4 eh4 => ?_
        replace hF := lb_use eh4 hF
        clear eh4
        refine v_iload_n (j := 2) dX6_letGo_30 rfl ?_
        refine v_aload_n (j := 0) dX6_letGo_31 rfl ?_
        refine v_getL (c := 6) rfl rfl rfl ly6_3 cz6 flX6_15 dX6_letGo_32 ?_
        refine v_iload_n (j := 3) dX6_letGo_35 rfl ?_
        replace hF := gd_use hF
        obtain ⟨q5, hF⟩ := hF
        refine v_iald rfl q5 dX6_letGo_36 ?_
        refine v_iload_n (j := 3) dX6_letGo_37 rfl ?_
        refine v_icmp_eq dX6_letGo_38 (by decide : _ = ((45 : Nat) : Int)) (fun q => ?_) (fun q => ?_)
        · replace hF := brT q hF
          refine v_iconst (v := 0) dX6_letGo_45 (by decide) ?_
          refine v_iadd dX6_letGo_46 ?_
          refine v_topi fun v6 ev6 => ?_
          replace hF := lb_use ev6 hF
          clear ev6
          refine v_istore_n (ls' := [(2, zi v6), (0, zr 6 0), (1, zi a1), (3, zi a3)]) dX6_letGo_47 (by decide) rfl ?_
          obtain ⟨v7, ev7⟩ : ∃ y : Int32, y = a3 + 1 := ⟨_, rfl⟩
          replace hF := lb_use ev7 hF
          refine v_iinc (j := 3) (v := v7) (ls' := [(3, zi v7), (2, zi v6), (0, zr 6 0), (1, zi a1)]) dX6_letGo_48 rfl (by rw [ev7]; rfl) (by decide) rfl ?_
          clear ev7
          refine v_goto (tgt := 4) dX6_letGo_51 (by decide) ?_
          refine v_sub [2, 3, 1, 0] rfl ?_
          exact ih a1 v6 v7 h4 _ hF k
        · replace hF := brF q hF
          refine v_iconst (v := 1) dX6_letGo_41 (by decide) ?_
          refine v_goto (tgt := 46) dX6_letGo_42 (by decide) ?_
          refine v_iadd dX6_letGo_46 ?_
          refine v_topi fun v8 ev8 => ?_
          replace hF := lb_use ev8 hF
          clear ev8
          refine v_istore_n (ls' := [(2, zi v8), (0, zr 6 0), (1, zi a1), (3, zi a3)]) dX6_letGo_47 (by decide) rfl ?_
          obtain ⟨v9, ev9⟩ : ∃ y : Int32, y = a3 + 1 := ⟨_, rfl⟩
          replace hF := lb_use ev9 hF
          refine v_iinc (j := 3) (v := v9) (ls' := [(3, zi v9), (2, zi v8), (0, zr 6 0), (1, zi a1)]) dX6_letGo_48 rfl (by rw [ev9]; rfl) (by decide) rfl ?_
          clear ev9
          refine v_goto (tgt := 4) dX6_letGo_51 (by decide) ?_
          refine v_sub [2, 3, 1, 0] rfl ?_
          exact ih a1 v8 v9 h4 _ hF k
set_option maxRecDepth 20000 in
theorem tX6_letGo {X : Cz} {a1 : Int32} {h hE : Hp} {rE : Int32} (hF : fX6_letGo a1 h = some (rE, hE)) : Ct X mX6_letGo true [zr 6 0, zi a1] h (some (zi rE)) hE := by
  refine Ct_of (by decide) (Nat.le_of_ble_eq_true rfl) (ls := [(0, zr 6 0), (1, zi a1)]) rfl ?_
  unfold fX6_letGo at hF
  refine v_iconst (v := 0) dX6_letGo_0 (by decide) ?_
  refine v_istore_n (ls' := [(2, zi 0), (0, zr 6 0), (1, zi a1)]) dX6_letGo_1 (by decide) rfl ?_
  refine v_iconst (v := 0) dX6_letGo_2 (by decide) ?_
  refine v_istore_n (ls' := [(3, zi 0), (2, zi 0), (0, zr 6 0), (1, zi a1)]) dX6_letGo_3 (by decide) rfl ?_
  refine v_sub [2, 3, 1, 0] rfl ?_
  replace hF := bd_use hF
  obtain ⟨t11, h10, et11, hF⟩ := hF
  refine tX6_letGo_L4 _ a1 0 0 h _ et11 ?_
  clear et11
  obtain ⟨v12, v13⟩ := t11
  replace hF := lb_use (x := v12) rfl hF
  replace hF := lb_use (x := v13) rfl hF
  refine v_iload_n (j := 2) dX6_letGo_54 rfl ?_
  obtain ⟨rfl, rfl⟩ := ret_use hF
  exact v_iret rfl dX6_letGo_55
theorem dX6_turn_0 : decode cX6_turn 0 = .ok (.aload_n 0, 1) := by decide +kernel
theorem dX6_turn_1 : decode cX6_turn 1 = .ok (.getfield 15, 3) := by decide +kernel
theorem dX6_turn_4 : decode cX6_turn 4 = .ok (.iconst (-1), 1) := by decide +kernel
theorem dX6_turn_5 : decode cX6_turn 5 = .ok (.invokestatic 26, 3) := by decide +kernel
theorem dX6_turn_8 : decode cX6_turn 8 = .ok (.iconst 0, 1) := by decide +kernel
theorem dX6_turn_9 : decode cX6_turn 9 = .ok (.istore_n 3, 1) := by decide +kernel
theorem dX6_turn_10 : decode cX6_turn 10 = .ok (.iconst 0, 1) := by decide +kernel
theorem dX6_turn_11 : decode cX6_turn 11 = .ok (.istore 4, 2) := by decide +kernel
theorem dX6_turn_13 : decode cX6_turn 13 = .ok (.iload 4, 2) := by decide +kernel
theorem dX6_turn_15 : decode cX6_turn 15 = .ok (.bipush 12, 2) := by decide +kernel
theorem dX6_turn_17 : decode cX6_turn 17 = .ok (.if_icmp .ge 46, 3) := by decide +kernel
theorem dX6_turn_20 : decode cX6_turn 20 = .ok (.iload_n 1, 1) := by decide +kernel
theorem dX6_turn_21 : decode cX6_turn 21 = .ok (.iload 4, 2) := by decide +kernel
theorem dX6_turn_23 : decode cX6_turn 23 = .ok (.ishr, 1) := by decide +kernel
theorem dX6_turn_24 : decode cX6_turn 24 = .ok (.iconst 1, 1) := by decide +kernel
theorem dX6_turn_25 : decode cX6_turn 25 = .ok (.iand, 1) := by decide +kernel
theorem dX6_turn_26 : decode cX6_turn 26 = .ok (.ifCond .eq 31, 3) := by decide +kernel
theorem dX6_turn_29 : decode cX6_turn 29 = .ok (.aload_n 0, 1) := by decide +kernel
theorem dX6_turn_30 : decode cX6_turn 30 = .ok (.getfield 22, 3) := by decide +kernel
theorem dX6_turn_33 : decode cX6_turn 33 = .ok (.iload 4, 2) := by decide +kernel
theorem dX6_turn_35 : decode cX6_turn 35 = .ok (.invokevirtual 32, 3) := by decide +kernel
theorem dX6_turn_38 : decode cX6_turn 38 = .ok (.ifCond .eq 19, 3) := by decide +kernel
theorem dX6_turn_41 : decode cX6_turn 41 = .ok (.aload_n 2, 1) := by decide +kernel
theorem dX6_turn_42 : decode cX6_turn 42 = .ok (.iload 4, 2) := by decide +kernel
theorem dX6_turn_44 : decode cX6_turn 44 = .ok (.invokevirtual 38, 3) := by decide +kernel
theorem dX6_turn_47 : decode cX6_turn 47 = .ok (.ifCond .eq 10, 3) := by decide +kernel
theorem dX6_turn_50 : decode cX6_turn 50 = .ok (.iload_n 3, 1) := by decide +kernel
theorem dX6_turn_51 : decode cX6_turn 51 = .ok (.iconst 1, 1) := by decide +kernel
theorem dX6_turn_52 : decode cX6_turn 52 = .ok (.iload 4, 2) := by decide +kernel
theorem dX6_turn_54 : decode cX6_turn 54 = .ok (.ishl, 1) := by decide +kernel
theorem dX6_turn_55 : decode cX6_turn 55 = .ok (.ior, 1) := by decide +kernel
theorem dX6_turn_56 : decode cX6_turn 56 = .ok (.istore_n 3, 1) := by decide +kernel
theorem dX6_turn_57 : decode cX6_turn 57 = .ok (.iinc 4 1, 3) := by decide +kernel
theorem dX6_turn_60 : decode cX6_turn 60 = .ok (.goto (-47), 3) := by decide +kernel
theorem dX6_turn_63 : decode cX6_turn 63 = .ok (.iconst 0, 1) := by decide +kernel
theorem dX6_turn_64 : decode cX6_turn 64 = .ok (.istore 4, 2) := by decide +kernel
theorem dX6_turn_66 : decode cX6_turn 66 = .ok (.iconst 0, 1) := by decide +kernel
theorem dX6_turn_67 : decode cX6_turn 67 = .ok (.istore 5, 2) := by decide +kernel
theorem dX6_turn_69 : decode cX6_turn 69 = .ok (.iload 5, 2) := by decide +kernel
theorem dX6_turn_71 : decode cX6_turn 71 = .ok (.bipush 12, 2) := by decide +kernel
theorem dX6_turn_73 : decode cX6_turn 73 = .ok (.if_icmp .ge 44, 3) := by decide +kernel
theorem dX6_turn_76 : decode cX6_turn 76 = .ok (.iload_n 3, 1) := by decide +kernel
theorem dX6_turn_77 : decode cX6_turn 77 = .ok (.ifCond .eq 40, 3) := by decide +kernel
theorem dX6_turn_80 : decode cX6_turn 80 = .ok (.aload_n 0, 1) := by decide +kernel
theorem dX6_turn_81 : decode cX6_turn 81 = .ok (.iload_n 3, 1) := by decide +kernel
theorem dX6_turn_82 : decode cX6_turn 82 = .ok (.aload_n 2, 1) := by decide +kernel
theorem dX6_turn_83 : decode cX6_turn 83 = .ok (.invokevirtual 43, 3) := by decide +kernel
theorem dX6_turn_86 : decode cX6_turn 86 = .ok (.aload_n 0, 1) := by decide +kernel
theorem dX6_turn_87 : decode cX6_turn 87 = .ok (.iload_n 3, 1) := by decide +kernel
theorem dX6_turn_88 : decode cX6_turn 88 = .ok (.invokevirtual 47, 3) := by decide +kernel
theorem dX6_turn_91 : decode cX6_turn 91 = .ok (.istore 6, 2) := by decide +kernel
theorem dX6_turn_93 : decode cX6_turn 93 = .ok (.iload 4, 2) := by decide +kernel
theorem dX6_turn_95 : decode cX6_turn 95 = .ok (.aload_n 0, 1) := by decide +kernel
theorem dX6_turn_96 : decode cX6_turn 96 = .ok (.iload 6, 2) := by decide +kernel
theorem dX6_turn_98 : decode cX6_turn 98 = .ok (.invokevirtual 51, 3) := by decide +kernel
theorem dX6_turn_101 : decode cX6_turn 101 = .ok (.iadd, 1) := by decide +kernel
theorem dX6_turn_102 : decode cX6_turn 102 = .ok (.istore 4, 2) := by decide +kernel
theorem dX6_turn_104 : decode cX6_turn 104 = .ok (.iload_n 3, 1) := by decide +kernel
theorem dX6_turn_105 : decode cX6_turn 105 = .ok (.iload 6, 2) := by decide +kernel
theorem dX6_turn_107 : decode cX6_turn 107 = .ok (.iconst (-1), 1) := by decide +kernel
theorem dX6_turn_108 : decode cX6_turn 108 = .ok (.ixor, 1) := by decide +kernel
theorem dX6_turn_109 : decode cX6_turn 109 = .ok (.iand, 1) := by decide +kernel
theorem dX6_turn_110 : decode cX6_turn 110 = .ok (.istore_n 3, 1) := by decide +kernel
theorem dX6_turn_111 : decode cX6_turn 111 = .ok (.iinc 5 1, 3) := by decide +kernel
theorem dX6_turn_114 : decode cX6_turn 114 = .ok (.goto (-45), 3) := by decide +kernel
theorem dX6_turn_117 : decode cX6_turn 117 = .ok (.iload 4, 2) := by decide +kernel
theorem dX6_turn_119 : decode cX6_turn 119 = .ok (.ireturn, 1) := by decide +kernel
def fX6_turn_L13 : Nat → Int32 → Nat → Int32 → Int32 → Hp → Option ((Int32 × Int32) × Hp)
  | 0, _, _, _, _, _ => none
  | n + 1, a1, a2, a3, a4, h => br (12 ≤ a4) (some ((a3, a4), h)) (br (((a1 >>> (a4 &&& 31)) &&& 1) = 0) (lb (a4 + 1) (fun v2 => fX6_turn_L13 n a1 a2 a3 v2 h)) (bd (fX4_isStaying a4 h) (fun r3 h4 => br (r3 = 0) (lb (a4 + 1) (fun v5 => fX6_turn_L13 n a1 a2 a3 v5 h4)) (bd (fX8_isSitting a2 a4 h4) (fun r6 h7 => br (r6 = 0) (lb (a4 + 1) (fun v8 => fX6_turn_L13 n a1 a2 a3 v8 h7)) (lb (a3 ||| ((1 : Int32) <<< (a4 &&& 31))) (fun v9 => lb (a4 + 1) (fun v10 => fX6_turn_L13 n a1 a2 v9 v10 h7))))))))
def fX6_turn_L69 : Nat → Nat → Int32 → Int32 → Int32 → Hp → Option ((Int32 × Int32 × Int32) × Hp)
  | 0, _, _, _, _, _ => none
  | n + 1, a2, a3, a4, a5, h => br (12 ≤ a5) (some ((a3, a4, a5), h)) (br (a3 = 0) (some ((a3, a4, a5), h)) (bd (fX6_lookRound a3 a2 h) (fun r15 h16 => bd (fX6_ringed a3 h16) (fun r17 h18 => bd (fX6_letGo r17 h18) (fun r19 h20 => lb (a4 + r19) (fun v21 => lb (a3 &&& (r17 ^^^ (-1))) (fun v22 => lb (a5 + 1) (fun v23 => fX6_turn_L69 n a2 v22 v21 v23 h20))))))))
def fX6_turn (a1 : Int32) (a2 : Nat) (h : Hp) : Option (Int32 × Hp) := lb (flI h 37 0 0 12 (-1)) (fun h1 => bd (fX6_turn_L13 FU a1 a2 0 0 h1) (fun t12 h11 => lb t12.1 (fun v13 => lb t12.2 (fun v14 => bd (fX6_turn_L69 FU a2 v13 0 0 h11) (fun t25 h24 => lb t25.1 (fun v26 => lb t25.2.1 (fun v27 => lb t25.2.2 (fun v28 => some (v27, h24)))))))))
set_option maxRecDepth 20000 in
theorem tX6_turn_L13 {X : Cz} {h0 : Hp} {r : Option AV} {hE : Hp} : ∀ (n : Nat) (a1 : Int32) (a2 : Nat) (a3 : Int32) (a4 : Int32) (h : Hp) (z : (Int32 × Int32) × Hp), fX6_turn_L13 n a1 a2 a3 a4 h = some z → V X mX6_turn true h0 63 [(0, zr 6 0), (1, zi a1), (2, zr 8 a2), (3, zi z.1.1), (4, zi z.1.2)] [] z.2 r hE → V X mX6_turn true h0 13 [(0, zr 6 0), (1, zi a1), (2, zr 8 a2), (3, zi a3), (4, zi a4)] [] h r hE := by
  intro n
  induction n with
  | zero => intro a1 a2 a3 a4 h z hF k; cases hF
  | succ n ih =>
    intro a1 a2 a3 a4 h z hF k
    rw [fX6_turn_L13] at hF
    refine v_iload (j := 4) dX6_turn_13 rfl ?_
    refine v_bipush (v := 12) dX6_turn_15 (by decide) ?_
    refine v_icmp_ge dX6_turn_17 (by decide : _ = ((63 : Nat) : Int)) (fun q => ?_) (fun q => ?_)
    · replace hF := brT q hF
      cases hF
      exact k
    · replace hF := brF q hF
      refine v_iload_n (j := 1) dX6_turn_20 rfl ?_
      refine v_iload (j := 4) dX6_turn_21 rfl ?_
      refine v_ishr dX6_turn_23 ?_
      refine v_iconst (v := 1) dX6_turn_24 (by decide) ?_
      refine v_iand dX6_turn_25 ?_
      refine v_if_eq dX6_turn_26 (by decide : _ = ((57 : Nat) : Int)) (fun q => ?_) (fun q => ?_)
      · replace hF := brT q hF
        obtain ⟨v2, ev2⟩ : ∃ y : Int32, y = a4 + 1 := ⟨_, rfl⟩
        replace hF := lb_use ev2 hF
        refine v_iinc (j := 4) (v := v2) (ls' := [(4, zi v2), (0, zr 6 0), (1, zi a1), (2, zr 8 a2), (3, zi a3)]) dX6_turn_57 rfl (by rw [ev2]; rfl) (by decide) rfl ?_
        clear ev2
        refine v_goto (tgt := 13) dX6_turn_60 (by decide) ?_
        refine v_sub [1, 2, 3, 4, 0] rfl ?_
        exact ih a1 a2 a3 v2 h _ hF k
      · replace hF := brF q hF
        refine v_aload_n (j := 0) dX6_turn_29 rfl ?_
        refine v_getL (c := 6) rfl rfl rfl ly6_1 cz6 flX6_22 dX6_turn_30 ?_
        refine v_iload (j := 4) dX6_turn_33 rfl ?_
        replace hF := bd_use hF
        obtain ⟨r3, h4, er3, hF⟩ := hF
        refine v_cV (hm := h4) (av := [zi a4]) (st := []) (stn := [zi r3]) (tX4_isStaying er3) lcX4_isStaying mlX6_32 imX4_isStaying seX4_isStaying rfl rfl rfl rfl ⟨by decide, by decide⟩ (Nat.le_of_ble_eq_true rfl) dX6_turn_35 rfl rfl ?_
        clear er3
        refine v_if_eq dX6_turn_38 (by decide : _ = ((57 : Nat) : Int)) (fun q => ?_) (fun q => ?_)
        · replace hF := brT q hF
          obtain ⟨v5, ev5⟩ : ∃ y : Int32, y = a4 + 1 := ⟨_, rfl⟩
          replace hF := lb_use ev5 hF
          refine v_iinc (j := 4) (v := v5) (ls' := [(4, zi v5), (0, zr 6 0), (1, zi a1), (2, zr 8 a2), (3, zi a3)]) dX6_turn_57 rfl (by rw [ev5]; rfl) (by decide) rfl ?_
          clear ev5
          refine v_goto (tgt := 13) dX6_turn_60 (by decide) ?_
          refine v_sub [1, 2, 3, 4, 0] rfl ?_
          exact ih a1 a2 a3 v5 h4 _ hF k
        · replace hF := brF q hF
          refine v_aload_n (j := 2) dX6_turn_41 rfl ?_
          refine v_iload (j := 4) dX6_turn_42 rfl ?_
          replace hF := bd_use hF
          obtain ⟨r6, h7, er6, hF⟩ := hF
          refine v_cV (hm := h7) (av := [zi a4]) (st := []) (stn := [zi r6]) (tX8_isSitting er6) lcX8_isSitting mlX6_38 imX8_isSitting seX8_isSitting rfl rfl rfl rfl ⟨by decide, by decide⟩ (Nat.le_of_ble_eq_true rfl) dX6_turn_44 rfl rfl ?_
          clear er6
          refine v_if_eq dX6_turn_47 (by decide : _ = ((57 : Nat) : Int)) (fun q => ?_) (fun q => ?_)
          · replace hF := brT q hF
            obtain ⟨v8, ev8⟩ : ∃ y : Int32, y = a4 + 1 := ⟨_, rfl⟩
            replace hF := lb_use ev8 hF
            refine v_iinc (j := 4) (v := v8) (ls' := [(4, zi v8), (0, zr 6 0), (1, zi a1), (2, zr 8 a2), (3, zi a3)]) dX6_turn_57 rfl (by rw [ev8]; rfl) (by decide) rfl ?_
            clear ev8
            refine v_goto (tgt := 13) dX6_turn_60 (by decide) ?_
            refine v_sub [1, 2, 3, 4, 0] rfl ?_
            exact ih a1 a2 a3 v8 h7 _ hF k
          · replace hF := brF q hF
            refine v_iload_n (j := 3) dX6_turn_50 rfl ?_
            refine v_iconst (v := 1) dX6_turn_51 (by decide) ?_
            refine v_iload (j := 4) dX6_turn_52 rfl ?_
            refine v_ishl dX6_turn_54 ?_
            refine v_ior dX6_turn_55 ?_
            refine v_topi fun v9 ev9 => ?_
            replace hF := lb_use ev9 hF
            clear ev9
            refine v_istore_n (ls' := [(3, zi v9), (0, zr 6 0), (1, zi a1), (2, zr 8 a2), (4, zi a4)]) dX6_turn_56 (by decide) rfl ?_
            obtain ⟨v10, ev10⟩ : ∃ y : Int32, y = a4 + 1 := ⟨_, rfl⟩
            replace hF := lb_use ev10 hF
            refine v_iinc (j := 4) (v := v10) (ls' := [(4, zi v10), (3, zi v9), (0, zr 6 0), (1, zi a1), (2, zr 8 a2)]) dX6_turn_57 rfl (by rw [ev10]; rfl) (by decide) rfl ?_
            clear ev10
            refine v_goto (tgt := 13) dX6_turn_60 (by decide) ?_
            refine v_sub [2, 3, 4, 1, 0] rfl ?_
            exact ih a1 a2 v9 v10 h7 _ hF k
set_option maxRecDepth 20000 in
theorem tX6_turn_L69 {X : Cz} {h0 : Hp} {r : Option AV} {hE : Hp} : ∀ (n : Nat) (a2 : Nat) (a3 : Int32) (a4 : Int32) (a5 : Int32) (h : Hp) (z : (Int32 × Int32 × Int32) × Hp), fX6_turn_L69 n a2 a3 a4 a5 h = some z → V X mX6_turn true h0 117 [(0, zr 6 0), (2, zr 8 a2), (3, zi z.1.1), (4, zi z.1.2.1), (5, zi z.1.2.2)] [] z.2 r hE → V X mX6_turn true h0 69 [(0, zr 6 0), (2, zr 8 a2), (3, zi a3), (4, zi a4), (5, zi a5)] [] h r hE := by
  intro n
  induction n with
  | zero => intro a2 a3 a4 a5 h z hF k; cases hF
  | succ n ih =>
    intro a2 a3 a4 a5 h z hF k
    rw [fX6_turn_L69] at hF
    refine v_iload (j := 4) dX6_turn_69 rfl ?_
    refine v_bipush (v := 12) dX6_turn_71 (by decide) ?_
    refine v_icmp_ge dX6_turn_73 (by decide : _ = ((117 : Nat) : Int)) (fun q => ?_) (fun q => ?_)
    · replace hF := brT q hF
      cases hF
      exact k
    · replace hF := brF q hF
      refine v_iload_n (j := 2) dX6_turn_76 rfl ?_
      refine v_if_eq dX6_turn_77 (by decide : _ = ((117 : Nat) : Int)) (fun q => ?_) (fun q => ?_)
      · replace hF := brT q hF
        cases hF
        exact k
      · replace hF := brF q hF
        refine v_aload_n (j := 0) dX6_turn_80 rfl ?_
        refine v_iload_n (j := 2) dX6_turn_81 rfl ?_
        refine v_aload_n (j := 1) dX6_turn_82 rfl ?_
        replace hF := bd_use hF
        obtain ⟨r15, h16, er15, hF⟩ := hF
        refine v_cV (hm := h16) (av := [zi a3, zr 8 a2]) (st := []) (stn := []) (tX6_lookRound er15) lcX6_lookRound mlX6_43 imX6_lookRound seX6_lookRound rfl rfl rfl rfl ⟨by decide, by decide⟩ (Nat.le_of_ble_eq_true rfl) dX6_turn_83 rfl rfl ?_
        clear er15
        refine v_aload_n (j := 0) dX6_turn_86 rfl ?_
        refine v_iload_n (j := 2) dX6_turn_87 rfl ?_
        replace hF := bd_use hF
        obtain ⟨r17, h18, er17, hF⟩ := hF
        refine v_cV (hm := h18) (av := [zi a3]) (st := []) (stn := [zi r17]) (tX6_ringed er17) lcX6_ringed mlX6_47 imX6_ringed seX6_ringed rfl rfl rfl rfl ⟨by decide, by decide⟩ (Nat.le_of_ble_eq_true rfl) dX6_turn_88 rfl rfl ?_
        clear er17
        refine v_istore (ls' := [(6, zi r17), (0, zr 6 0), (2, zr 8 a2), (3, zi a3), (4, zi a4), (5, zi a5)]) dX6_turn_91 (by decide) rfl ?_
        refine v_iload (j := 4) dX6_turn_93 rfl ?_
        refine v_aload_n (j := 1) dX6_turn_95 rfl ?_
        refine v_iload (j := 0) dX6_turn_96 rfl ?_
        replace hF := bd_use hF
        obtain ⟨r19, h20, er19, hF⟩ := hF
        refine v_cV (hm := h20) (av := [zi r17]) (st := [zi a4]) (stn := [zi r19, zi a4]) (tX6_letGo er19) lcX6_letGo mlX6_51 imX6_letGo seX6_letGo rfl rfl rfl rfl ⟨by decide, by decide⟩ (Nat.le_of_ble_eq_true rfl) dX6_turn_98 rfl rfl ?_
        clear er19
        refine v_iadd dX6_turn_101 ?_
        refine v_topi fun v21 ev21 => ?_
        replace hF := lb_use ev21 hF
        clear ev21
        refine v_istore (ls' := [(4, zi v21), (6, zi r17), (0, zr 6 0), (2, zr 8 a2), (3, zi a3), (5, zi a5)]) dX6_turn_102 (by decide) rfl ?_
        refine v_iload_n (j := 4) dX6_turn_104 rfl ?_
        refine v_iload (j := 1) dX6_turn_105 rfl ?_
        refine v_iconst (v := (-1)) dX6_turn_107 (by decide) ?_
        refine v_ixor dX6_turn_108 ?_
        refine v_iand dX6_turn_109 ?_
        refine v_topi fun v22 ev22 => ?_
        replace hF := lb_use ev22 hF
        clear ev22
        refine v_istore_n (ls' := [(3, zi v22), (4, zi v21), (6, zi r17), (0, zr 6 0), (2, zr 8 a2), (5, zi a5)]) dX6_turn_110 (by decide) rfl ?_
        obtain ⟨v23, ev23⟩ : ∃ y : Int32, y = a5 + 1 := ⟨_, rfl⟩
        replace hF := lb_use ev23 hF
        refine v_iinc (j := 5) (v := v23) (ls' := [(5, zi v23), (3, zi v22), (4, zi v21), (6, zi r17), (0, zr 6 0), (2, zr 8 a2)]) dX6_turn_111 rfl (by rw [ev23]; rfl) (by decide) rfl ?_
        clear ev23
        refine v_goto (tgt := 69) dX6_turn_114 (by decide) ?_
        refine v_sub [4, 5, 1, 2, 0] rfl ?_
        exact ih a2 v22 v21 v23 h20 _ hF k
set_option maxRecDepth 20000 in
theorem tX6_turn {X : Cz} {a1 : Int32} {a2 : Nat} {h hE : Hp} {rE : Int32} (hF : fX6_turn a1 a2 h = some (rE, hE)) : Ct X mX6_turn true [zr 6 0, zi a1, zr 8 a2] h (some (zi rE)) hE := by
  refine Ct_of (by decide) (Nat.le_of_ble_eq_true rfl) (ls := [(0, zr 6 0), (1, zi a1), (2, zr 8 a2)]) rfl ?_
  unfold fX6_turn at hF
  refine v_aload_n (j := 0) dX6_turn_0 rfl ?_
  refine v_getL (c := 6) rfl rfl rfl ly6_3 cz6 flX6_15 dX6_turn_1 ?_
  refine v_iconst (v := (-1)) dX6_turn_4 (by decide) ?_
  refine v_cS (av := [zr 37 0, zi (-1)]) (st := []) (stn := []) (tJ7_fill_53178 (n := 0) (k := 37) rfl (by decide) (-1) h) lcJ7_fill_53178 mlX6_26 sxJ7_fill_53178 rfl ⟨by decide, by decide⟩ (Nat.le_of_ble_eq_true rfl) dX6_turn_5 rfl rfl ?_
  refine v_toph fun h1 eh1 => ?_
  replace hF := lb_use eh1 hF
  clear eh1
  refine v_iconst (v := 0) dX6_turn_8 (by decide) ?_
  refine v_istore_n (ls' := [(3, zi 0), (0, zr 6 0), (1, zi a1), (2, zr 8 a2)]) dX6_turn_9 (by decide) rfl ?_
  refine v_iconst (v := 0) dX6_turn_10 (by decide) ?_
  refine v_istore (ls' := [(4, zi 0), (3, zi 0), (0, zr 6 0), (1, zi a1), (2, zr 8 a2)]) dX6_turn_11 (by decide) rfl ?_
  refine v_sub [2, 3, 4, 1, 0] rfl ?_
  replace hF := bd_use hF
  obtain ⟨t12, h11, et12, hF⟩ := hF
  refine tX6_turn_L13 _ a1 a2 0 0 h1 _ et12 ?_
  clear et12
  obtain ⟨v13, v14⟩ := t12
  replace hF := lb_use (x := v13) rfl hF
  replace hF := lb_use (x := v14) rfl hF
  refine v_iconst (v := 0) dX6_turn_63 (by decide) ?_
  refine v_istore (ls' := [(4, zi 0), (0, zr 6 0), (1, zi a1), (2, zr 8 a2), (3, zi v13)]) dX6_turn_64 (by decide) rfl ?_
  refine v_iconst (v := 0) dX6_turn_66 (by decide) ?_
  refine v_istore (ls' := [(5, zi 0), (4, zi 0), (0, zr 6 0), (1, zi a1), (2, zr 8 a2), (3, zi v13)]) dX6_turn_67 (by decide) rfl ?_
  refine v_sub [2, 4, 5, 1, 0] rfl ?_
  replace hF := bd_use hF
  obtain ⟨t25, h24, et25, hF⟩ := hF
  refine tX6_turn_L69 _ a2 v13 0 0 h11 _ et25 ?_
  clear et25
  obtain ⟨v26, v27, v28⟩ := t25
  replace hF := lb_use (x := v26) rfl hF
  replace hF := lb_use (x := v27) rfl hF
  replace hF := lb_use (x := v28) rfl hF
  refine v_iload (j := 3) dX6_turn_117 rfl ?_
  obtain ⟨rfl, rfl⟩ := ret_use hF
  exact v_iret rfl dX6_turn_119
