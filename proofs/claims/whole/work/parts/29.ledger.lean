/-! functions and ties, printed by program (wip/gen/dec.py) -/
theorem dX3_init_0 : decode cX3_init 0 = .ok (.aload_n 0, 1) := by decide +kernel
theorem dX3_init_1 : decode cX3_init 1 = .ok (.invokespecial 3, 3) := by decide +kernel
theorem dX3_init_4 : decode cX3_init 4 = .ok (.aload_n 0, 1) := by decide +kernel
theorem dX3_init_5 : decode cX3_init 5 = .ok (.bipush 100, 2) := by decide +kernel
theorem dX3_init_7 : decode cX3_init 7 = .ok (.anewarray 9, 3) := by decide +kernel
theorem dX3_init_10 : decode cX3_init 10 = .ok (.putfield 11, 3) := by decide +kernel
theorem dX3_init_13 : decode cX3_init 13 = .ok (.aload_n 0, 1) := by decide +kernel
theorem dX3_init_14 : decode cX3_init 14 = .ok (.sipush 1600, 3) := by decide +kernel
theorem dX3_init_17 : decode cX3_init 17 = .ok (.newarray .int, 2) := by decide +kernel
theorem dX3_init_19 : decode cX3_init 19 = .ok (.putfield 17, 3) := by decide +kernel
theorem dX3_init_22 : decode cX3_init 22 = .ok (.aload_n 0, 1) := by decide +kernel
theorem dX3_init_23 : decode cX3_init 23 = .ok (.sipush 256, 3) := by decide +kernel
theorem dX3_init_26 : decode cX3_init 26 = .ok (.newarray .int, 2) := by decide +kernel
theorem dX3_init_28 : decode cX3_init 28 = .ok (.putfield 21, 3) := by decide +kernel
theorem dX3_init_31 : decode cX3_init 31 = .ok (.aload_n 0, 1) := by decide +kernel
theorem dX3_init_32 : decode cX3_init 32 = .ok (.getfield 17, 3) := by decide +kernel
theorem dX3_init_35 : decode cX3_init 35 = .ok (.iconst (-1), 1) := by decide +kernel
theorem dX3_init_36 : decode cX3_init 36 = .ok (.invokestatic 24, 3) := by decide +kernel
theorem dX3_init_39 : decode cX3_init 39 = .ok (.return_, 1) := by decide +kernel
def fX3_init (a0 : Nat) (h : Hp) : Option (Unit × Hp) := lb (gN h 32) (fun z1 => lb (nw h 32 100) (fun h2 => lb (sR h2 3 a0 0 (some z1)) (fun h3 => lb (gN h3 33) (fun z4 => lb (nw h3 33 1600) (fun h5 => lb (sR h5 3 a0 3 (some z4)) (fun h6 => lb (gN h6 34) (fun z7 => lb (nw h6 34 256) (fun h8 => lb (sR h8 3 a0 4 (some z7)) (fun h9 => lb (gR h9 3 a0 3) (fun o10 => mt o10 none (fun z11 => lb (flI h9 33 z11 0 1600 (-1)) (fun h12 => some ((), h12)))))))))))))
set_option maxRecDepth 20000 in
theorem tX3_init {X : Cz} {a0 : Nat} {h hE : Hp} {rE : Unit} (hF : fX3_init a0 h = some (rE, hE)) : Ct X mX3_init false [zr 3 a0] h (none) hE := by
  refine Ct_of (by decide) (Nat.le_of_ble_eq_true rfl) (ls := [(0, zr 3 a0)]) rfl ?_
  unfold fX3_init at hF
  refine v_aload_n (j := 0) dX3_init_0 rfl ?_
  refine v_objI mlX3_3 oiI oiC (by decide) (Nat.le_of_ble_eq_true rfl) dX3_init_1 ?_
  refine v_aload_n (j := 0) dX3_init_4 rfl ?_
  refine v_bipush (v := 100) dX3_init_5 (by decide) ?_
  refine v_newq (k := 32) rfl (by decide) rfl clX3_9 (by decide) (by decide) (by decide) (Or.inl rfl) dX3_init_7 ?_
  refine v_topr fun z1 ez1 => ?_
  replace hF := lb_use ez1 hF
  clear ez1
  refine v_toph fun h2 eh2 => ?_
  replace hF := lb_use eh2 hF
  clear eh2
  refine v_putFR (o := some z1) (c := 3) (k2 := 32) rfl rfl (Nat.le_of_ble_eq_true rfl) rfl (Or.inl rfl) cz3 flX3_11 rfl (fun q hq => by cases hq; rfl) dX3_init_10 ?_
  refine v_toph fun h3 eh3 => ?_
  replace hF := lb_use eh3 hF
  clear eh3
  refine v_aload_n (j := 0) dX3_init_13 rfl ?_
  refine v_sipush (v := 1600) dX3_init_14 (by decide) ?_
  refine v_newa (k := 33) (idx := 0) (at0 := .int) rfl (by decide) rfl ac_int (by decide) (by decide) (by decide) (Or.inl rfl) dX3_init_17 ?_
  refine v_topr fun z4 ez4 => ?_
  replace hF := lb_use ez4 hF
  clear ez4
  refine v_toph fun h5 eh5 => ?_
  replace hF := lb_use eh5 hF
  clear eh5
  refine v_putFR (o := some z4) (c := 3) (k2 := 33) rfl rfl (Nat.le_of_ble_eq_true rfl) rfl (Or.inl rfl) cz3 flX3_17 rfl (fun q hq => by cases hq; rfl) dX3_init_19 ?_
  refine v_toph fun h6 eh6 => ?_
  replace hF := lb_use eh6 hF
  clear eh6
  refine v_aload_n (j := 0) dX3_init_22 rfl ?_
  refine v_sipush (v := 256) dX3_init_23 (by decide) ?_
  refine v_newa (k := 34) (idx := 0) (at0 := .int) rfl (by decide) rfl ac_int (by decide) (by decide) (by decide) (Or.inl rfl) dX3_init_26 ?_
  refine v_topr fun z7 ez7 => ?_
  replace hF := lb_use ez7 hF
  clear ez7
  refine v_toph fun h8 eh8 => ?_
  replace hF := lb_use eh8 hF
  clear eh8
  refine v_putFR (o := some z7) (c := 3) (k2 := 34) rfl rfl (Nat.le_of_ble_eq_true rfl) rfl (Or.inl rfl) cz3 flX3_21 rfl (fun q hq => by cases hq; rfl) dX3_init_28 ?_
  refine v_toph fun h9 eh9 => ?_
  replace hF := lb_use eh9 hF
  clear eh9
  refine v_aload_n (j := 0) dX3_init_31 rfl ?_
  refine v_getR (c := 3) (k2 := 33) rfl rfl rfl cz3 flX3_17 dX3_init_32 ?_
  refine v_topq fun o10 eo10 => ?_
  replace hF := lb_use eo10 hF
  clear eo10
  refine v_iconst (v := (-1)) dX3_init_35 (by decide) ?_
  replace hF := mt_use hF
  obtain ⟨z11, ez11, hF⟩ := hF
  subst ez11
  refine v_cS (av := [zr 33 z11, zi (-1)]) (st := []) (stn := []) (tJ7_fill_53178 (n := z11) (k := 33) rfl (by decide) (-1) h9) lcJ7_fill_53178 mlX3_24 sxJ7_fill_53178 rfl ⟨by decide, by decide⟩ (Nat.le_of_ble_eq_true rfl) dX3_init_36 rfl rfl ?_
  refine v_toph fun h12 eh12 => ?_
  replace hF := lb_use eh12 hF
  clear eh12
  cases hF
  exact v_vret rfl dX3_init_39
theorem dX3_isPlot_0 : decode cX3_isPlot 0 = .ok (.iload_n 1, 1) := by decide +kernel
theorem dX3_isPlot_1 : decode cX3_isPlot 1 = .ok (.ifCond .lt 13, 3) := by decide +kernel
theorem dX3_isPlot_4 : decode cX3_isPlot 4 = .ok (.iload_n 1, 1) := by decide +kernel
theorem dX3_isPlot_5 : decode cX3_isPlot 5 = .ok (.bipush 8, 2) := by decide +kernel
theorem dX3_isPlot_7 : decode cX3_isPlot 7 = .ok (.if_icmp .ge 7, 3) := by decide +kernel
theorem dX3_isPlot_10 : decode cX3_isPlot 10 = .ok (.iconst 1, 1) := by decide +kernel
theorem dX3_isPlot_11 : decode cX3_isPlot 11 = .ok (.goto 4, 3) := by decide +kernel
theorem dX3_isPlot_14 : decode cX3_isPlot 14 = .ok (.iconst 0, 1) := by decide +kernel
theorem dX3_isPlot_15 : decode cX3_isPlot 15 = .ok (.ireturn, 1) := by decide +kernel
def fX3_isPlot (a1 : Int32) (h : Hp) : Int32 := br (a1 < 0) (0) (br (8 ≤ a1) (0) (1))
set_option maxRecDepth 20000 in
theorem tX3_isPlot {X : Cz} (a1 : Int32) (h : Hp) : Ct X mX3_isPlot true [zr 3 0, zi a1] h (some (zi (fX3_isPlot a1 h))) h := by
  refine Ct_of (by decide) (Nat.le_of_ble_eq_true rfl) (ls := [(0, zr 3 0), (1, zi a1)]) rfl ?_
  obtain ⟨rE, hF⟩ : ∃ z, fX3_isPlot a1 h = z := ⟨_, rfl⟩
  rw [hF]
  unfold fX3_isPlot at hF
  refine v_iload_n (j := 1) dX3_isPlot_0 rfl ?_
  refine v_if_lt dX3_isPlot_1 (by decide : _ = ((14 : Nat) : Int)) (fun q => ?_) (fun q => ?_)
  · replace hF := brT q hF
    refine v_iconst (v := 0) dX3_isPlot_14 (by decide) ?_
    subst hF
    exact v_zret rfl (Or.inl rfl) dX3_isPlot_15
  · replace hF := brF q hF
    refine v_iload_n (j := 1) dX3_isPlot_4 rfl ?_
    refine v_bipush (v := 8) dX3_isPlot_5 (by decide) ?_
    refine v_icmp_ge dX3_isPlot_7 (by decide : _ = ((14 : Nat) : Int)) (fun q => ?_) (fun q => ?_)
    · replace hF := brT q hF
      refine v_iconst (v := 0) dX3_isPlot_14 (by decide) ?_
      subst hF
      exact v_zret rfl (Or.inl rfl) dX3_isPlot_15
    · replace hF := brF q hF
      refine v_iconst (v := 1) dX3_isPlot_10 (by decide) ?_
      refine v_goto (tgt := 15) dX3_isPlot_11 (by decide) ?_
      subst hF
      exact v_zret rfl (Or.inr rfl) dX3_isPlot_15
theorem zX3_isPlot (a1 : Int32) (h : Hp) : fX3_isPlot a1 h = 0 ∨ fX3_isPlot a1 h = 1 := by
  unfold fX3_isPlot
  try unfold br
  try unfold lb
  try dsimp only
  repeat' split
  all_goals first | exact Or.inl rfl | exact Or.inr rfl
theorem dX3_plotOwner_0 : decode cX3_plotOwner 0 = .ok (.aload_n 0, 1) := by decide +kernel
theorem dX3_plotOwner_1 : decode cX3_plotOwner 1 = .ok (.iload_n 1, 1) := by decide +kernel
theorem dX3_plotOwner_2 : decode cX3_plotOwner 2 = .ok (.invokevirtual 30, 3) := by decide +kernel
theorem dX3_plotOwner_5 : decode cX3_plotOwner 5 = .ok (.ifCond .eq 25, 3) := by decide +kernel
theorem dX3_plotOwner_8 : decode cX3_plotOwner 8 = .ok (.iload_n 2, 1) := by decide +kernel
theorem dX3_plotOwner_9 : decode cX3_plotOwner 9 = .ok (.invokestatic 34, 3) := by decide +kernel
theorem dX3_plotOwner_12 : decode cX3_plotOwner 12 = .ok (.ifCond .eq 18, 3) := by decide +kernel
theorem dX3_plotOwner_15 : decode cX3_plotOwner 15 = .ok (.aload_n 0, 1) := by decide +kernel
theorem dX3_plotOwner_16 : decode cX3_plotOwner 16 = .ok (.getfield 17, 3) := by decide +kernel
theorem dX3_plotOwner_19 : decode cX3_plotOwner 19 = .ok (.iload_n 1, 1) := by decide +kernel
theorem dX3_plotOwner_20 : decode cX3_plotOwner 20 = .ok (.sipush 200, 3) := by decide +kernel
theorem dX3_plotOwner_23 : decode cX3_plotOwner 23 = .ok (.imul, 1) := by decide +kernel
theorem dX3_plotOwner_24 : decode cX3_plotOwner 24 = .ok (.iload_n 2, 1) := by decide +kernel
theorem dX3_plotOwner_25 : decode cX3_plotOwner 25 = .ok (.iadd, 1) := by decide +kernel
theorem dX3_plotOwner_26 : decode cX3_plotOwner 26 = .ok (.iaload, 1) := by decide +kernel
theorem dX3_plotOwner_27 : decode cX3_plotOwner 27 = .ok (.goto 4, 3) := by decide +kernel
theorem dX3_plotOwner_30 : decode cX3_plotOwner 30 = .ok (.iconst (-1), 1) := by decide +kernel
theorem dX3_plotOwner_31 : decode cX3_plotOwner 31 = .ok (.ireturn, 1) := by decide +kernel
def fX3_plotOwner (a1 : Int32) (a2 : Int32) (h : Hp) : Option (Int32 × Hp) := br ((fX3_isPlot a1 h) = 0) (some ((-1), h)) (br ((fX11_isYear a2 h) = 0) (some ((-1), h)) (gd (ib ((a1 * 200) + a2) 1600) (some (gI h 33 0 (ix ((a1 * 200) + a2)), h))))
set_option maxRecDepth 20000 in
theorem tX3_plotOwner {X : Cz} {a1 : Int32} {a2 : Int32} {h hE : Hp} {rE : Int32} (hF : fX3_plotOwner a1 a2 h = some (rE, hE)) : Ct X mX3_plotOwner true [zr 3 0, zi a1, zi a2] h (some (zi rE)) hE := by
  refine Ct_of (by decide) (Nat.le_of_ble_eq_true rfl) (ls := [(0, zr 3 0), (1, zi a1), (2, zi a2)]) rfl ?_
  unfold fX3_plotOwner at hF
  refine v_aload_n (j := 0) dX3_plotOwner_0 rfl ?_
  refine v_iload_n (j := 1) dX3_plotOwner_1 rfl ?_
  refine v_cV (hm := h) (av := [zi a1]) (st := []) (stn := [zi (fX3_isPlot a1 h)]) (tX3_isPlot a1 h) lcX3_isPlot mlX3_30 imX3_isPlot seX3_isPlot rfl rfl rfl rfl ⟨by decide, by decide⟩ (Nat.le_of_ble_eq_true rfl) dX3_plotOwner_2 rfl rfl ?_
  refine v_if_eq dX3_plotOwner_5 (by decide : _ = ((30 : Nat) : Int)) (fun q => ?_) (fun q => ?_)
  · replace hF := brT q hF
    refine v_iconst (v := (-1)) dX3_plotOwner_30 (by decide) ?_
    obtain ⟨rfl, rfl⟩ := ret_use hF
    exact v_iret rfl dX3_plotOwner_31
  · replace hF := brF q hF
    refine v_iload_n (j := 2) dX3_plotOwner_8 rfl ?_
    refine v_cSN (host := "PewRank") (hm := h) (av := [zi a2]) (st := []) (stn := [zi (fX11_isYear a2 h)]) (tX11_isYear a2 h) lcX11_isYear (by decide) sxX11_isYear rfl ⟨by decide, by decide⟩ (Nat.le_of_ble_eq_true rfl) dX3_plotOwner_9 rfl rfl ?_
    refine v_if_eq dX3_plotOwner_12 (by decide : _ = ((30 : Nat) : Int)) (fun q => ?_) (fun q => ?_)
    · replace hF := brT q hF
      refine v_iconst (v := (-1)) dX3_plotOwner_30 (by decide) ?_
      obtain ⟨rfl, rfl⟩ := ret_use hF
      exact v_iret rfl dX3_plotOwner_31
    · replace hF := brF q hF
      refine v_aload_n (j := 0) dX3_plotOwner_15 rfl ?_
      refine v_getL (c := 3) rfl rfl rfl ly3_3 cz3 flX3_17 dX3_plotOwner_16 ?_
      refine v_iload_n (j := 1) dX3_plotOwner_19 rfl ?_
      refine v_sipush (v := 200) dX3_plotOwner_20 (by decide) ?_
      refine v_imul dX3_plotOwner_23 ?_
      refine v_iload_n (j := 2) dX3_plotOwner_24 rfl ?_
      refine v_iadd dX3_plotOwner_25 ?_
      replace hF := gd_use hF
      obtain ⟨q1, hF⟩ := hF
      refine v_iald rfl q1 dX3_plotOwner_26 ?_
      refine v_goto (tgt := 31) dX3_plotOwner_27 (by decide) ?_
      obtain ⟨rfl, rfl⟩ := ret_use hF
      exact v_iret rfl dX3_plotOwner_31
theorem dX3_givePlot_0 : decode cX3_givePlot 0 = .ok (.aload_n 0, 1) := by decide +kernel
theorem dX3_givePlot_1 : decode cX3_givePlot 1 = .ok (.iload_n 1, 1) := by decide +kernel
theorem dX3_givePlot_2 : decode cX3_givePlot 2 = .ok (.invokevirtual 30, 3) := by decide +kernel
theorem dX3_givePlot_5 : decode cX3_givePlot 5 = .ok (.ifCond .eq 37, 3) := by decide +kernel
theorem dX3_givePlot_8 : decode cX3_givePlot 8 = .ok (.iload_n 3, 1) := by decide +kernel
theorem dX3_givePlot_9 : decode cX3_givePlot 9 = .ok (.invokestatic 34, 3) := by decide +kernel
theorem dX3_givePlot_12 : decode cX3_givePlot 12 = .ok (.ifCond .eq 30, 3) := by decide +kernel
theorem dX3_givePlot_15 : decode cX3_givePlot 15 = .ok (.iload_n 1, 1) := by decide +kernel
theorem dX3_givePlot_16 : decode cX3_givePlot 16 = .ok (.sipush 200, 3) := by decide +kernel
theorem dX3_givePlot_19 : decode cX3_givePlot 19 = .ok (.imul, 1) := by decide +kernel
theorem dX3_givePlot_20 : decode cX3_givePlot 20 = .ok (.istore 4, 2) := by decide +kernel
theorem dX3_givePlot_22 : decode cX3_givePlot 22 = .ok (.aload_n 0, 1) := by decide +kernel
theorem dX3_givePlot_23 : decode cX3_givePlot 23 = .ok (.getfield 17, 3) := by decide +kernel
theorem dX3_givePlot_26 : decode cX3_givePlot 26 = .ok (.iload 4, 2) := by decide +kernel
theorem dX3_givePlot_28 : decode cX3_givePlot 28 = .ok (.iload_n 3, 1) := by decide +kernel
theorem dX3_givePlot_29 : decode cX3_givePlot 29 = .ok (.iadd, 1) := by decide +kernel
theorem dX3_givePlot_30 : decode cX3_givePlot 30 = .ok (.iload 4, 2) := by decide +kernel
theorem dX3_givePlot_32 : decode cX3_givePlot 32 = .ok (.sipush 199, 3) := by decide +kernel
theorem dX3_givePlot_35 : decode cX3_givePlot 35 = .ok (.iadd, 1) := by decide +kernel
theorem dX3_givePlot_36 : decode cX3_givePlot 36 = .ok (.iconst 1, 1) := by decide +kernel
theorem dX3_givePlot_37 : decode cX3_givePlot 37 = .ok (.iadd, 1) := by decide +kernel
theorem dX3_givePlot_38 : decode cX3_givePlot 38 = .ok (.iload_n 2, 1) := by decide +kernel
theorem dX3_givePlot_39 : decode cX3_givePlot 39 = .ok (.invokestatic 37, 3) := by decide +kernel
theorem dX3_givePlot_42 : decode cX3_givePlot 42 = .ok (.return_, 1) := by decide +kernel
def fX3_givePlot (a1 : Int32) (a2 : Int32) (a3 : Int32) (h : Hp) : Option (Unit × Hp) := br ((fX3_isPlot a1 h) = 0) (some ((), h)) (br ((fX11_isYear a3 h) = 0) (some ((), h)) (lb (a1 * 200) (fun v1 => gd (0 ≤ (v1 + a3).toInt ∧ (v1 + a3).toInt ≤ ((v1 + 199) + 1).toInt ∧ ((v1 + 199) + 1).toInt ≤ 1600) (lb (flI h 33 0 (ix (v1 + a3)) (ix ((v1 + 199) + 1)) a2) (fun h3 => some ((), h3))))))
set_option maxRecDepth 20000 in
theorem tX3_givePlot {X : Cz} {a1 : Int32} {a2 : Int32} {a3 : Int32} {h hE : Hp} {rE : Unit} (hF : fX3_givePlot a1 a2 a3 h = some (rE, hE)) : Ct X mX3_givePlot true [zr 3 0, zi a1, zi a2, zi a3] h (none) hE := by
  refine Ct_of (by decide) (Nat.le_of_ble_eq_true rfl) (ls := [(0, zr 3 0), (1, zi a1), (2, zi a2), (3, zi a3)]) rfl ?_
  unfold fX3_givePlot at hF
  refine v_aload_n (j := 0) dX3_givePlot_0 rfl ?_
  refine v_iload_n (j := 1) dX3_givePlot_1 rfl ?_
  refine v_cV (hm := h) (av := [zi a1]) (st := []) (stn := [zi (fX3_isPlot a1 h)]) (tX3_isPlot a1 h) lcX3_isPlot mlX3_30 imX3_isPlot seX3_isPlot rfl rfl rfl rfl ⟨by decide, by decide⟩ (Nat.le_of_ble_eq_true rfl) dX3_givePlot_2 rfl rfl ?_
  refine v_if_eq dX3_givePlot_5 (by decide : _ = ((42 : Nat) : Int)) (fun q => ?_) (fun q => ?_)
  · replace hF := brT q hF
    cases hF
    exact v_vret rfl dX3_givePlot_42
  · replace hF := brF q hF
    refine v_iload_n (j := 3) dX3_givePlot_8 rfl ?_
    refine v_cSN (host := "PewRank") (hm := h) (av := [zi a3]) (st := []) (stn := [zi (fX11_isYear a3 h)]) (tX11_isYear a3 h) lcX11_isYear (by decide) sxX11_isYear rfl ⟨by decide, by decide⟩ (Nat.le_of_ble_eq_true rfl) dX3_givePlot_9 rfl rfl ?_
    refine v_if_eq dX3_givePlot_12 (by decide : _ = ((42 : Nat) : Int)) (fun q => ?_) (fun q => ?_)
    · replace hF := brT q hF
      cases hF
      exact v_vret rfl dX3_givePlot_42
    · replace hF := brF q hF
      refine v_iload_n (j := 1) dX3_givePlot_15 rfl ?_
      refine v_sipush (v := 200) dX3_givePlot_16 (by decide) ?_
      refine v_imul dX3_givePlot_19 ?_
      refine v_topi fun v1 ev1 => ?_
      replace hF := lb_use ev1 hF
      clear ev1
      refine v_istore (ls' := [(4, zi v1), (0, zr 3 0), (1, zi a1), (2, zi a2), (3, zi a3)]) dX3_givePlot_20 (by decide) rfl ?_
      refine v_aload_n (j := 1) dX3_givePlot_22 rfl ?_
      refine v_getL (c := 3) rfl rfl rfl ly3_3 cz3 flX3_17 dX3_givePlot_23 ?_
      refine v_iload (j := 0) dX3_givePlot_26 rfl ?_
      refine v_iload_n (j := 4) dX3_givePlot_28 rfl ?_
      refine v_iadd dX3_givePlot_29 ?_
      refine v_iload (j := 0) dX3_givePlot_30 rfl ?_
      refine v_sipush (v := 199) dX3_givePlot_32 (by decide) ?_
      refine v_iadd dX3_givePlot_35 ?_
      refine v_iconst (v := 1) dX3_givePlot_36 (by decide) ?_
      refine v_iadd dX3_givePlot_37 ?_
      refine v_iload_n (j := 3) dX3_givePlot_38 rfl ?_
      replace hF := gd_use hF
      obtain ⟨q2, hF⟩ := hF
      refine v_cS (av := [zr 33 0, zi (v1 + a3), zi ((v1 + 199) + 1), zi a2]) (st := []) (stn := []) (tJ7_fill_fda19 (n := 0) (k := 33) rfl (by decide) (v1 + a3) ((v1 + 199) + 1) a2 h q2.1 q2.2.1 q2.2.2) lcJ7_fill_fda19 mlX3_37 sxJ7_fill_fda19 rfl ⟨by decide, by decide⟩ (Nat.le_of_ble_eq_true rfl) dX3_givePlot_39 rfl rfl ?_
      refine v_toph fun h3 eh3 => ?_
      replace hF := lb_use eh3 hF
      clear eh3
      cases hF
      exact v_vret rfl dX3_givePlot_42
theorem dX3_passPlots_0 : decode cX3_passPlots 0 = .ok (.iconst 0, 1) := by decide +kernel
theorem dX3_passPlots_1 : decode cX3_passPlots 1 = .ok (.istore 4, 2) := by decide +kernel
theorem dX3_passPlots_3 : decode cX3_passPlots 3 = .ok (.iload 4, 2) := by decide +kernel
theorem dX3_passPlots_5 : decode cX3_passPlots 5 = .ok (.bipush 8, 2) := by decide +kernel
theorem dX3_passPlots_7 : decode cX3_passPlots 7 = .ok (.if_icmp .ge 28, 3) := by decide +kernel
theorem dX3_passPlots_10 : decode cX3_passPlots 10 = .ok (.aload_n 0, 1) := by decide +kernel
theorem dX3_passPlots_11 : decode cX3_passPlots 11 = .ok (.iload 4, 2) := by decide +kernel
theorem dX3_passPlots_13 : decode cX3_passPlots 13 = .ok (.iload_n 3, 1) := by decide +kernel
theorem dX3_passPlots_14 : decode cX3_passPlots 14 = .ok (.invokevirtual 40, 3) := by decide +kernel
theorem dX3_passPlots_17 : decode cX3_passPlots 17 = .ok (.iload_n 1, 1) := by decide +kernel
theorem dX3_passPlots_18 : decode cX3_passPlots 18 = .ok (.if_icmp .ne 11, 3) := by decide +kernel
theorem dX3_passPlots_21 : decode cX3_passPlots 21 = .ok (.aload_n 0, 1) := by decide +kernel
theorem dX3_passPlots_22 : decode cX3_passPlots 22 = .ok (.iload 4, 2) := by decide +kernel
theorem dX3_passPlots_24 : decode cX3_passPlots 24 = .ok (.iload_n 2, 1) := by decide +kernel
theorem dX3_passPlots_25 : decode cX3_passPlots 25 = .ok (.iload_n 3, 1) := by decide +kernel
theorem dX3_passPlots_26 : decode cX3_passPlots 26 = .ok (.invokevirtual 44, 3) := by decide +kernel
theorem dX3_passPlots_29 : decode cX3_passPlots 29 = .ok (.iinc 4 1, 3) := by decide +kernel
theorem dX3_passPlots_32 : decode cX3_passPlots 32 = .ok (.goto (-29), 3) := by decide +kernel
theorem dX3_passPlots_35 : decode cX3_passPlots 35 = .ok (.return_, 1) := by decide +kernel
def fX3_passPlots_L3 : Nat → Int32 → Int32 → Int32 → Int32 → Hp → Option ((Int32) × Hp)
  | 0, _, _, _, _, _ => none
  | n + 1, a1, a2, a3, a4, h => br (8 ≤ a4) (some ((a4), h)) (bd (fX3_plotOwner a4 a3 h) (fun r1 h2 => br (r1 = a1) (bd (fX3_givePlot a4 a2 a3 h2) (fun r4 h5 => lb (a4 + 1) (fun v6 => fX3_passPlots_L3 n a1 a2 a3 v6 h5))) (lb (a4 + 1) (fun v3 => fX3_passPlots_L3 n a1 a2 a3 v3 h2))))
def fX3_passPlots (a1 : Int32) (a2 : Int32) (a3 : Int32) (h : Hp) : Option (Unit × Hp) := bd (fX3_passPlots_L3 FU a1 a2 a3 0 h) (fun v9 h7 => some ((), h7))
set_option maxRecDepth 20000 in
theorem tX3_passPlots_L3 {X : Cz} {h0 : Hp} {r : Option AV} {hE : Hp} : ∀ (n : Nat) (a1 : Int32) (a2 : Int32) (a3 : Int32) (a4 : Int32) (h : Hp) (z : (Int32) × Hp), fX3_passPlots_L3 n a1 a2 a3 a4 h = some z → V X mX3_passPlots true h0 35 [(0, zr 3 0), (1, zi a1), (2, zi a2), (3, zi a3), (4, zi z.1)] [] z.2 r hE → V X mX3_passPlots true h0 3 [(0, zr 3 0), (1, zi a1), (2, zi a2), (3, zi a3), (4, zi a4)] [] h r hE := by
  intro n
  induction n with
  | zero => intro a1 a2 a3 a4 h z hF k; cases hF
  | succ n ih =>
    intro a1 a2 a3 a4 h z hF k
    rw [fX3_passPlots_L3] at hF
    refine v_iload (j := 4) dX3_passPlots_3 rfl ?_
    refine v_bipush (v := 8) dX3_passPlots_5 (by decide) ?_
    refine v_icmp_ge dX3_passPlots_7 (by decide : _ = ((35 : Nat) : Int)) (fun q => ?_) (fun q => ?_)
    · replace hF := brT q hF
      cases hF
      exact k
    · replace hF := brF q hF
      refine v_aload_n (j := 0) dX3_passPlots_10 rfl ?_
      refine v_iload (j := 4) dX3_passPlots_11 rfl ?_
      refine v_iload_n (j := 3) dX3_passPlots_13 rfl ?_
      replace hF := bd_use hF
      obtain ⟨r1, h2, er1, hF⟩ := hF
      refine v_cV (hm := h2) (av := [zi a4, zi a3]) (st := []) (stn := [zi r1]) (tX3_plotOwner er1) lcX3_plotOwner mlX3_40 imX3_plotOwner seX3_plotOwner rfl rfl rfl rfl ⟨by decide, by decide⟩ (Nat.le_of_ble_eq_true rfl) dX3_passPlots_14 rfl rfl ?_
      clear er1
      refine v_iload_n (j := 1) dX3_passPlots_17 rfl ?_
      refine v_icmp_ne dX3_passPlots_18 (by decide : _ = ((29 : Nat) : Int)) (fun q => ?_) (fun q => ?_)
      · replace hF := brF q hF
        obtain ⟨v3, ev3⟩ : ∃ y : Int32, y = a4 + 1 := ⟨_, rfl⟩
        replace hF := lb_use ev3 hF
        refine v_iinc (j := 4) (v := v3) (ls' := [(4, zi v3), (0, zr 3 0), (1, zi a1), (2, zi a2), (3, zi a3)]) dX3_passPlots_29 rfl (by rw [ev3]; rfl) (by decide) rfl ?_
        clear ev3
        refine v_goto (tgt := 3) dX3_passPlots_32 (by decide) ?_
        refine v_sub [1, 2, 3, 4, 0] rfl ?_
        exact ih a1 a2 a3 v3 h2 _ hF k
      · replace hF := brT (Decidable.not_not.mp q) hF
        refine v_aload_n (j := 0) dX3_passPlots_21 rfl ?_
        refine v_iload (j := 4) dX3_passPlots_22 rfl ?_
        refine v_iload_n (j := 2) dX3_passPlots_24 rfl ?_
        refine v_iload_n (j := 3) dX3_passPlots_25 rfl ?_
        replace hF := bd_use hF
        obtain ⟨r4, h5, er4, hF⟩ := hF
        refine v_cV (hm := h5) (av := [zi a4, zi a2, zi a3]) (st := []) (stn := []) (tX3_givePlot er4) lcX3_givePlot mlX3_44 imX3_givePlot seX3_givePlot rfl rfl rfl rfl ⟨by decide, by decide⟩ (Nat.le_of_ble_eq_true rfl) dX3_passPlots_26 rfl rfl ?_
        clear er4
        obtain ⟨v6, ev6⟩ : ∃ y : Int32, y = a4 + 1 := ⟨_, rfl⟩
        replace hF := lb_use ev6 hF
        refine v_iinc (j := 4) (v := v6) (ls' := [(4, zi v6), (0, zr 3 0), (1, zi a1), (2, zi a2), (3, zi a3)]) dX3_passPlots_29 rfl (by rw [ev6]; rfl) (by decide) rfl ?_
        clear ev6
        refine v_goto (tgt := 3) dX3_passPlots_32 (by decide) ?_
        refine v_sub [1, 2, 3, 4, 0] rfl ?_
        exact ih a1 a2 a3 v6 h5 _ hF k
set_option maxRecDepth 20000 in
theorem tX3_passPlots {X : Cz} {a1 : Int32} {a2 : Int32} {a3 : Int32} {h hE : Hp} {rE : Unit} (hF : fX3_passPlots a1 a2 a3 h = some (rE, hE)) : Ct X mX3_passPlots true [zr 3 0, zi a1, zi a2, zi a3] h (none) hE := by
  refine Ct_of (by decide) (Nat.le_of_ble_eq_true rfl) (ls := [(0, zr 3 0), (1, zi a1), (2, zi a2), (3, zi a3)]) rfl ?_
  unfold fX3_passPlots at hF
  refine v_iconst (v := 0) dX3_passPlots_0 (by decide) ?_
  refine v_istore (ls' := [(4, zi 0), (0, zr 3 0), (1, zi a1), (2, zi a2), (3, zi a3)]) dX3_passPlots_1 (by decide) rfl ?_
  refine v_sub [1, 2, 3, 4, 0] rfl ?_
  replace hF := bd_use hF
  obtain ⟨v9, h7, ev9, hF⟩ := hF
  refine tX3_passPlots_L3 _ a1 a2 a3 0 h _ ev9 ?_
  clear ev9
  cases hF
  exact v_vret rfl dX3_passPlots_35
theorem dX3_numbersLeft_0 : decode cX3_numbersLeft 0 = .ok (.bipush 100, 2) := by decide +kernel
theorem dX3_numbersLeft_2 : decode cX3_numbersLeft 2 = .ok (.aload_n 0, 1) := by decide +kernel
theorem dX3_numbersLeft_3 : decode cX3_numbersLeft 3 = .ok (.getfield 48, 3) := by decide +kernel
theorem dX3_numbersLeft_6 : decode cX3_numbersLeft 6 = .ok (.isub, 1) := by decide +kernel
theorem dX3_numbersLeft_7 : decode cX3_numbersLeft 7 = .ok (.ireturn, 1) := by decide +kernel
def fX3_numbersLeft (h : Hp) : Int32 := (100 : Int32) - (gI h 3 0 1)
set_option maxRecDepth 20000 in
theorem tX3_numbersLeft {X : Cz} (h : Hp) : Ct X mX3_numbersLeft true [zr 3 0] h (some (zi (fX3_numbersLeft h))) h := by
  refine Ct_of (by decide) (Nat.le_of_ble_eq_true rfl) (ls := [(0, zr 3 0)]) rfl ?_
  obtain ⟨rE, hF⟩ : ∃ z, fX3_numbersLeft h = z := ⟨_, rfl⟩
  rw [hF]
  unfold fX3_numbersLeft at hF
  refine v_bipush (v := 100) dX3_numbersLeft_0 (by decide) ?_
  refine v_aload_n (j := 0) dX3_numbersLeft_2 rfl ?_
  refine v_getI (c := 3) rfl (Or.inl rfl) cz3 flX3_48 dX3_numbersLeft_3 ?_
  refine v_isub dX3_numbersLeft_6 ?_
  subst hF
  exact v_iret rfl dX3_numbersLeft_7
theorem dX3_enter_0 : decode cX3_enter 0 = .ok (.aload_n 0, 1) := by decide +kernel
theorem dX3_enter_1 : decode cX3_enter 1 = .ok (.getfield 48, 3) := by decide +kernel
theorem dX3_enter_4 : decode cX3_enter 4 = .ok (.bipush 100, 2) := by decide +kernel
theorem dX3_enter_6 : decode cX3_enter 6 = .ok (.if_icmp .lt 6, 3) := by decide +kernel
theorem dX3_enter_9 : decode cX3_enter 9 = .ok (.bipush (-3), 2) := by decide +kernel
theorem dX3_enter_11 : decode cX3_enter 11 = .ok (.ireturn, 1) := by decide +kernel
theorem dX3_enter_12 : decode cX3_enter 12 = .ok (.aload_n 0, 1) := by decide +kernel
theorem dX3_enter_13 : decode cX3_enter 13 = .ok (.getfield 11, 3) := by decide +kernel
theorem dX3_enter_16 : decode cX3_enter 16 = .ok (.aload_n 0, 1) := by decide +kernel
theorem dX3_enter_17 : decode cX3_enter 17 = .ok (.getfield 48, 3) := by decide +kernel
theorem dX3_enter_20 : decode cX3_enter 20 = .ok (.aload_n 1, 1) := by decide +kernel
theorem dX3_enter_21 : decode cX3_enter 21 = .ok (.aastore, 1) := by decide +kernel
theorem dX3_enter_22 : decode cX3_enter 22 = .ok (.aload_n 0, 1) := by decide +kernel
theorem dX3_enter_23 : decode cX3_enter 23 = .ok (.dup, 1) := by decide +kernel
theorem dX3_enter_24 : decode cX3_enter 24 = .ok (.getfield 48, 3) := by decide +kernel
theorem dX3_enter_27 : decode cX3_enter 27 = .ok (.iconst 1, 1) := by decide +kernel
theorem dX3_enter_28 : decode cX3_enter 28 = .ok (.iadd, 1) := by decide +kernel
theorem dX3_enter_29 : decode cX3_enter 29 = .ok (.putfield 48, 3) := by decide +kernel
theorem dX3_enter_32 : decode cX3_enter 32 = .ok (.aload_n 0, 1) := by decide +kernel
theorem dX3_enter_33 : decode cX3_enter 33 = .ok (.getfield 48, 3) := by decide +kernel
theorem dX3_enter_36 : decode cX3_enter 36 = .ok (.iconst 1, 1) := by decide +kernel
theorem dX3_enter_37 : decode cX3_enter 37 = .ok (.isub, 1) := by decide +kernel
theorem dX3_enter_38 : decode cX3_enter 38 = .ok (.ireturn, 1) := by decide +kernel
def fX3_enter (a1 : Nat) (h : Hp) : Option (Int32 × Hp) := br ((gI h 3 0 1) < 100) (gd (ib (gI h 3 0 1) 100) (lb (sR h 32 0 (ix (gI h 3 0 1)) (some a1)) (fun h2 => lb (sI h2 3 0 1 ((gI h2 3 0 1) + 1)) (fun h3 => some ((gI h3 3 0 1) - 1, h3))))) (some ((-3), h))
set_option maxRecDepth 20000 in
theorem tX3_enter {X : Cz} {a1 : Nat} {h hE : Hp} {rE : Int32} (hF : fX3_enter a1 h = some (rE, hE)) : Ct X mX3_enter true [zr 3 0, zr 5 a1] h (some (zi rE)) hE := by
  refine Ct_of (by decide) (Nat.le_of_ble_eq_true rfl) (ls := [(0, zr 3 0), (1, zr 5 a1)]) rfl ?_
  unfold fX3_enter at hF
  refine v_aload_n (j := 0) dX3_enter_0 rfl ?_
  refine v_getI (c := 3) rfl (Or.inl rfl) cz3 flX3_48 dX3_enter_1 ?_
  refine v_bipush (v := 100) dX3_enter_4 (by decide) ?_
  refine v_icmp_lt dX3_enter_6 (by decide : _ = ((12 : Nat) : Int)) (fun q => ?_) (fun q => ?_)
  · replace hF := brT q hF
    refine v_aload_n (j := 0) dX3_enter_12 rfl ?_
    refine v_getL (c := 3) rfl rfl rfl ly3_0 cz3 flX3_11 dX3_enter_13 ?_
    refine v_aload_n (j := 0) dX3_enter_16 rfl ?_
    refine v_getI (c := 3) rfl (Or.inl rfl) cz3 flX3_48 dX3_enter_17 ?_
    refine v_aload_n (j := 1) dX3_enter_20 rfl ?_
    replace hF := gd_use hF
    obtain ⟨q1, hF⟩ := hF
    refine v_aast (k2 := 5) (z := a1) rfl (by decide) rfl rfl rfl rfl (Or.inr (by decide)) q1 dX3_enter_21 ?_
    refine v_toph fun h2 eh2 => ?_
    replace hF := lb_use eh2 hF
    clear eh2
    refine v_aload_n (j := 0) dX3_enter_22 rfl ?_
    refine v_dup dX3_enter_23 rfl ?_
    refine v_getI (c := 3) rfl (Or.inl rfl) cz3 flX3_48 dX3_enter_24 ?_
    refine v_iconst (v := 1) dX3_enter_27 (by decide) ?_
    refine v_iadd dX3_enter_28 ?_
    refine v_putI (c := 3) rfl rfl (Nat.le_of_ble_eq_true rfl) cz3 flX3_48 dX3_enter_29 ?_
    refine v_toph fun h3 eh3 => ?_
    replace hF := lb_use eh3 hF
    clear eh3
    refine v_aload_n (j := 0) dX3_enter_32 rfl ?_
    refine v_getI (c := 3) rfl (Or.inl rfl) cz3 flX3_48 dX3_enter_33 ?_
    refine v_iconst (v := 1) dX3_enter_36 (by decide) ?_
    refine v_isub dX3_enter_37 ?_
    obtain ⟨rfl, rfl⟩ := ret_use hF
    exact v_iret rfl dX3_enter_38
  · replace hF := brF q hF
    refine v_bipush (v := (-3)) dX3_enter_9 (by decide) ?_
    obtain ⟨rfl, rfl⟩ := ret_use hF
    exact v_iret rfl dX3_enter_11
theorem dX3_find_0 : decode cX3_find 0 = .ok (.iload_n 1, 1) := by decide +kernel
theorem dX3_find_1 : decode cX3_find 1 = .ok (.ifCond .lt 20, 3) := by decide +kernel
theorem dX3_find_4 : decode cX3_find 4 = .ok (.iload_n 1, 1) := by decide +kernel
theorem dX3_find_5 : decode cX3_find 5 = .ok (.aload_n 0, 1) := by decide +kernel
theorem dX3_find_6 : decode cX3_find 6 = .ok (.getfield 48, 3) := by decide +kernel
theorem dX3_find_9 : decode cX3_find 9 = .ok (.if_icmp .ge 12, 3) := by decide +kernel
theorem dX3_find_12 : decode cX3_find 12 = .ok (.aload_n 0, 1) := by decide +kernel
theorem dX3_find_13 : decode cX3_find 13 = .ok (.getfield 11, 3) := by decide +kernel
theorem dX3_find_16 : decode cX3_find 16 = .ok (.iload_n 1, 1) := by decide +kernel
theorem dX3_find_17 : decode cX3_find 17 = .ok (.aaload, 1) := by decide +kernel
theorem dX3_find_18 : decode cX3_find 18 = .ok (.goto 4, 3) := by decide +kernel
theorem dX3_find_21 : decode cX3_find 21 = .ok (.aconst_null, 1) := by decide +kernel
theorem dX3_find_22 : decode cX3_find 22 = .ok (.areturn, 1) := by decide +kernel
def fX3_find (a1 : Int32) (h : Hp) : Option (Option Nat × Hp) := br (a1 < 0) (some (none, h)) (br ((gI h 3 0 1) ≤ a1) (some (none, h)) (gd (ib a1 100) (lb (gR h 32 0 (ix a1)) (fun o2 => some (o2, h)))))
set_option maxRecDepth 20000 in
theorem tX3_find {X : Cz} {a1 : Int32} {h hE : Hp} {rE : Option Nat} (hF : fX3_find a1 h = some (rE, hE)) : Ct X mX3_find true [zr 3 0, zi a1] h (some (zq 5 rE)) hE := by
  refine Ct_of (by decide) (Nat.le_of_ble_eq_true rfl) (ls := [(0, zr 3 0), (1, zi a1)]) rfl ?_
  unfold fX3_find at hF
  refine v_iload_n (j := 1) dX3_find_0 rfl ?_
  refine v_if_lt dX3_find_1 (by decide : _ = ((21 : Nat) : Int)) (fun q => ?_) (fun q => ?_)
  · replace hF := brT q hF
    refine v_null dX3_find_21 ?_
    obtain ⟨rfl, rfl⟩ := ret_use hF
    exact v_aret rfl dX3_find_22
  · replace hF := brF q hF
    refine v_iload_n (j := 1) dX3_find_4 rfl ?_
    refine v_aload_n (j := 0) dX3_find_5 rfl ?_
    refine v_getI (c := 3) rfl (Or.inl rfl) cz3 flX3_48 dX3_find_6 ?_
    refine v_icmp_ge dX3_find_9 (by decide : _ = ((21 : Nat) : Int)) (fun q => ?_) (fun q => ?_)
    · replace hF := brT q hF
      refine v_null dX3_find_21 ?_
      obtain ⟨rfl, rfl⟩ := ret_use hF
      exact v_aret rfl dX3_find_22
    · replace hF := brF q hF
      refine v_aload_n (j := 0) dX3_find_12 rfl ?_
      refine v_getL (c := 3) rfl rfl rfl ly3_0 cz3 flX3_11 dX3_find_13 ?_
      refine v_iload_n (j := 1) dX3_find_16 rfl ?_
      replace hF := gd_use hF
      obtain ⟨q1, hF⟩ := hF
      refine v_aald (k2 := 5) rfl (by decide) rfl q1 dX3_find_17 ?_
      refine v_topq fun o2 eo2 => ?_
      replace hF := lb_use eo2 hF
      clear eo2
      refine v_goto (tgt := 22) dX3_find_18 (by decide) ?_
      obtain ⟨rfl, rfl⟩ := ret_use hF
      exact v_aret rfl dX3_find_22
theorem dX3_holderOf_0 : decode cX3_holderOf 0 = .ok (.aload_n 0, 1) := by decide +kernel
theorem dX3_holderOf_1 : decode cX3_holderOf 1 = .ok (.iload_n 1, 1) := by decide +kernel
theorem dX3_holderOf_2 : decode cX3_holderOf 2 = .ok (.invokevirtual 52, 3) := by decide +kernel
theorem dX3_holderOf_5 : decode cX3_holderOf 5 = .ok (.astore_n 3, 1) := by decide +kernel
theorem dX3_holderOf_6 : decode cX3_holderOf 6 = .ok (.aload_n 3, 1) := by decide +kernel
theorem dX3_holderOf_7 : decode cX3_holderOf 7 = .ok (.ifnonnull 5, 3) := by decide +kernel
theorem dX3_holderOf_10 : decode cX3_holderOf 10 = .ok (.iconst (-1), 1) := by decide +kernel
theorem dX3_holderOf_11 : decode cX3_holderOf 11 = .ok (.ireturn, 1) := by decide +kernel
theorem dX3_holderOf_12 : decode cX3_holderOf 12 = .ok (.aload_n 3, 1) := by decide +kernel
theorem dX3_holderOf_13 : decode cX3_holderOf 13 = .ok (.getfield 56, 3) := by decide +kernel
theorem dX3_holderOf_16 : decode cX3_holderOf 16 = .ok (.iconst 1, 1) := by decide +kernel
theorem dX3_holderOf_17 : decode cX3_holderOf 17 = .ok (.if_icmp .ne 15, 3) := by decide +kernel
theorem dX3_holderOf_20 : decode cX3_holderOf 20 = .ok (.aload_n 0, 1) := by decide +kernel
theorem dX3_holderOf_21 : decode cX3_holderOf 21 = .ok (.aload_n 3, 1) := by decide +kernel
theorem dX3_holderOf_22 : decode cX3_holderOf 22 = .ok (.getfield 59, 3) := by decide +kernel
theorem dX3_holderOf_25 : decode cX3_holderOf 25 = .ok (.iload_n 2, 1) := by decide +kernel
theorem dX3_holderOf_26 : decode cX3_holderOf 26 = .ok (.invokevirtual 40, 3) := by decide +kernel
theorem dX3_holderOf_29 : decode cX3_holderOf 29 = .ok (.goto 7, 3) := by decide +kernel
theorem dX3_holderOf_32 : decode cX3_holderOf 32 = .ok (.aload_n 3, 1) := by decide +kernel
theorem dX3_holderOf_33 : decode cX3_holderOf 33 = .ok (.getfield 59, 3) := by decide +kernel
theorem dX3_holderOf_36 : decode cX3_holderOf 36 = .ok (.ireturn, 1) := by decide +kernel
def fX3_holderOf (a1 : Int32) (a2 : Int32) (h : Hp) : Option (Int32 × Hp) := bd (fX3_find a1 h) (fun r1 h2 => mt r1 (some ((-1), h2)) (fun z3 => br ((gI h2 5 z3 0) = 1) (bd (fX3_plotOwner (gI h2 5 z3 1) a2 h2) (fun r4 h5 => some (r4, h5))) (some (gI h2 5 z3 1, h2))))
set_option maxRecDepth 20000 in
theorem tX3_holderOf {X : Cz} {a1 : Int32} {a2 : Int32} {h hE : Hp} {rE : Int32} (hF : fX3_holderOf a1 a2 h = some (rE, hE)) : Ct X mX3_holderOf true [zr 3 0, zi a1, zi a2] h (some (zi rE)) hE := by
  refine Ct_of (by decide) (Nat.le_of_ble_eq_true rfl) (ls := [(0, zr 3 0), (1, zi a1), (2, zi a2)]) rfl ?_
  unfold fX3_holderOf at hF
  refine v_aload_n (j := 0) dX3_holderOf_0 rfl ?_
  refine v_iload_n (j := 1) dX3_holderOf_1 rfl ?_
  replace hF := bd_use hF
  obtain ⟨r1, h2, er1, hF⟩ := hF
  refine v_cV (hm := h2) (av := [zi a1]) (st := []) (stn := [zq 5 r1]) (tX3_find er1) lcX3_find mlX3_52 imX3_find seX3_find rfl rfl rfl rfl ⟨by decide, by decide⟩ (Nat.le_of_ble_eq_true rfl) dX3_holderOf_2 rfl rfl ?_
  clear er1
  refine v_astore_n (ls' := [(3, zq 5 r1), (0, zr 3 0), (1, zi a1), (2, zi a2)]) dX3_holderOf_5 (by decide) rfl ?_
  refine v_aload_n (j := 0) dX3_holderOf_6 rfl ?_
  cases r1 with
  | none =>
    replace hF := mtN hF
    refine v_ifnonnullN (tgt := 12) dX3_holderOf_7 (by decide) ?_
    refine v_iconst (v := (-1)) dX3_holderOf_10 (by decide) ?_
    obtain ⟨rfl, rfl⟩ := ret_use hF
    exact v_iret rfl dX3_holderOf_11
  | some z3 =>
    replace hF := mtS hF
    refine v_ifnonnullS (q := (5, z3)) (tgt := 12) dX3_holderOf_7 (by decide) ?_
    refine v_aload_n (j := 0) dX3_holderOf_12 rfl ?_
    refine v_getI (c := 5) rfl (Or.inl rfl) cz5 flX3_56 dX3_holderOf_13 ?_
    refine v_iconst (v := 1) dX3_holderOf_16 (by decide) ?_
    refine v_icmp_ne dX3_holderOf_17 (by decide : _ = ((32 : Nat) : Int)) (fun q => ?_) (fun q => ?_)
    · replace hF := brF q hF
      refine v_aload_n (j := 0) dX3_holderOf_32 rfl ?_
      refine v_getI (c := 5) rfl (Or.inl rfl) cz5 flX3_59 dX3_holderOf_33 ?_
      obtain ⟨rfl, rfl⟩ := ret_use hF
      exact v_iret rfl dX3_holderOf_36
    · replace hF := brT (Decidable.not_not.mp q) hF
      refine v_aload_n (j := 1) dX3_holderOf_20 rfl ?_
      refine v_aload_n (j := 0) dX3_holderOf_21 rfl ?_
      refine v_getI (c := 5) rfl (Or.inl rfl) cz5 flX3_59 dX3_holderOf_22 ?_
      refine v_iload_n (j := 3) dX3_holderOf_25 rfl ?_
      replace hF := bd_use hF
      obtain ⟨r4, h5, er4, hF⟩ := hF
      refine v_cV (hm := h5) (av := [zi (gI h2 5 z3 1), zi a2]) (st := []) (stn := [zi r4]) (tX3_plotOwner er4) lcX3_plotOwner mlX3_40 imX3_plotOwner seX3_plotOwner rfl rfl rfl rfl ⟨by decide, by decide⟩ (Nat.le_of_ble_eq_true rfl) dX3_holderOf_26 rfl rfl ?_
      clear er4
      refine v_goto (tgt := 36) dX3_holderOf_29 (by decide) ?_
      obtain ⟨rfl, rfl⟩ := ret_use hF
      exact v_iret rfl dX3_holderOf_36
theorem dX3_bestFor_0 : decode cX3_bestFor 0 = .ok (.iconst (-1), 1) := by decide +kernel
theorem dX3_bestFor_1 : decode cX3_bestFor 1 = .ok (.istore 6, 2) := by decide +kernel
theorem dX3_bestFor_3 : decode cX3_bestFor 3 = .ok (.iconst 0, 1) := by decide +kernel
theorem dX3_bestFor_4 : decode cX3_bestFor 4 = .ok (.istore 7, 2) := by decide +kernel
theorem dX3_bestFor_6 : decode cX3_bestFor 6 = .ok (.iload 7, 2) := by decide +kernel
theorem dX3_bestFor_8 : decode cX3_bestFor 8 = .ok (.aload_n 0, 1) := by decide +kernel
theorem dX3_bestFor_9 : decode cX3_bestFor 9 = .ok (.getfield 48, 3) := by decide +kernel
theorem dX3_bestFor_12 : decode cX3_bestFor 12 = .ok (.if_icmp .ge 101, 3) := by decide +kernel
theorem dX3_bestFor_15 : decode cX3_bestFor 15 = .ok (.aload_n 0, 1) := by decide +kernel
theorem dX3_bestFor_16 : decode cX3_bestFor 16 = .ok (.iload 7, 2) := by decide +kernel
theorem dX3_bestFor_18 : decode cX3_bestFor 18 = .ok (.invokevirtual 52, 3) := by decide +kernel
theorem dX3_bestFor_21 : decode cX3_bestFor 21 = .ok (.astore 8, 2) := by decide +kernel
theorem dX3_bestFor_23 : decode cX3_bestFor 23 = .ok (.aload 8, 2) := by decide +kernel
theorem dX3_bestFor_25 : decode cX3_bestFor 25 = .ok (.ifnull 82, 3) := by decide +kernel
theorem dX3_bestFor_28 : decode cX3_bestFor 28 = .ok (.aload 8, 2) := by decide +kernel
theorem dX3_bestFor_30 : decode cX3_bestFor 30 = .ok (.iload_n 1, 1) := by decide +kernel
theorem dX3_bestFor_31 : decode cX3_bestFor 31 = .ok (.iload_n 2, 1) := by decide +kernel
theorem dX3_bestFor_32 : decode cX3_bestFor 32 = .ok (.invokevirtual 62, 3) := by decide +kernel
theorem dX3_bestFor_35 : decode cX3_bestFor 35 = .ok (.ifCond .eq 72, 3) := by decide +kernel
theorem dX3_bestFor_38 : decode cX3_bestFor 38 = .ok (.aload 8, 2) := by decide +kernel
theorem dX3_bestFor_40 : decode cX3_bestFor 40 = .ok (.iload_n 3, 1) := by decide +kernel
theorem dX3_bestFor_41 : decode cX3_bestFor 41 = .ok (.iload 4, 2) := by decide +kernel
theorem dX3_bestFor_43 : decode cX3_bestFor 43 = .ok (.invokevirtual 66, 3) := by decide +kernel
theorem dX3_bestFor_46 : decode cX3_bestFor 46 = .ok (.ifCond .ne 6, 3) := by decide +kernel
theorem dX3_bestFor_49 : decode cX3_bestFor 49 = .ok (.goto 58, 3) := by decide +kernel
theorem dX3_bestFor_52 : decode cX3_bestFor 52 = .ok (.aload_n 0, 1) := by decide +kernel
theorem dX3_bestFor_53 : decode cX3_bestFor 53 = .ok (.iload 7, 2) := by decide +kernel
theorem dX3_bestFor_55 : decode cX3_bestFor 55 = .ok (.iload_n 3, 1) := by decide +kernel
theorem dX3_bestFor_56 : decode cX3_bestFor 56 = .ok (.invokevirtual 69, 3) := by decide +kernel
theorem dX3_bestFor_59 : decode cX3_bestFor 59 = .ok (.istore 9, 2) := by decide +kernel
theorem dX3_bestFor_61 : decode cX3_bestFor 61 = .ok (.iload 9, 2) := by decide +kernel
theorem dX3_bestFor_63 : decode cX3_bestFor 63 = .ok (.iconst (-1), 1) := by decide +kernel
theorem dX3_bestFor_64 : decode cX3_bestFor 64 = .ok (.if_icmp .eq 43, 3) := by decide +kernel
theorem dX3_bestFor_67 : decode cX3_bestFor 67 = .ok (.iload 5, 2) := by decide +kernel
theorem dX3_bestFor_69 : decode cX3_bestFor 69 = .ok (.iload 9, 2) := by decide +kernel
theorem dX3_bestFor_71 : decode cX3_bestFor 71 = .ok (.ishr, 1) := by decide +kernel
theorem dX3_bestFor_72 : decode cX3_bestFor 72 = .ok (.iconst 1, 1) := by decide +kernel
theorem dX3_bestFor_73 : decode cX3_bestFor 73 = .ok (.iand, 1) := by decide +kernel
theorem dX3_bestFor_74 : decode cX3_bestFor 74 = .ok (.ifCond .ne 6, 3) := by decide +kernel
theorem dX3_bestFor_77 : decode cX3_bestFor 77 = .ok (.goto 30, 3) := by decide +kernel
theorem dX3_bestFor_80 : decode cX3_bestFor 80 = .ok (.aload_n 0, 1) := by decide +kernel
theorem dX3_bestFor_81 : decode cX3_bestFor 81 = .ok (.iload 6, 2) := by decide +kernel
theorem dX3_bestFor_83 : decode cX3_bestFor 83 = .ok (.invokevirtual 52, 3) := by decide +kernel
theorem dX3_bestFor_86 : decode cX3_bestFor 86 = .ok (.astore 10, 2) := by decide +kernel
theorem dX3_bestFor_88 : decode cX3_bestFor 88 = .ok (.aload 10, 2) := by decide +kernel
theorem dX3_bestFor_90 : decode cX3_bestFor 90 = .ok (.ifnull 13, 3) := by decide +kernel
theorem dX3_bestFor_93 : decode cX3_bestFor 93 = .ok (.aload 8, 2) := by decide +kernel
theorem dX3_bestFor_95 : decode cX3_bestFor 95 = .ok (.aload 10, 2) := by decide +kernel
theorem dX3_bestFor_97 : decode cX3_bestFor 97 = .ok (.invokevirtual 72, 3) := by decide +kernel
theorem dX3_bestFor_100 : decode cX3_bestFor 100 = .ok (.ifCond .eq 7, 3) := by decide +kernel
theorem dX3_bestFor_103 : decode cX3_bestFor 103 = .ok (.iload 7, 2) := by decide +kernel
theorem dX3_bestFor_105 : decode cX3_bestFor 105 = .ok (.istore 6, 2) := by decide +kernel
theorem dX3_bestFor_107 : decode cX3_bestFor 107 = .ok (.iinc 7 1, 3) := by decide +kernel
theorem dX3_bestFor_110 : decode cX3_bestFor 110 = .ok (.goto (-104), 3) := by decide +kernel
theorem dX3_bestFor_113 : decode cX3_bestFor 113 = .ok (.iload 6, 2) := by decide +kernel
theorem dX3_bestFor_115 : decode cX3_bestFor 115 = .ok (.ireturn, 1) := by decide +kernel
def fX3_bestFor_L6 : Nat → Int32 → Int32 → Int32 → Int32 → Int32 → Int32 → Int32 → Hp → Option ((Int32 × Int32) × Hp)
  | 0, _, _, _, _, _, _, _, _ => none
  | n + 1, a1, a2, a3, a4, a5, a6, a7, h => br ((gI h 3 0 1) ≤ a7) (some ((a6, a7), h)) (bd (fX3_find a7 h) (fun r1 h2 => mt r1 (lb (a7 + 1) (fun v4 => fX3_bestFor_L6 n a1 a2 a3 a4 a5 a6 v4 h2)) (fun z3 => br ((fX5_isOn z3 a1 a2 h2) = 0) (lb (a7 + 1) (fun v5 => fX3_bestFor_L6 n a1 a2 a3 a4 a5 a6 v5 h2)) (br ((fX5_isFor z3 a3 a4 h2) = 0) (lb (a7 + 1) (fun v16 => fX3_bestFor_L6 n a1 a2 a3 a4 a5 a6 v16 h2)) (bd (fX3_holderOf a7 a3 h2) (fun r6 h7 => br (r6 = (-1)) (lb (a7 + 1) (fun v8 => fX3_bestFor_L6 n a1 a2 a3 a4 a5 a6 v8 h7)) (br (((a5 >>> (r6 &&& 31)) &&& 1) = 0) (lb (a7 + 1) (fun v15 => fX3_bestFor_L6 n a1 a2 a3 a4 a5 a6 v15 h7)) (bd (fX3_find a6 h7) (fun r9 h10 => mt r9 (lb (a7 + 1) (fun v12 => fX3_bestFor_L6 n a1 a2 a3 a4 a5 a7 v12 h10)) (fun z11 => br ((fX5_isBetterThan z3 z11 h10) = 0) (lb (a7 + 1) (fun v13 => fX3_bestFor_L6 n a1 a2 a3 a4 a5 a6 v13 h10)) (lb (a7 + 1) (fun v14 => fX3_bestFor_L6 n a1 a2 a3 a4 a5 a7 v14 h10))))))))))))
def fX3_bestFor (a1 : Int32) (a2 : Int32) (a3 : Int32) (a4 : Int32) (a5 : Int32) (h : Hp) : Option (Int32 × Hp) := bd (fX3_bestFor_L6 FU a1 a2 a3 a4 a5 (-1) 0 h) (fun t18 h17 => lb t18.1 (fun v19 => lb t18.2 (fun v20 => some (v19, h17))))
set_option maxRecDepth 20000 in
theorem tX3_bestFor_L6 {X : Cz} {h0 : Hp} {r : Option AV} {hE : Hp} : ∀ (n : Nat) (a1 : Int32) (a2 : Int32) (a3 : Int32) (a4 : Int32) (a5 : Int32) (a6 : Int32) (a7 : Int32) (h : Hp) (z : (Int32 × Int32) × Hp), fX3_bestFor_L6 n a1 a2 a3 a4 a5 a6 a7 h = some z → V X mX3_bestFor true h0 113 [(0, zr 3 0), (1, zi a1), (2, zi a2), (3, zi a3), (4, zi a4), (5, zi a5), (6, zi z.1.1), (7, zi z.1.2)] [] z.2 r hE → V X mX3_bestFor true h0 6 [(0, zr 3 0), (1, zi a1), (2, zi a2), (3, zi a3), (4, zi a4), (5, zi a5), (6, zi a6), (7, zi a7)] [] h r hE := by
  intro n
  induction n with
  | zero => intro a1 a2 a3 a4 a5 a6 a7 h z hF k; cases hF
  | succ n ih =>
    intro a1 a2 a3 a4 a5 a6 a7 h z hF k
    rw [fX3_bestFor_L6] at hF
    refine v_iload (j := 7) dX3_bestFor_6 rfl ?_
    refine v_aload_n (j := 0) dX3_bestFor_8 rfl ?_
    refine v_getI (c := 3) rfl (Or.inl rfl) cz3 flX3_48 dX3_bestFor_9 ?_
    refine v_icmp_ge dX3_bestFor_12 (by decide : _ = ((113 : Nat) : Int)) (fun q => ?_) (fun q => ?_)
    · replace hF := brT q hF
      cases hF
      exact k
    · replace hF := brF q hF
      refine v_aload_n (j := 0) dX3_bestFor_15 rfl ?_
      refine v_iload (j := 7) dX3_bestFor_16 rfl ?_
      replace hF := bd_use hF
      obtain ⟨r1, h2, er1, hF⟩ := hF
      refine v_cV (hm := h2) (av := [zi a7]) (st := []) (stn := [zq 5 r1]) (tX3_find er1) lcX3_find mlX3_52 imX3_find seX3_find rfl rfl rfl rfl ⟨by decide, by decide⟩ (Nat.le_of_ble_eq_true rfl) dX3_bestFor_18 rfl rfl ?_
      clear er1
      refine v_astore (ls' := [(8, zq 5 r1), (0, zr 3 0), (1, zi a1), (2, zi a2), (3, zi a3), (4, zi a4), (5, zi a5), (6, zi a6), (7, zi a7)]) dX3_bestFor_21 (by decide) rfl ?_
      refine v_aload (j := 0) dX3_bestFor_23 rfl ?_
      cases r1 with
      | none =>
        replace hF := mtN hF
        refine v_ifnullN (tgt := 107) dX3_bestFor_25 (by decide) ?_
        obtain ⟨v4, ev4⟩ : ∃ y : Int32, y = a7 + 1 := ⟨_, rfl⟩
        replace hF := lb_use ev4 hF
        refine v_iinc (j := 8) (v := v4) (ls' := [(7, zi v4), (8, zo), (0, zr 3 0), (1, zi a1), (2, zi a2), (3, zi a3), (4, zi a4), (5, zi a5), (6, zi a6)]) dX3_bestFor_107 rfl (by rw [ev4]; rfl) (by decide) rfl ?_
        clear ev4
        refine v_goto (tgt := 6) dX3_bestFor_110 (by decide) ?_
        refine v_sub [2, 3, 4, 5, 6, 7, 8, 0] rfl ?_
        exact ih a1 a2 a3 a4 a5 a6 v4 h2 _ hF k
      | some z3 =>
        replace hF := mtS hF
        refine v_ifnullS (q := (5, z3)) (tgt := 107) dX3_bestFor_25 (by decide) ?_
        refine v_aload (j := 0) dX3_bestFor_28 rfl ?_
        refine v_iload_n (j := 2) dX3_bestFor_30 rfl ?_
        refine v_iload_n (j := 3) dX3_bestFor_31 rfl ?_
        refine v_cV (hm := h2) (av := [zi a1, zi a2]) (st := []) (stn := [zi (fX5_isOn z3 a1 a2 h2)]) (tX5_isOn z3 a1 a2 h2) lcX5_isOn mlX3_62 imX5_isOn seX5_isOn rfl rfl rfl rfl ⟨by decide, by decide⟩ (Nat.le_of_ble_eq_true rfl) dX3_bestFor_32 rfl rfl ?_
        refine v_if_eq dX3_bestFor_35 (by decide : _ = ((107 : Nat) : Int)) (fun q => ?_) (fun q => ?_)
        · replace hF := brT q hF
          obtain ⟨v5, ev5⟩ : ∃ y : Int32, y = a7 + 1 := ⟨_, rfl⟩
          replace hF := lb_use ev5 hF
          refine v_iinc (j := 8) (v := v5) (ls' := [(7, zi v5), (8, zr 5 z3), (0, zr 3 0), (1, zi a1), (2, zi a2), (3, zi a3), (4, zi a4), (5, zi a5), (6, zi a6)]) dX3_bestFor_107 rfl (by rw [ev5]; rfl) (by decide) rfl ?_
          clear ev5
          refine v_goto (tgt := 6) dX3_bestFor_110 (by decide) ?_
          refine v_sub [2, 3, 4, 5, 6, 7, 8, 0] rfl ?_
          exact ih a1 a2 a3 a4 a5 a6 v5 h2 _ hF k
        · replace hF := brF q hF
          refine v_aload (j := 0) dX3_bestFor_38 rfl ?_
          refine v_iload_n (j := 4) dX3_bestFor_40 rfl ?_
          refine v_iload (j := 5) dX3_bestFor_41 rfl ?_
          refine v_cV (hm := h2) (av := [zi a3, zi a4]) (st := []) (stn := [zi (fX5_isFor z3 a3 a4 h2)]) (tX5_isFor z3 a3 a4 h2) lcX5_isFor mlX3_66 imX5_isFor seX5_isFor rfl rfl rfl rfl ⟨by decide, by decide⟩ (Nat.le_of_ble_eq_true rfl) dX3_bestFor_43 rfl rfl ?_
          refine v_if_ne dX3_bestFor_46 (by decide : _ = ((52 : Nat) : Int)) (fun q => ?_) (fun q => ?_)
          · replace hF := brF q hF
            refine v_aload_n (j := 1) dX3_bestFor_52 rfl ?_
            refine v_iload (j := 8) dX3_bestFor_53 rfl ?_
            refine v_iload_n (j := 4) dX3_bestFor_55 rfl ?_
            replace hF := bd_use hF
            obtain ⟨r6, h7, er6, hF⟩ := hF
            refine v_cV (hm := h7) (av := [zi a7, zi a3]) (st := []) (stn := [zi r6]) (tX3_holderOf er6) lcX3_holderOf mlX3_69 imX3_holderOf seX3_holderOf rfl rfl rfl rfl ⟨by decide, by decide⟩ (Nat.le_of_ble_eq_true rfl) dX3_bestFor_56 rfl rfl ?_
            clear er6
            refine v_istore (ls' := [(9, zi r6), (8, zr 5 z3), (0, zr 3 0), (1, zi a1), (2, zi a2), (3, zi a3), (4, zi a4), (5, zi a5), (6, zi a6), (7, zi a7)]) dX3_bestFor_59 (by decide) rfl ?_
            refine v_iload (j := 0) dX3_bestFor_61 rfl ?_
            refine v_iconst (v := (-1)) dX3_bestFor_63 (by decide) ?_
            refine v_icmp_eq dX3_bestFor_64 (by decide : _ = ((107 : Nat) : Int)) (fun q => ?_) (fun q => ?_)
            · replace hF := brT q hF
              obtain ⟨v8, ev8⟩ : ∃ y : Int32, y = a7 + 1 := ⟨_, rfl⟩
              replace hF := lb_use ev8 hF
              refine v_iinc (j := 9) (v := v8) (ls' := [(7, zi v8), (9, zi r6), (8, zr 5 z3), (0, zr 3 0), (1, zi a1), (2, zi a2), (3, zi a3), (4, zi a4), (5, zi a5), (6, zi a6)]) dX3_bestFor_107 rfl (by rw [ev8]; rfl) (by decide) rfl ?_
              clear ev8
              refine v_goto (tgt := 6) dX3_bestFor_110 (by decide) ?_
              refine v_sub [3, 4, 5, 6, 7, 8, 9, 0] rfl ?_
              exact ih a1 a2 a3 a4 a5 a6 v8 h7 _ hF k
            · replace hF := brF q hF
              refine v_iload (j := 7) dX3_bestFor_67 rfl ?_
              refine v_iload (j := 0) dX3_bestFor_69 rfl ?_
              refine v_ishr dX3_bestFor_71 ?_
              refine v_iconst (v := 1) dX3_bestFor_72 (by decide) ?_
              refine v_iand dX3_bestFor_73 ?_
              refine v_if_ne dX3_bestFor_74 (by decide : _ = ((80 : Nat) : Int)) (fun q => ?_) (fun q => ?_)
              · replace hF := brF q hF
                refine v_aload_n (j := 2) dX3_bestFor_80 rfl ?_
                refine v_iload (j := 8) dX3_bestFor_81 rfl ?_
                replace hF := bd_use hF
                obtain ⟨r9, h10, er9, hF⟩ := hF
                refine v_cV (hm := h10) (av := [zi a6]) (st := []) (stn := [zq 5 r9]) (tX3_find er9) lcX3_find mlX3_52 imX3_find seX3_find rfl rfl rfl rfl ⟨by decide, by decide⟩ (Nat.le_of_ble_eq_true rfl) dX3_bestFor_83 rfl rfl ?_
                clear er9
                refine v_astore (ls' := [(10, zq 5 r9), (9, zi r6), (8, zr 5 z3), (0, zr 3 0), (1, zi a1), (2, zi a2), (3, zi a3), (4, zi a4), (5, zi a5), (6, zi a6), (7, zi a7)]) dX3_bestFor_86 (by decide) rfl ?_
                refine v_aload (j := 0) dX3_bestFor_88 rfl ?_
                cases r9 with
                | none =>
                  replace hF := mtN hF
                  refine v_ifnullN (tgt := 103) dX3_bestFor_90 (by decide) ?_
                  refine v_iload (j := 10) dX3_bestFor_103 rfl ?_
                  refine v_istore (ls' := [(6, zi a7), (10, zo), (9, zi r6), (8, zr 5 z3), (0, zr 3 0), (1, zi a1), (2, zi a2), (3, zi a3), (4, zi a4), (5, zi a5), (7, zi a7)]) dX3_bestFor_105 (by decide) rfl ?_
                  obtain ⟨v12, ev12⟩ : ∃ y : Int32, y = a7 + 1 := ⟨_, rfl⟩
                  replace hF := lb_use ev12 hF
                  refine v_iinc (j := 10) (v := v12) (ls' := [(7, zi v12), (6, zi a7), (10, zo), (9, zi r6), (8, zr 5 z3), (0, zr 3 0), (1, zi a1), (2, zi a2), (3, zi a3), (4, zi a4), (5, zi a5)]) dX3_bestFor_107 rfl (by rw [ev12]; rfl) (by decide) rfl ?_
                  clear ev12
                  refine v_goto (tgt := 6) dX3_bestFor_110 (by decide) ?_
                  refine v_sub [5, 6, 7, 8, 9, 10, 1, 0] rfl ?_
                  exact ih a1 a2 a3 a4 a5 a7 v12 h10 _ hF k
                | some z11 =>
                  replace hF := mtS hF
                  refine v_ifnullS (q := (5, z11)) (tgt := 103) dX3_bestFor_90 (by decide) ?_
                  refine v_aload (j := 2) dX3_bestFor_93 rfl ?_
                  refine v_aload (j := 0) dX3_bestFor_95 rfl ?_
                  refine v_cV (hm := h10) (av := [zr 5 z11]) (st := []) (stn := [zi (fX5_isBetterThan z3 z11 h10)]) (tX5_isBetterThan z3 z11 h10) lcX5_isBetterThan mlX3_72 imX5_isBetterThan seX5_isBetterThan rfl rfl rfl rfl ⟨by decide, by decide⟩ (Nat.le_of_ble_eq_true rfl) dX3_bestFor_97 rfl rfl ?_
                  refine v_if_eq dX3_bestFor_100 (by decide : _ = ((107 : Nat) : Int)) (fun q => ?_) (fun q => ?_)
                  · replace hF := brT q hF
                    obtain ⟨v13, ev13⟩ : ∃ y : Int32, y = a7 + 1 := ⟨_, rfl⟩
                    replace hF := lb_use ev13 hF
                    refine v_iinc (j := 10) (v := v13) (ls' := [(7, zi v13), (10, zr 5 z11), (9, zi r6), (8, zr 5 z3), (0, zr 3 0), (1, zi a1), (2, zi a2), (3, zi a3), (4, zi a4), (5, zi a5), (6, zi a6)]) dX3_bestFor_107 rfl (by rw [ev13]; rfl) (by decide) rfl ?_
                    clear ev13
                    refine v_goto (tgt := 6) dX3_bestFor_110 (by decide) ?_
                    refine v_sub [4, 5, 6, 7, 8, 9, 10, 0] rfl ?_
                    exact ih a1 a2 a3 a4 a5 a6 v13 h10 _ hF k
                  · replace hF := brF q hF
                    refine v_iload (j := 10) dX3_bestFor_103 rfl ?_
                    refine v_istore (ls' := [(6, zi a7), (10, zr 5 z11), (9, zi r6), (8, zr 5 z3), (0, zr 3 0), (1, zi a1), (2, zi a2), (3, zi a3), (4, zi a4), (5, zi a5), (7, zi a7)]) dX3_bestFor_105 (by decide) rfl ?_
                    obtain ⟨v14, ev14⟩ : ∃ y : Int32, y = a7 + 1 := ⟨_, rfl⟩
                    replace hF := lb_use ev14 hF
                    refine v_iinc (j := 10) (v := v14) (ls' := [(7, zi v14), (6, zi a7), (10, zr 5 z11), (9, zi r6), (8, zr 5 z3), (0, zr 3 0), (1, zi a1), (2, zi a2), (3, zi a3), (4, zi a4), (5, zi a5)]) dX3_bestFor_107 rfl (by rw [ev14]; rfl) (by decide) rfl ?_
                    clear ev14
                    refine v_goto (tgt := 6) dX3_bestFor_110 (by decide) ?_
                    refine v_sub [5, 6, 7, 8, 9, 10, 1, 0] rfl ?_
                    exact ih a1 a2 a3 a4 a5 a7 v14 h10 _ hF k
              · replace hF := brT (Decidable.not_not.mp q) hF
                refine v_goto (tgt := 107) dX3_bestFor_77 (by decide) ?_
                obtain ⟨v15, ev15⟩ : ∃ y : Int32, y = a7 + 1 := ⟨_, rfl⟩
                replace hF := lb_use ev15 hF
                refine v_iinc (j := 9) (v := v15) (ls' := [(7, zi v15), (9, zi r6), (8, zr 5 z3), (0, zr 3 0), (1, zi a1), (2, zi a2), (3, zi a3), (4, zi a4), (5, zi a5), (6, zi a6)]) dX3_bestFor_107 rfl (by rw [ev15]; rfl) (by decide) rfl ?_
                clear ev15
                refine v_goto (tgt := 6) dX3_bestFor_110 (by decide) ?_
                refine v_sub [3, 4, 5, 6, 7, 8, 9, 0] rfl ?_
                exact ih a1 a2 a3 a4 a5 a6 v15 h7 _ hF k
          · replace hF := brT (Decidable.not_not.mp q) hF
            refine v_goto (tgt := 107) dX3_bestFor_49 (by decide) ?_
            obtain ⟨v16, ev16⟩ : ∃ y : Int32, y = a7 + 1 := ⟨_, rfl⟩
            replace hF := lb_use ev16 hF
            refine v_iinc (j := 8) (v := v16) (ls' := [(7, zi v16), (8, zr 5 z3), (0, zr 3 0), (1, zi a1), (2, zi a2), (3, zi a3), (4, zi a4), (5, zi a5), (6, zi a6)]) dX3_bestFor_107 rfl (by rw [ev16]; rfl) (by decide) rfl ?_
            clear ev16
            refine v_goto (tgt := 6) dX3_bestFor_110 (by decide) ?_
            refine v_sub [2, 3, 4, 5, 6, 7, 8, 0] rfl ?_
            exact ih a1 a2 a3 a4 a5 a6 v16 h2 _ hF k
set_option maxRecDepth 20000 in
theorem tX3_bestFor {X : Cz} {a1 : Int32} {a2 : Int32} {a3 : Int32} {a4 : Int32} {a5 : Int32} {h hE : Hp} {rE : Int32} (hF : fX3_bestFor a1 a2 a3 a4 a5 h = some (rE, hE)) : Ct X mX3_bestFor true [zr 3 0, zi a1, zi a2, zi a3, zi a4, zi a5] h (some (zi rE)) hE := by
  refine Ct_of (by decide) (Nat.le_of_ble_eq_true rfl) (ls := [(0, zr 3 0), (1, zi a1), (2, zi a2), (3, zi a3), (4, zi a4), (5, zi a5)]) rfl ?_
  unfold fX3_bestFor at hF
  refine v_iconst (v := (-1)) dX3_bestFor_0 (by decide) ?_
  refine v_istore (ls' := [(6, zi (-1)), (0, zr 3 0), (1, zi a1), (2, zi a2), (3, zi a3), (4, zi a4), (5, zi a5)]) dX3_bestFor_1 (by decide) rfl ?_
  refine v_iconst (v := 0) dX3_bestFor_3 (by decide) ?_
  refine v_istore (ls' := [(7, zi 0), (6, zi (-1)), (0, zr 3 0), (1, zi a1), (2, zi a2), (3, zi a3), (4, zi a4), (5, zi a5)]) dX3_bestFor_4 (by decide) rfl ?_
  refine v_sub [2, 3, 4, 5, 6, 7, 1, 0] rfl ?_
  replace hF := bd_use hF
  obtain ⟨t18, h17, et18, hF⟩ := hF
  refine tX3_bestFor_L6 _ a1 a2 a3 a4 a5 (-1) 0 h _ et18 ?_
  clear et18
  obtain ⟨v19, v20⟩ := t18
  replace hF := lb_use (x := v19) rfl hF
  replace hF := lb_use (x := v20) rfl hF
  refine v_iload (j := 6) dX3_bestFor_113 rfl ?_
  obtain ⟨rfl, rfl⟩ := ret_use hF
  exact v_iret rfl dX3_bestFor_115
theorem dX3_markBest_0 : decode cX3_markBest 0 = .ok (.aload_n 1, 1) := by decide +kernel
theorem dX3_markBest_1 : decode cX3_markBest 1 = .ok (.getfield 80, 3) := by decide +kernel
theorem dX3_markBest_4 : decode cX3_markBest 4 = .ok (.bipush 32, 2) := by decide +kernel
theorem dX3_markBest_6 : decode cX3_markBest 6 = .ok (.imul, 1) := by decide +kernel
theorem dX3_markBest_7 : decode cX3_markBest 7 = .ok (.aload_n 1, 1) := by decide +kernel
theorem dX3_markBest_8 : decode cX3_markBest 8 = .ok (.getfield 83, 3) := by decide +kernel
theorem dX3_markBest_11 : decode cX3_markBest 11 = .ok (.iadd, 1) := by decide +kernel
theorem dX3_markBest_12 : decode cX3_markBest 12 = .ok (.istore_n 3, 1) := by decide +kernel
theorem dX3_markBest_13 : decode cX3_markBest 13 = .ok (.iload_n 3, 1) := by decide +kernel
theorem dX3_markBest_14 : decode cX3_markBest 14 = .ok (.istore 4, 2) := by decide +kernel
theorem dX3_markBest_16 : decode cX3_markBest 16 = .ok (.iload 4, 2) := by decide +kernel
theorem dX3_markBest_18 : decode cX3_markBest 18 = .ok (.iload_n 3, 1) := by decide +kernel
theorem dX3_markBest_19 : decode cX3_markBest 19 = .ok (.aload_n 1, 1) := by decide +kernel
theorem dX3_markBest_20 : decode cX3_markBest 20 = .ok (.getfield 86, 3) := by decide +kernel
theorem dX3_markBest_23 : decode cX3_markBest 23 = .ok (.iadd, 1) := by decide +kernel
theorem dX3_markBest_24 : decode cX3_markBest 24 = .ok (.if_icmp .ge 54, 3) := by decide +kernel
theorem dX3_markBest_27 : decode cX3_markBest 27 = .ok (.iload 4, 2) := by decide +kernel
theorem dX3_markBest_29 : decode cX3_markBest 29 = .ok (.aload_n 0, 1) := by decide +kernel
theorem dX3_markBest_30 : decode cX3_markBest 30 = .ok (.getfield 21, 3) := by decide +kernel
theorem dX3_markBest_33 : decode cX3_markBest 33 = .ok (.arraylength, 1) := by decide +kernel
theorem dX3_markBest_34 : decode cX3_markBest 34 = .ok (.if_icmp .ge 44, 3) := by decide +kernel
theorem dX3_markBest_37 : decode cX3_markBest 37 = .ok (.aload_n 0, 1) := by decide +kernel
theorem dX3_markBest_38 : decode cX3_markBest 38 = .ok (.aload_n 0, 1) := by decide +kernel
theorem dX3_markBest_39 : decode cX3_markBest 39 = .ok (.getfield 21, 3) := by decide +kernel
theorem dX3_markBest_42 : decode cX3_markBest 42 = .ok (.iload 4, 2) := by decide +kernel
theorem dX3_markBest_44 : decode cX3_markBest 44 = .ok (.iaload, 1) := by decide +kernel
theorem dX3_markBest_45 : decode cX3_markBest 45 = .ok (.invokevirtual 52, 3) := by decide +kernel
theorem dX3_markBest_48 : decode cX3_markBest 48 = .ok (.astore 5, 2) := by decide +kernel
theorem dX3_markBest_50 : decode cX3_markBest 50 = .ok (.aload 5, 2) := by decide +kernel
theorem dX3_markBest_52 : decode cX3_markBest 52 = .ok (.ifnull 12, 3) := by decide +kernel
theorem dX3_markBest_55 : decode cX3_markBest 55 = .ok (.aload_n 1, 1) := by decide +kernel
theorem dX3_markBest_56 : decode cX3_markBest 56 = .ok (.aload 5, 2) := by decide +kernel
theorem dX3_markBest_58 : decode cX3_markBest 58 = .ok (.invokevirtual 72, 3) := by decide +kernel
theorem dX3_markBest_61 : decode cX3_markBest 61 = .ok (.ifCond .eq 11, 3) := by decide +kernel
theorem dX3_markBest_64 : decode cX3_markBest 64 = .ok (.aload_n 0, 1) := by decide +kernel
theorem dX3_markBest_65 : decode cX3_markBest 65 = .ok (.getfield 21, 3) := by decide +kernel
theorem dX3_markBest_68 : decode cX3_markBest 68 = .ok (.iload 4, 2) := by decide +kernel
theorem dX3_markBest_70 : decode cX3_markBest 70 = .ok (.iload_n 2, 1) := by decide +kernel
theorem dX3_markBest_71 : decode cX3_markBest 71 = .ok (.iastore, 1) := by decide +kernel
theorem dX3_markBest_72 : decode cX3_markBest 72 = .ok (.iinc 4 1, 3) := by decide +kernel
theorem dX3_markBest_75 : decode cX3_markBest 75 = .ok (.goto (-59), 3) := by decide +kernel
theorem dX3_markBest_78 : decode cX3_markBest 78 = .ok (.return_, 1) := by decide +kernel
def fX3_markBest_L16 : Nat → Nat → Int32 → Int32 → Int32 → Hp → Option ((Int32) × Hp)
  | 0, _, _, _, _, _ => none
  | n + 1, a1, a2, a3, a4, h => br ((a3 + (gI h 5 a1 4)) ≤ a4) (some ((a4), h)) (br (((Int32.ofNat 256)) ≤ a4) (some ((a4), h)) (gd (ib a4 256) (bd (fX3_find (gI h 34 0 (ix a4)) h) (fun r3 h4 => lb (fun (h6 : Hp) => gd (ib a4 256) (lb (sI h6 34 0 (ix a4) a2) (fun h8 => lb (a4 + 1) (fun v9 => fX3_markBest_L16 n a1 a2 a3 v9 h8)))) (fun j5 => mt r3 (j5 h4) (fun z10 => br ((fX5_isBetterThan a1 z10 h4) = 0) (lb (a4 + 1) (fun v11 => fX3_markBest_L16 n a1 a2 a3 v11 h4)) (j5 h4)))))))
def fX3_markBest (a1 : Nat) (a2 : Int32) (h : Hp) : Option (Unit × Hp) := lb (((gI h 5 a1 2) * 32) + (gI h 5 a1 3)) (fun v1 => bd (fX3_markBest_L16 FU a1 a2 v1 v1 h) (fun v14 h12 => some ((), h12)))
set_option maxRecDepth 20000 in
theorem tX3_markBest_L16 {X : Cz} {h0 : Hp} {r : Option AV} {hE : Hp} : ∀ (n : Nat) (a1 : Nat) (a2 : Int32) (a3 : Int32) (a4 : Int32) (h : Hp) (z : (Int32) × Hp), fX3_markBest_L16 n a1 a2 a3 a4 h = some z → V X mX3_markBest true h0 78 [(0, zr 3 0), (1, zr 5 a1), (2, zi a2), (3, zi a3), (4, zi z.1)] [] z.2 r hE → V X mX3_markBest true h0 16 [(0, zr 3 0), (1, zr 5 a1), (2, zi a2), (3, zi a3), (4, zi a4)] [] h r hE := by
  intro n
  induction n with
  | zero => intro a1 a2 a3 a4 h z hF k; cases hF
  | succ n ih =>
    intro a1 a2 a3 a4 h z hF k
    rw [fX3_markBest_L16] at hF
    refine v_iload (j := 4) dX3_markBest_16 rfl ?_
    refine v_iload_n (j := 3) dX3_markBest_18 rfl ?_
    refine v_aload_n (j := 1) dX3_markBest_19 rfl ?_
    refine v_getI (c := 5) rfl (Or.inl rfl) cz5 flX3_86 dX3_markBest_20 ?_
    refine v_iadd dX3_markBest_23 ?_
    refine v_icmp_ge dX3_markBest_24 (by decide : _ = ((78 : Nat) : Int)) (fun q => ?_) (fun q => ?_)
    · replace hF := brT q hF
      cases hF
      exact k
    · replace hF := brF q hF
      refine v_iload (j := 4) dX3_markBest_27 rfl ?_
      refine v_aload_n (j := 0) dX3_markBest_29 rfl ?_
      refine v_getL (c := 3) rfl rfl rfl ly3_4 cz3 flX3_21 dX3_markBest_30 ?_
      refine v_alen rfl dX3_markBest_33 ?_
      refine v_icmp_ge dX3_markBest_34 (by decide : _ = ((78 : Nat) : Int)) (fun q => ?_) (fun q => ?_)
      · replace hF := brT q hF
        cases hF
        exact k
      · replace hF := brF q hF
        refine v_aload_n (j := 0) dX3_markBest_37 rfl ?_
        refine v_aload_n (j := 0) dX3_markBest_38 rfl ?_
        refine v_getL (c := 3) rfl rfl rfl ly3_4 cz3 flX3_21 dX3_markBest_39 ?_
        refine v_iload (j := 4) dX3_markBest_42 rfl ?_
        replace hF := gd_use hF
        obtain ⟨q2, hF⟩ := hF
        refine v_iald rfl q2 dX3_markBest_44 ?_
        replace hF := bd_use hF
        obtain ⟨r3, h4, er3, hF⟩ := hF
        refine v_cV (hm := h4) (av := [zi (gI h 34 0 (ix a4))]) (st := []) (stn := [zq 5 r3]) (tX3_find er3) lcX3_find mlX3_52 imX3_find seX3_find rfl rfl rfl rfl ⟨by decide, by decide⟩ (Nat.le_of_ble_eq_true rfl) dX3_markBest_45 rfl rfl ?_
        clear er3
        refine v_astore (ls' := [(5, zq 5 r3), (0, zr 3 0), (1, zr 5 a1), (2, zi a2), (3, zi a3), (4, zi a4)]) dX3_markBest_48 (by decide) rfl ?_
        refine v_aload (j := 0) dX3_markBest_50 rfl ?_
        replace hF := lb_ex hF
        obtain ⟨j5, ej5, hF⟩ := hF
        have j5V : ∀ (h6 : Hp), j5 h6 = some z → V X mX3_markBest true h0 64 [(0, zr 3 0), (1, zr 5 a1), (2, zi a2), (3, zi a3), (4, zi a4)] [] h6 r hE := by
          intro h6 hF
          subst ej5
          refine v_aload_n (j := 0) dX3_markBest_64 rfl ?_
          refine v_getL (c := 3) rfl rfl rfl ly3_4 cz3 flX3_21 dX3_markBest_65 ?_
          refine v_iload (j := 4) dX3_markBest_68 rfl ?_
          refine v_iload_n (j := 2) dX3_markBest_70 rfl ?_
          replace hF := gd_use hF
          obtain ⟨q7, hF⟩ := hF
          refine v_iast rfl q7 dX3_markBest_71 ?_
          refine v_toph fun h8 eh8 => ?_
          replace hF := lb_use eh8 hF
          clear eh8
          obtain ⟨v9, ev9⟩ : ∃ y : Int32, y = a4 + 1 := ⟨_, rfl⟩
          replace hF := lb_use ev9 hF
          refine v_iinc (j := 4) (v := v9) (ls' := [(4, zi v9), (0, zr 3 0), (1, zr 5 a1), (2, zi a2), (3, zi a3)]) dX3_markBest_72 rfl (by rw [ev9]; rfl) (by decide) rfl ?_
          clear ev9
          refine v_goto (tgt := 16) dX3_markBest_75 (by decide) ?_
          refine v_sub [1, 2, 3, 4, 0] rfl ?_
          exact ih a1 a2 a3 v9 h8 _ hF k
        clear ej5
        cases r3 with
        | none =>
          replace hF := mtN hF
          refine v_ifnullN (tgt := 64) dX3_markBest_52 (by decide) ?_
          refine v_sub [1, 2, 3, 4, 5] rfl ?_
          exact j5V h4 hF
        | some z10 =>
          replace hF := mtS hF
          refine v_ifnullS (q := (5, z10)) (tgt := 64) dX3_markBest_52 (by decide) ?_
          refine v_aload_n (j := 2) dX3_markBest_55 rfl ?_
          refine v_aload (j := 0) dX3_markBest_56 rfl ?_
          refine v_cV (hm := h4) (av := [zr 5 z10]) (st := []) (stn := [zi (fX5_isBetterThan a1 z10 h4)]) (tX5_isBetterThan a1 z10 h4) lcX5_isBetterThan mlX3_72 imX5_isBetterThan seX5_isBetterThan rfl rfl rfl rfl ⟨by decide, by decide⟩ (Nat.le_of_ble_eq_true rfl) dX3_markBest_58 rfl rfl ?_
          refine v_if_eq dX3_markBest_61 (by decide : _ = ((72 : Nat) : Int)) (fun q => ?_) (fun q => ?_)
          · replace hF := brT q hF
            obtain ⟨v11, ev11⟩ : ∃ y : Int32, y = a4 + 1 := ⟨_, rfl⟩
            replace hF := lb_use ev11 hF
            refine v_iinc (j := 5) (v := v11) (ls' := [(4, zi v11), (5, zr 5 z10), (0, zr 3 0), (1, zr 5 a1), (2, zi a2), (3, zi a3)]) dX3_markBest_72 rfl (by rw [ev11]; rfl) (by decide) rfl ?_
            clear ev11
            refine v_goto (tgt := 16) dX3_markBest_75 (by decide) ?_
            refine v_sub [2, 3, 4, 5, 0] rfl ?_
            exact ih a1 a2 a3 v11 h4 _ hF k
          · replace hF := brF q hF
            refine v_sub [1, 2, 3, 4, 5] rfl ?_
            exact j5V h4 hF
set_option maxRecDepth 20000 in
theorem tX3_markBest {X : Cz} {a1 : Nat} {a2 : Int32} {h hE : Hp} {rE : Unit} (hF : fX3_markBest a1 a2 h = some (rE, hE)) : Ct X mX3_markBest true [zr 3 0, zr 5 a1, zi a2] h (none) hE := by
  refine Ct_of (by decide) (Nat.le_of_ble_eq_true rfl) (ls := [(0, zr 3 0), (1, zr 5 a1), (2, zi a2)]) rfl ?_
  unfold fX3_markBest at hF
  refine v_aload_n (j := 1) dX3_markBest_0 rfl ?_
  refine v_getI (c := 5) rfl (Or.inl rfl) cz5 flX3_80 dX3_markBest_1 ?_
  refine v_bipush (v := 32) dX3_markBest_4 (by decide) ?_
  refine v_imul dX3_markBest_6 ?_
  refine v_aload_n (j := 1) dX3_markBest_7 rfl ?_
  refine v_getI (c := 5) rfl (Or.inl rfl) cz5 flX3_83 dX3_markBest_8 ?_
  refine v_iadd dX3_markBest_11 ?_
  refine v_topi fun v1 ev1 => ?_
  replace hF := lb_use ev1 hF
  clear ev1
  refine v_istore_n (ls' := [(3, zi v1), (0, zr 3 0), (1, zr 5 a1), (2, zi a2)]) dX3_markBest_12 (by decide) rfl ?_
  refine v_iload_n (j := 0) dX3_markBest_13 rfl ?_
  refine v_istore (ls' := [(4, zi v1), (3, zi v1), (0, zr 3 0), (1, zr 5 a1), (2, zi a2)]) dX3_markBest_14 (by decide) rfl ?_
  refine v_sub [2, 3, 4, 1, 0] rfl ?_
  replace hF := bd_use hF
  obtain ⟨v14, h12, ev14, hF⟩ := hF
  refine tX3_markBest_L16 _ a1 a2 v1 v1 h _ ev14 ?_
  clear ev14
  cases hF
  exact v_vret rfl dX3_markBest_78
theorem dX3_fillOwners_0 : decode cX3_fillOwners 0 = .ok (.aload_n 0, 1) := by decide +kernel
theorem dX3_fillOwners_1 : decode cX3_fillOwners 1 = .ok (.getfield 21, 3) := by decide +kernel
theorem dX3_fillOwners_4 : decode cX3_fillOwners 4 = .ok (.iconst (-1), 1) := by decide +kernel
theorem dX3_fillOwners_5 : decode cX3_fillOwners 5 = .ok (.invokestatic 24, 3) := by decide +kernel
theorem dX3_fillOwners_8 : decode cX3_fillOwners 8 = .ok (.iconst 0, 1) := by decide +kernel
theorem dX3_fillOwners_9 : decode cX3_fillOwners 9 = .ok (.istore_n 3, 1) := by decide +kernel
theorem dX3_fillOwners_10 : decode cX3_fillOwners 10 = .ok (.iload_n 3, 1) := by decide +kernel
theorem dX3_fillOwners_11 : decode cX3_fillOwners 11 = .ok (.aload_n 0, 1) := by decide +kernel
theorem dX3_fillOwners_12 : decode cX3_fillOwners 12 = .ok (.getfield 48, 3) := by decide +kernel
theorem dX3_fillOwners_15 : decode cX3_fillOwners 15 = .ok (.if_icmp .ge 48, 3) := by decide +kernel
theorem dX3_fillOwners_18 : decode cX3_fillOwners 18 = .ok (.aload_n 0, 1) := by decide +kernel
theorem dX3_fillOwners_19 : decode cX3_fillOwners 19 = .ok (.iload_n 3, 1) := by decide +kernel
theorem dX3_fillOwners_20 : decode cX3_fillOwners 20 = .ok (.invokevirtual 52, 3) := by decide +kernel
theorem dX3_fillOwners_23 : decode cX3_fillOwners 23 = .ok (.astore 4, 2) := by decide +kernel
theorem dX3_fillOwners_25 : decode cX3_fillOwners 25 = .ok (.aload 4, 2) := by decide +kernel
theorem dX3_fillOwners_27 : decode cX3_fillOwners 27 = .ok (.ifnull 30, 3) := by decide +kernel
theorem dX3_fillOwners_30 : decode cX3_fillOwners 30 = .ok (.aload 4, 2) := by decide +kernel
theorem dX3_fillOwners_32 : decode cX3_fillOwners 32 = .ok (.iload_n 1, 1) := by decide +kernel
theorem dX3_fillOwners_33 : decode cX3_fillOwners 33 = .ok (.iload_n 1, 1) := by decide +kernel
theorem dX3_fillOwners_34 : decode cX3_fillOwners 34 = .ok (.invokevirtual 66, 3) := by decide +kernel
theorem dX3_fillOwners_37 : decode cX3_fillOwners 37 = .ok (.ifCond .eq 20, 3) := by decide +kernel
theorem dX3_fillOwners_40 : decode cX3_fillOwners 40 = .ok (.aload_n 0, 1) := by decide +kernel
theorem dX3_fillOwners_41 : decode cX3_fillOwners 41 = .ok (.iload_n 3, 1) := by decide +kernel
theorem dX3_fillOwners_42 : decode cX3_fillOwners 42 = .ok (.iload_n 1, 1) := by decide +kernel
theorem dX3_fillOwners_43 : decode cX3_fillOwners 43 = .ok (.invokevirtual 69, 3) := by decide +kernel
theorem dX3_fillOwners_46 : decode cX3_fillOwners 46 = .ok (.iconst (-1), 1) := by decide +kernel
theorem dX3_fillOwners_47 : decode cX3_fillOwners 47 = .ok (.if_icmp .eq 10, 3) := by decide +kernel
theorem dX3_fillOwners_50 : decode cX3_fillOwners 50 = .ok (.aload_n 0, 1) := by decide +kernel
theorem dX3_fillOwners_51 : decode cX3_fillOwners 51 = .ok (.aload 4, 2) := by decide +kernel
theorem dX3_fillOwners_53 : decode cX3_fillOwners 53 = .ok (.iload_n 3, 1) := by decide +kernel
theorem dX3_fillOwners_54 : decode cX3_fillOwners 54 = .ok (.invokevirtual 76, 3) := by decide +kernel
theorem dX3_fillOwners_57 : decode cX3_fillOwners 57 = .ok (.iinc 3 1, 3) := by decide +kernel
theorem dX3_fillOwners_60 : decode cX3_fillOwners 60 = .ok (.goto (-50), 3) := by decide +kernel
theorem dX3_fillOwners_63 : decode cX3_fillOwners 63 = .ok (.iconst 0, 1) := by decide +kernel
theorem dX3_fillOwners_64 : decode cX3_fillOwners 64 = .ok (.istore_n 3, 1) := by decide +kernel
theorem dX3_fillOwners_65 : decode cX3_fillOwners 65 = .ok (.iload_n 3, 1) := by decide +kernel
theorem dX3_fillOwners_66 : decode cX3_fillOwners 66 = .ok (.aload_n 0, 1) := by decide +kernel
theorem dX3_fillOwners_67 : decode cX3_fillOwners 67 = .ok (.getfield 21, 3) := by decide +kernel
theorem dX3_fillOwners_70 : decode cX3_fillOwners 70 = .ok (.arraylength, 1) := by decide +kernel
theorem dX3_fillOwners_71 : decode cX3_fillOwners 71 = .ok (.if_icmp .ge 29, 3) := by decide +kernel
theorem dX3_fillOwners_74 : decode cX3_fillOwners 74 = .ok (.iload_n 3, 1) := by decide +kernel
theorem dX3_fillOwners_75 : decode cX3_fillOwners 75 = .ok (.aload_n 2, 1) := by decide +kernel
theorem dX3_fillOwners_76 : decode cX3_fillOwners 76 = .ok (.arraylength, 1) := by decide +kernel
theorem dX3_fillOwners_77 : decode cX3_fillOwners 77 = .ok (.if_icmp .ge 23, 3) := by decide +kernel
theorem dX3_fillOwners_80 : decode cX3_fillOwners 80 = .ok (.aload_n 2, 1) := by decide +kernel
theorem dX3_fillOwners_81 : decode cX3_fillOwners 81 = .ok (.iload_n 3, 1) := by decide +kernel
theorem dX3_fillOwners_82 : decode cX3_fillOwners 82 = .ok (.aload_n 0, 1) := by decide +kernel
theorem dX3_fillOwners_83 : decode cX3_fillOwners 83 = .ok (.aload_n 0, 1) := by decide +kernel
theorem dX3_fillOwners_84 : decode cX3_fillOwners 84 = .ok (.getfield 21, 3) := by decide +kernel
theorem dX3_fillOwners_87 : decode cX3_fillOwners 87 = .ok (.iload_n 3, 1) := by decide +kernel
theorem dX3_fillOwners_88 : decode cX3_fillOwners 88 = .ok (.iaload, 1) := by decide +kernel
theorem dX3_fillOwners_89 : decode cX3_fillOwners 89 = .ok (.iload_n 1, 1) := by decide +kernel
theorem dX3_fillOwners_90 : decode cX3_fillOwners 90 = .ok (.invokevirtual 69, 3) := by decide +kernel
theorem dX3_fillOwners_93 : decode cX3_fillOwners 93 = .ok (.iastore, 1) := by decide +kernel
theorem dX3_fillOwners_94 : decode cX3_fillOwners 94 = .ok (.iinc 3 1, 3) := by decide +kernel
theorem dX3_fillOwners_97 : decode cX3_fillOwners 97 = .ok (.goto (-32), 3) := by decide +kernel
theorem dX3_fillOwners_100 : decode cX3_fillOwners 100 = .ok (.return_, 1) := by decide +kernel
def fX3_fillOwners_L10 : Nat → Int32 → Int32 → Hp → Option ((Int32) × Hp)
  | 0, _, _, _ => none
  | n + 1, a1, a3, h => br ((gI h 3 0 1) ≤ a3) (some ((a3), h)) (bd (fX3_find a3 h) (fun r2 h3 => mt r2 (lb (a3 + 1) (fun v5 => fX3_fillOwners_L10 n a1 v5 h3)) (fun z4 => br ((fX5_isFor z4 a1 a1 h3) = 0) (lb (a3 + 1) (fun v6 => fX3_fillOwners_L10 n a1 v6 h3)) (bd (fX3_holderOf a3 a1 h3) (fun r7 h8 => br (r7 = (-1)) (lb (a3 + 1) (fun v9 => fX3_fillOwners_L10 n a1 v9 h8)) (bd (fX3_markBest z4 a3 h8) (fun r10 h11 => lb (a3 + 1) (fun v12 => fX3_fillOwners_L10 n a1 v12 h11))))))))
def fX3_fillOwners_L65 : Nat → Int32 → Int32 → Hp → Option ((Int32) × Hp)
  | 0, _, _, _ => none
  | n + 1, a1, a3, h => br (((Int32.ofNat 256)) ≤ a3) (some ((a3), h)) (br (((Int32.ofNat 256)) ≤ a3) (some ((a3), h)) (gd (ib a3 256) (bd (fX3_holderOf (gI h 34 0 (ix a3)) a1 h) (fun r17 h18 => gd (ib a3 256) (lb (sI h18 53 0 (ix a3) r17) (fun h20 => lb (a3 + 1) (fun v21 => fX3_fillOwners_L65 n a1 v21 h20)))))))
def fX3_fillOwners (a1 : Int32) (h : Hp) : Option (Unit × Hp) := lb (flI h 34 0 0 256 (-1)) (fun h1 => bd (fX3_fillOwners_L10 FU a1 0 h1) (fun v15 h13 => bd (fX3_fillOwners_L65 FU a1 0 h13) (fun v24 h22 => some ((), h22))))
set_option maxRecDepth 20000 in
theorem tX3_fillOwners_L10 {X : Cz} {h0 : Hp} {r : Option AV} {hE : Hp} : ∀ (n : Nat) (a1 : Int32) (a3 : Int32) (h : Hp) (z : (Int32) × Hp), fX3_fillOwners_L10 n a1 a3 h = some z → V X mX3_fillOwners true h0 63 [(0, zr 3 0), (1, zi a1), (2, zr 53 0), (3, zi z.1)] [] z.2 r hE → V X mX3_fillOwners true h0 10 [(0, zr 3 0), (1, zi a1), (2, zr 53 0), (3, zi a3)] [] h r hE := by
  intro n
  induction n with
  | zero => intro a1 a3 h z hF k; cases hF
  | succ n ih =>
    intro a1 a3 h z hF k
    rw [fX3_fillOwners_L10] at hF
    refine v_iload_n (j := 3) dX3_fillOwners_10 rfl ?_
    refine v_aload_n (j := 0) dX3_fillOwners_11 rfl ?_
    refine v_getI (c := 3) rfl (Or.inl rfl) cz3 flX3_48 dX3_fillOwners_12 ?_
    refine v_icmp_ge dX3_fillOwners_15 (by decide : _ = ((63 : Nat) : Int)) (fun q => ?_) (fun q => ?_)
    · replace hF := brT q hF
      cases hF
      exact k
    · replace hF := brF q hF
      refine v_aload_n (j := 0) dX3_fillOwners_18 rfl ?_
      refine v_iload_n (j := 3) dX3_fillOwners_19 rfl ?_
      replace hF := bd_use hF
      obtain ⟨r2, h3, er2, hF⟩ := hF
      refine v_cV (hm := h3) (av := [zi a3]) (st := []) (stn := [zq 5 r2]) (tX3_find er2) lcX3_find mlX3_52 imX3_find seX3_find rfl rfl rfl rfl ⟨by decide, by decide⟩ (Nat.le_of_ble_eq_true rfl) dX3_fillOwners_20 rfl rfl ?_
      clear er2
      refine v_astore (ls' := [(4, zq 5 r2), (0, zr 3 0), (1, zi a1), (2, zr 53 0), (3, zi a3)]) dX3_fillOwners_23 (by decide) rfl ?_
      refine v_aload (j := 0) dX3_fillOwners_25 rfl ?_
      cases r2 with
      | none =>
        replace hF := mtN hF
        refine v_ifnullN (tgt := 57) dX3_fillOwners_27 (by decide) ?_
        obtain ⟨v5, ev5⟩ : ∃ y : Int32, y = a3 + 1 := ⟨_, rfl⟩
        replace hF := lb_use ev5 hF
        refine v_iinc (j := 4) (v := v5) (ls' := [(3, zi v5), (4, zo), (0, zr 3 0), (1, zi a1), (2, zr 53 0)]) dX3_fillOwners_57 rfl (by rw [ev5]; rfl) (by decide) rfl ?_
        clear ev5
        refine v_goto (tgt := 10) dX3_fillOwners_60 (by decide) ?_
        refine v_sub [2, 3, 4, 0] rfl ?_
        exact ih a1 v5 h3 _ hF k
      | some z4 =>
        replace hF := mtS hF
        refine v_ifnullS (q := (5, z4)) (tgt := 57) dX3_fillOwners_27 (by decide) ?_
        refine v_aload (j := 0) dX3_fillOwners_30 rfl ?_
        refine v_iload_n (j := 2) dX3_fillOwners_32 rfl ?_
        refine v_iload_n (j := 2) dX3_fillOwners_33 rfl ?_
        refine v_cV (hm := h3) (av := [zi a1, zi a1]) (st := []) (stn := [zi (fX5_isFor z4 a1 a1 h3)]) (tX5_isFor z4 a1 a1 h3) lcX5_isFor mlX3_66 imX5_isFor seX5_isFor rfl rfl rfl rfl ⟨by decide, by decide⟩ (Nat.le_of_ble_eq_true rfl) dX3_fillOwners_34 rfl rfl ?_
        refine v_if_eq dX3_fillOwners_37 (by decide : _ = ((57 : Nat) : Int)) (fun q => ?_) (fun q => ?_)
        · replace hF := brT q hF
          obtain ⟨v6, ev6⟩ : ∃ y : Int32, y = a3 + 1 := ⟨_, rfl⟩
          replace hF := lb_use ev6 hF
          refine v_iinc (j := 4) (v := v6) (ls' := [(3, zi v6), (4, zr 5 z4), (0, zr 3 0), (1, zi a1), (2, zr 53 0)]) dX3_fillOwners_57 rfl (by rw [ev6]; rfl) (by decide) rfl ?_
          clear ev6
          refine v_goto (tgt := 10) dX3_fillOwners_60 (by decide) ?_
          refine v_sub [2, 3, 4, 0] rfl ?_
          exact ih a1 v6 h3 _ hF k
        · replace hF := brF q hF
          refine v_aload_n (j := 1) dX3_fillOwners_40 rfl ?_
          refine v_iload_n (j := 4) dX3_fillOwners_41 rfl ?_
          refine v_iload_n (j := 2) dX3_fillOwners_42 rfl ?_
          replace hF := bd_use hF
          obtain ⟨r7, h8, er7, hF⟩ := hF
          refine v_cV (hm := h8) (av := [zi a3, zi a1]) (st := []) (stn := [zi r7]) (tX3_holderOf er7) lcX3_holderOf mlX3_69 imX3_holderOf seX3_holderOf rfl rfl rfl rfl ⟨by decide, by decide⟩ (Nat.le_of_ble_eq_true rfl) dX3_fillOwners_43 rfl rfl ?_
          clear er7
          refine v_iconst (v := (-1)) dX3_fillOwners_46 (by decide) ?_
          refine v_icmp_eq dX3_fillOwners_47 (by decide : _ = ((57 : Nat) : Int)) (fun q => ?_) (fun q => ?_)
          · replace hF := brT q hF
            obtain ⟨v9, ev9⟩ : ∃ y : Int32, y = a3 + 1 := ⟨_, rfl⟩
            replace hF := lb_use ev9 hF
            refine v_iinc (j := 4) (v := v9) (ls' := [(3, zi v9), (4, zr 5 z4), (0, zr 3 0), (1, zi a1), (2, zr 53 0)]) dX3_fillOwners_57 rfl (by rw [ev9]; rfl) (by decide) rfl ?_
            clear ev9
            refine v_goto (tgt := 10) dX3_fillOwners_60 (by decide) ?_
            refine v_sub [2, 3, 4, 0] rfl ?_
            exact ih a1 v9 h8 _ hF k
          · replace hF := brF q hF
            refine v_aload_n (j := 1) dX3_fillOwners_50 rfl ?_
            refine v_aload (j := 0) dX3_fillOwners_51 rfl ?_
            refine v_iload_n (j := 4) dX3_fillOwners_53 rfl ?_
            replace hF := bd_use hF
            obtain ⟨r10, h11, er10, hF⟩ := hF
            refine v_cV (hm := h11) (av := [zr 5 z4, zi a3]) (st := []) (stn := []) (tX3_markBest er10) lcX3_markBest mlX3_76 imX3_markBest seX3_markBest rfl rfl rfl rfl ⟨by decide, by decide⟩ (Nat.le_of_ble_eq_true rfl) dX3_fillOwners_54 rfl rfl ?_
            clear er10
            obtain ⟨v12, ev12⟩ : ∃ y : Int32, y = a3 + 1 := ⟨_, rfl⟩
            replace hF := lb_use ev12 hF
            refine v_iinc (j := 4) (v := v12) (ls' := [(3, zi v12), (4, zr 5 z4), (0, zr 3 0), (1, zi a1), (2, zr 53 0)]) dX3_fillOwners_57 rfl (by rw [ev12]; rfl) (by decide) rfl ?_
            clear ev12
            refine v_goto (tgt := 10) dX3_fillOwners_60 (by decide) ?_
            refine v_sub [2, 3, 4, 0] rfl ?_
            exact ih a1 v12 h11 _ hF k
set_option maxRecDepth 20000 in
theorem tX3_fillOwners_L65 {X : Cz} {h0 : Hp} {r : Option AV} {hE : Hp} : ∀ (n : Nat) (a1 : Int32) (a3 : Int32) (h : Hp) (z : (Int32) × Hp), fX3_fillOwners_L65 n a1 a3 h = some z → V X mX3_fillOwners true h0 100 [(0, zr 3 0), (1, zi a1), (2, zr 53 0), (3, zi z.1)] [] z.2 r hE → V X mX3_fillOwners true h0 65 [(0, zr 3 0), (1, zi a1), (2, zr 53 0), (3, zi a3)] [] h r hE := by
  intro n
  induction n with
  | zero => intro a1 a3 h z hF k; cases hF
  | succ n ih =>
    intro a1 a3 h z hF k
    rw [fX3_fillOwners_L65] at hF
    refine v_iload_n (j := 3) dX3_fillOwners_65 rfl ?_
    refine v_aload_n (j := 0) dX3_fillOwners_66 rfl ?_
    refine v_getL (c := 3) rfl rfl rfl ly3_4 cz3 flX3_21 dX3_fillOwners_67 ?_
    refine v_alen rfl dX3_fillOwners_70 ?_
    refine v_icmp_ge dX3_fillOwners_71 (by decide : _ = ((100 : Nat) : Int)) (fun q => ?_) (fun q => ?_)
    · replace hF := brT q hF
      cases hF
      exact k
    · replace hF := brF q hF
      refine v_iload_n (j := 3) dX3_fillOwners_74 rfl ?_
      refine v_aload_n (j := 2) dX3_fillOwners_75 rfl ?_
      refine v_alen rfl dX3_fillOwners_76 ?_
      refine v_icmp_ge dX3_fillOwners_77 (by decide : _ = ((100 : Nat) : Int)) (fun q => ?_) (fun q => ?_)
      · replace hF := brT q hF
        cases hF
        exact k
      · replace hF := brF q hF
        refine v_aload_n (j := 2) dX3_fillOwners_80 rfl ?_
        refine v_iload_n (j := 3) dX3_fillOwners_81 rfl ?_
        refine v_aload_n (j := 0) dX3_fillOwners_82 rfl ?_
        refine v_aload_n (j := 0) dX3_fillOwners_83 rfl ?_
        refine v_getL (c := 3) rfl rfl rfl ly3_4 cz3 flX3_21 dX3_fillOwners_84 ?_
        refine v_iload_n (j := 3) dX3_fillOwners_87 rfl ?_
        replace hF := gd_use hF
        obtain ⟨q16, hF⟩ := hF
        refine v_iald rfl q16 dX3_fillOwners_88 ?_
        refine v_iload_n (j := 1) dX3_fillOwners_89 rfl ?_
        replace hF := bd_use hF
        obtain ⟨r17, h18, er17, hF⟩ := hF
        refine v_cV (hm := h18) (av := [zi (gI h 34 0 (ix a3)), zi a1]) (st := [zi a3, zr 53 0]) (stn := [zi r17, zi a3, zr 53 0]) (tX3_holderOf er17) lcX3_holderOf mlX3_69 imX3_holderOf seX3_holderOf rfl rfl rfl rfl ⟨by decide, by decide⟩ (Nat.le_of_ble_eq_true rfl) dX3_fillOwners_90 rfl rfl ?_
        clear er17
        replace hF := gd_use hF
        obtain ⟨q19, hF⟩ := hF
        refine v_iast rfl q19 dX3_fillOwners_93 ?_
        refine v_toph fun h20 eh20 => ?_
        replace hF := lb_use eh20 hF
        clear eh20
        obtain ⟨v21, ev21⟩ : ∃ y : Int32, y = a3 + 1 := ⟨_, rfl⟩
        replace hF := lb_use ev21 hF
        refine v_iinc (j := 3) (v := v21) (ls' := [(3, zi v21), (0, zr 3 0), (1, zi a1), (2, zr 53 0)]) dX3_fillOwners_94 rfl (by rw [ev21]; rfl) (by decide) rfl ?_
        clear ev21
        refine v_goto (tgt := 65) dX3_fillOwners_97 (by decide) ?_
        refine v_sub [1, 2, 3, 0] rfl ?_
        exact ih a1 v21 h20 _ hF k
set_option maxRecDepth 20000 in
theorem tX3_fillOwners {X : Cz} {a1 : Int32} {h hE : Hp} {rE : Unit} (hF : fX3_fillOwners a1 h = some (rE, hE)) : Ct X mX3_fillOwners true [zr 3 0, zi a1, zr 53 0] h (none) hE := by
  refine Ct_of (by decide) (Nat.le_of_ble_eq_true rfl) (ls := [(0, zr 3 0), (1, zi a1), (2, zr 53 0)]) rfl ?_
  unfold fX3_fillOwners at hF
  refine v_aload_n (j := 0) dX3_fillOwners_0 rfl ?_
  refine v_getL (c := 3) rfl rfl rfl ly3_4 cz3 flX3_21 dX3_fillOwners_1 ?_
  refine v_iconst (v := (-1)) dX3_fillOwners_4 (by decide) ?_
  refine v_cS (av := [zr 34 0, zi (-1)]) (st := []) (stn := []) (tJ7_fill_53178 (n := 0) (k := 34) rfl (by decide) (-1) h) lcJ7_fill_53178 mlX3_24 sxJ7_fill_53178 rfl ⟨by decide, by decide⟩ (Nat.le_of_ble_eq_true rfl) dX3_fillOwners_5 rfl rfl ?_
  refine v_toph fun h1 eh1 => ?_
  replace hF := lb_use eh1 hF
  clear eh1
  refine v_iconst (v := 0) dX3_fillOwners_8 (by decide) ?_
  refine v_istore_n (ls' := [(3, zi 0), (0, zr 3 0), (1, zi a1), (2, zr 53 0)]) dX3_fillOwners_9 (by decide) rfl ?_
  refine v_sub [1, 2, 3, 0] rfl ?_
  replace hF := bd_use hF
  obtain ⟨v15, h13, ev15, hF⟩ := hF
  refine tX3_fillOwners_L10 _ a1 0 h1 _ ev15 ?_
  clear ev15
  refine v_iconst (v := 0) dX3_fillOwners_63 (by decide) ?_
  refine v_istore_n (ls' := [(3, zi 0), (0, zr 3 0), (1, zi a1), (2, zr 53 0)]) dX3_fillOwners_64 (by decide) rfl ?_
  refine v_sub [1, 2, 3, 0] rfl ?_
  replace hF := bd_use hF
  obtain ⟨v24, h22, ev24, hF⟩ := hF
  refine tX3_fillOwners_L65 _ a1 0 h13 _ ev24 ?_
  clear ev24
  cases hF
  exact v_vret rfl dX3_fillOwners_100
theorem dX3_heldBy_0 : decode cX3_heldBy 0 = .ok (.iconst 0, 1) := by decide +kernel
theorem dX3_heldBy_1 : decode cX3_heldBy 1 = .ok (.istore_n 3, 1) := by decide +kernel
theorem dX3_heldBy_2 : decode cX3_heldBy 2 = .ok (.iconst 0, 1) := by decide +kernel
theorem dX3_heldBy_3 : decode cX3_heldBy 3 = .ok (.istore 4, 2) := by decide +kernel
theorem dX3_heldBy_5 : decode cX3_heldBy 5 = .ok (.iload 4, 2) := by decide +kernel
theorem dX3_heldBy_7 : decode cX3_heldBy 7 = .ok (.aload_n 0, 1) := by decide +kernel
theorem dX3_heldBy_8 : decode cX3_heldBy 8 = .ok (.getfield 48, 3) := by decide +kernel
theorem dX3_heldBy_11 : decode cX3_heldBy 11 = .ok (.if_icmp .ge 46, 3) := by decide +kernel
theorem dX3_heldBy_14 : decode cX3_heldBy 14 = .ok (.aload_n 0, 1) := by decide +kernel
theorem dX3_heldBy_15 : decode cX3_heldBy 15 = .ok (.iload 4, 2) := by decide +kernel
theorem dX3_heldBy_17 : decode cX3_heldBy 17 = .ok (.invokevirtual 52, 3) := by decide +kernel
theorem dX3_heldBy_20 : decode cX3_heldBy 20 = .ok (.astore 5, 2) := by decide +kernel
theorem dX3_heldBy_22 : decode cX3_heldBy 22 = .ok (.aload 5, 2) := by decide +kernel
theorem dX3_heldBy_24 : decode cX3_heldBy 24 = .ok (.ifnull 27, 3) := by decide +kernel
theorem dX3_heldBy_27 : decode cX3_heldBy 27 = .ok (.aload 5, 2) := by decide +kernel
theorem dX3_heldBy_29 : decode cX3_heldBy 29 = .ok (.iload_n 2, 1) := by decide +kernel
theorem dX3_heldBy_30 : decode cX3_heldBy 30 = .ok (.iload_n 2, 1) := by decide +kernel
theorem dX3_heldBy_31 : decode cX3_heldBy 31 = .ok (.invokevirtual 66, 3) := by decide +kernel
theorem dX3_heldBy_34 : decode cX3_heldBy 34 = .ok (.ifCond .eq 17, 3) := by decide +kernel
theorem dX3_heldBy_37 : decode cX3_heldBy 37 = .ok (.aload_n 0, 1) := by decide +kernel
theorem dX3_heldBy_38 : decode cX3_heldBy 38 = .ok (.iload 4, 2) := by decide +kernel
theorem dX3_heldBy_40 : decode cX3_heldBy 40 = .ok (.iload_n 2, 1) := by decide +kernel
theorem dX3_heldBy_41 : decode cX3_heldBy 41 = .ok (.invokevirtual 69, 3) := by decide +kernel
theorem dX3_heldBy_44 : decode cX3_heldBy 44 = .ok (.iload_n 1, 1) := by decide +kernel
theorem dX3_heldBy_45 : decode cX3_heldBy 45 = .ok (.if_icmp .ne 6, 3) := by decide +kernel
theorem dX3_heldBy_48 : decode cX3_heldBy 48 = .ok (.iinc 3 1, 3) := by decide +kernel
theorem dX3_heldBy_51 : decode cX3_heldBy 51 = .ok (.iinc 4 1, 3) := by decide +kernel
theorem dX3_heldBy_54 : decode cX3_heldBy 54 = .ok (.goto (-49), 3) := by decide +kernel
theorem dX3_heldBy_57 : decode cX3_heldBy 57 = .ok (.iload_n 3, 1) := by decide +kernel
theorem dX3_heldBy_58 : decode cX3_heldBy 58 = .ok (.ireturn, 1) := by decide +kernel
def fX3_heldBy_L5 : Nat → Int32 → Int32 → Int32 → Int32 → Hp → Option ((Int32 × Int32) × Hp)
  | 0, _, _, _, _, _ => none
  | n + 1, a1, a2, a3, a4, h => br ((gI h 3 0 1) ≤ a4) (some ((a3, a4), h)) (bd (fX3_find a4 h) (fun r1 h2 => mt r1 (lb (a4 + 1) (fun v4 => fX3_heldBy_L5 n a1 a2 a3 v4 h2)) (fun z3 => br ((fX5_isFor z3 a2 a2 h2) = 0) (lb (a4 + 1) (fun v5 => fX3_heldBy_L5 n a1 a2 a3 v5 h2)) (bd (fX3_holderOf a4 a2 h2) (fun r6 h7 => br (r6 = a1) (lb (a3 + 1) (fun v9 => lb (a4 + 1) (fun v10 => fX3_heldBy_L5 n a1 a2 v9 v10 h7))) (lb (a4 + 1) (fun v8 => fX3_heldBy_L5 n a1 a2 a3 v8 h7)))))))
def fX3_heldBy (a1 : Int32) (a2 : Int32) (h : Hp) : Option (Int32 × Hp) := bd (fX3_heldBy_L5 FU a1 a2 0 0 h) (fun t12 h11 => lb t12.1 (fun v13 => lb t12.2 (fun v14 => some (v13, h11))))
set_option maxRecDepth 20000 in
theorem tX3_heldBy_L5 {X : Cz} {h0 : Hp} {r : Option AV} {hE : Hp} : ∀ (n : Nat) (a1 : Int32) (a2 : Int32) (a3 : Int32) (a4 : Int32) (h : Hp) (z : (Int32 × Int32) × Hp), fX3_heldBy_L5 n a1 a2 a3 a4 h = some z → V X mX3_heldBy true h0 57 [(0, zr 3 0), (1, zi a1), (2, zi a2), (3, zi z.1.1), (4, zi z.1.2)] [] z.2 r hE → V X mX3_heldBy true h0 5 [(0, zr 3 0), (1, zi a1), (2, zi a2), (3, zi a3), (4, zi a4)] [] h r hE := by
  intro n
  induction n with
  | zero => intro a1 a2 a3 a4 h z hF k; cases hF
  | succ n ih =>
    intro a1 a2 a3 a4 h z hF k
    rw [fX3_heldBy_L5] at hF
    refine v_iload (j := 4) dX3_heldBy_5 rfl ?_
    refine v_aload_n (j := 0) dX3_heldBy_7 rfl ?_
    refine v_getI (c := 3) rfl (Or.inl rfl) cz3 flX3_48 dX3_heldBy_8 ?_
    refine v_icmp_ge dX3_heldBy_11 (by decide : _ = ((57 : Nat) : Int)) (fun q => ?_) (fun q => ?_)
    · replace hF := brT q hF
      cases hF
      exact k
    · replace hF := brF q hF
      refine v_aload_n (j := 0) dX3_heldBy_14 rfl ?_
      refine v_iload (j := 4) dX3_heldBy_15 rfl ?_
      replace hF := bd_use hF
      obtain ⟨r1, h2, er1, hF⟩ := hF
      refine v_cV (hm := h2) (av := [zi a4]) (st := []) (stn := [zq 5 r1]) (tX3_find er1) lcX3_find mlX3_52 imX3_find seX3_find rfl rfl rfl rfl ⟨by decide, by decide⟩ (Nat.le_of_ble_eq_true rfl) dX3_heldBy_17 rfl rfl ?_
      clear er1
      refine v_astore (ls' := [(5, zq 5 r1), (0, zr 3 0), (1, zi a1), (2, zi a2), (3, zi a3), (4, zi a4)]) dX3_heldBy_20 (by decide) rfl ?_
      refine v_aload (j := 0) dX3_heldBy_22 rfl ?_
      cases r1 with
      | none =>
        replace hF := mtN hF
        refine v_ifnullN (tgt := 51) dX3_heldBy_24 (by decide) ?_
        obtain ⟨v4, ev4⟩ : ∃ y : Int32, y = a4 + 1 := ⟨_, rfl⟩
        replace hF := lb_use ev4 hF
        refine v_iinc (j := 5) (v := v4) (ls' := [(4, zi v4), (5, zo), (0, zr 3 0), (1, zi a1), (2, zi a2), (3, zi a3)]) dX3_heldBy_51 rfl (by rw [ev4]; rfl) (by decide) rfl ?_
        clear ev4
        refine v_goto (tgt := 5) dX3_heldBy_54 (by decide) ?_
        refine v_sub [2, 3, 4, 5, 0] rfl ?_
        exact ih a1 a2 a3 v4 h2 _ hF k
      | some z3 =>
        replace hF := mtS hF
        refine v_ifnullS (q := (5, z3)) (tgt := 51) dX3_heldBy_24 (by decide) ?_
        refine v_aload (j := 0) dX3_heldBy_27 rfl ?_
        refine v_iload_n (j := 3) dX3_heldBy_29 rfl ?_
        refine v_iload_n (j := 3) dX3_heldBy_30 rfl ?_
        refine v_cV (hm := h2) (av := [zi a2, zi a2]) (st := []) (stn := [zi (fX5_isFor z3 a2 a2 h2)]) (tX5_isFor z3 a2 a2 h2) lcX5_isFor mlX3_66 imX5_isFor seX5_isFor rfl rfl rfl rfl ⟨by decide, by decide⟩ (Nat.le_of_ble_eq_true rfl) dX3_heldBy_31 rfl rfl ?_
        refine v_if_eq dX3_heldBy_34 (by decide : _ = ((51 : Nat) : Int)) (fun q => ?_) (fun q => ?_)
        · replace hF := brT q hF
          obtain ⟨v5, ev5⟩ : ∃ y : Int32, y = a4 + 1 := ⟨_, rfl⟩
          replace hF := lb_use ev5 hF
          refine v_iinc (j := 5) (v := v5) (ls' := [(4, zi v5), (5, zr 5 z3), (0, zr 3 0), (1, zi a1), (2, zi a2), (3, zi a3)]) dX3_heldBy_51 rfl (by rw [ev5]; rfl) (by decide) rfl ?_
          clear ev5
          refine v_goto (tgt := 5) dX3_heldBy_54 (by decide) ?_
          refine v_sub [2, 3, 4, 5, 0] rfl ?_
          exact ih a1 a2 a3 v5 h2 _ hF k
        · replace hF := brF q hF
          refine v_aload_n (j := 1) dX3_heldBy_37 rfl ?_
          refine v_iload (j := 5) dX3_heldBy_38 rfl ?_
          refine v_iload_n (j := 3) dX3_heldBy_40 rfl ?_
          replace hF := bd_use hF
          obtain ⟨r6, h7, er6, hF⟩ := hF
          refine v_cV (hm := h7) (av := [zi a4, zi a2]) (st := []) (stn := [zi r6]) (tX3_holderOf er6) lcX3_holderOf mlX3_69 imX3_holderOf seX3_holderOf rfl rfl rfl rfl ⟨by decide, by decide⟩ (Nat.le_of_ble_eq_true rfl) dX3_heldBy_41 rfl rfl ?_
          clear er6
          refine v_iload_n (j := 2) dX3_heldBy_44 rfl ?_
          refine v_icmp_ne dX3_heldBy_45 (by decide : _ = ((51 : Nat) : Int)) (fun q => ?_) (fun q => ?_)
          · replace hF := brF q hF
            obtain ⟨v8, ev8⟩ : ∃ y : Int32, y = a4 + 1 := ⟨_, rfl⟩
            replace hF := lb_use ev8 hF
            refine v_iinc (j := 5) (v := v8) (ls' := [(4, zi v8), (5, zr 5 z3), (0, zr 3 0), (1, zi a1), (2, zi a2), (3, zi a3)]) dX3_heldBy_51 rfl (by rw [ev8]; rfl) (by decide) rfl ?_
            clear ev8
            refine v_goto (tgt := 5) dX3_heldBy_54 (by decide) ?_
            refine v_sub [2, 3, 4, 5, 0] rfl ?_
            exact ih a1 a2 a3 v8 h7 _ hF k
          · replace hF := brT (Decidable.not_not.mp q) hF
            obtain ⟨v9, ev9⟩ : ∃ y : Int32, y = a3 + 1 := ⟨_, rfl⟩
            replace hF := lb_use ev9 hF
            refine v_iinc (j := 4) (v := v9) (ls' := [(3, zi v9), (5, zr 5 z3), (0, zr 3 0), (1, zi a1), (2, zi a2), (4, zi a4)]) dX3_heldBy_48 rfl (by rw [ev9]; rfl) (by decide) rfl ?_
            clear ev9
            obtain ⟨v10, ev10⟩ : ∃ y : Int32, y = a4 + 1 := ⟨_, rfl⟩
            replace hF := lb_use ev10 hF
            refine v_iinc (j := 5) (v := v10) (ls' := [(4, zi v10), (3, zi v9), (5, zr 5 z3), (0, zr 3 0), (1, zi a1), (2, zi a2)]) dX3_heldBy_51 rfl (by rw [ev10]; rfl) (by decide) rfl ?_
            clear ev10
            refine v_goto (tgt := 5) dX3_heldBy_54 (by decide) ?_
            refine v_sub [3, 4, 5, 1, 0] rfl ?_
            exact ih a1 a2 v9 v10 h7 _ hF k
set_option maxRecDepth 20000 in
theorem tX3_heldBy {X : Cz} {a1 : Int32} {a2 : Int32} {h hE : Hp} {rE : Int32} (hF : fX3_heldBy a1 a2 h = some (rE, hE)) : Ct X mX3_heldBy true [zr 3 0, zi a1, zi a2] h (some (zi rE)) hE := by
  refine Ct_of (by decide) (Nat.le_of_ble_eq_true rfl) (ls := [(0, zr 3 0), (1, zi a1), (2, zi a2)]) rfl ?_
  unfold fX3_heldBy at hF
  refine v_iconst (v := 0) dX3_heldBy_0 (by decide) ?_
  refine v_istore_n (ls' := [(3, zi 0), (0, zr 3 0), (1, zi a1), (2, zi a2)]) dX3_heldBy_1 (by decide) rfl ?_
  refine v_iconst (v := 0) dX3_heldBy_2 (by decide) ?_
  refine v_istore (ls' := [(4, zi 0), (3, zi 0), (0, zr 3 0), (1, zi a1), (2, zi a2)]) dX3_heldBy_3 (by decide) rfl ?_
  refine v_sub [2, 3, 4, 1, 0] rfl ?_
  replace hF := bd_use hF
  obtain ⟨t12, h11, et12, hF⟩ := hF
  refine tX3_heldBy_L5 _ a1 a2 0 0 h _ et12 ?_
  clear et12
  obtain ⟨v13, v14⟩ := t12
  replace hF := lb_use (x := v13) rfl hF
  replace hF := lb_use (x := v14) rfl hF
  refine v_iload_n (j := 3) dX3_heldBy_57 rfl ?_
  obtain ⟨rfl, rfl⟩ := ret_use hF
  exact v_iret rfl dX3_heldBy_58
theorem dX3_heritableOf_0 : decode cX3_heritableOf 0 = .ok (.iconst 0, 1) := by decide +kernel
theorem dX3_heritableOf_1 : decode cX3_heritableOf 1 = .ok (.istore_n 3, 1) := by decide +kernel
theorem dX3_heritableOf_2 : decode cX3_heritableOf 2 = .ok (.iconst 0, 1) := by decide +kernel
theorem dX3_heritableOf_3 : decode cX3_heritableOf 3 = .ok (.istore 4, 2) := by decide +kernel
theorem dX3_heritableOf_5 : decode cX3_heritableOf 5 = .ok (.iload 4, 2) := by decide +kernel
theorem dX3_heritableOf_7 : decode cX3_heritableOf 7 = .ok (.aload_n 0, 1) := by decide +kernel
theorem dX3_heritableOf_8 : decode cX3_heritableOf 8 = .ok (.getfield 48, 3) := by decide +kernel
theorem dX3_heritableOf_11 : decode cX3_heritableOf 11 = .ok (.if_icmp .ge 43, 3) := by decide +kernel
theorem dX3_heritableOf_14 : decode cX3_heritableOf 14 = .ok (.aload_n 0, 1) := by decide +kernel
theorem dX3_heritableOf_15 : decode cX3_heritableOf 15 = .ok (.iload 4, 2) := by decide +kernel
theorem dX3_heritableOf_17 : decode cX3_heritableOf 17 = .ok (.invokevirtual 52, 3) := by decide +kernel
theorem dX3_heritableOf_20 : decode cX3_heritableOf 20 = .ok (.astore 5, 2) := by decide +kernel
theorem dX3_heritableOf_22 : decode cX3_heritableOf 22 = .ok (.aload 5, 2) := by decide +kernel
theorem dX3_heritableOf_24 : decode cX3_heritableOf 24 = .ok (.ifnull 24, 3) := by decide +kernel
theorem dX3_heritableOf_27 : decode cX3_heritableOf 27 = .ok (.aload 5, 2) := by decide +kernel
theorem dX3_heritableOf_29 : decode cX3_heritableOf 29 = .ok (.iload_n 1, 1) := by decide +kernel
theorem dX3_heritableOf_30 : decode cX3_heritableOf 30 = .ok (.iload_n 2, 1) := by decide +kernel
theorem dX3_heritableOf_31 : decode cX3_heritableOf 31 = .ok (.invokevirtual 89, 3) := by decide +kernel
theorem dX3_heritableOf_34 : decode cX3_heritableOf 34 = .ok (.ifCond .eq 14, 3) := by decide +kernel
theorem dX3_heritableOf_37 : decode cX3_heritableOf 37 = .ok (.aload 5, 2) := by decide +kernel
theorem dX3_heritableOf_39 : decode cX3_heritableOf 39 = .ok (.getfield 92, 3) := by decide +kernel
theorem dX3_heritableOf_42 : decode cX3_heritableOf 42 = .ok (.ifCond .eq 6, 3) := by decide +kernel
theorem dX3_heritableOf_45 : decode cX3_heritableOf 45 = .ok (.iinc 3 1, 3) := by decide +kernel
theorem dX3_heritableOf_48 : decode cX3_heritableOf 48 = .ok (.iinc 4 1, 3) := by decide +kernel
theorem dX3_heritableOf_51 : decode cX3_heritableOf 51 = .ok (.goto (-46), 3) := by decide +kernel
theorem dX3_heritableOf_54 : decode cX3_heritableOf 54 = .ok (.iload_n 3, 1) := by decide +kernel
theorem dX3_heritableOf_55 : decode cX3_heritableOf 55 = .ok (.ireturn, 1) := by decide +kernel
def fX3_heritableOf_L5 : Nat → Int32 → Int32 → Int32 → Int32 → Hp → Option ((Int32 × Int32) × Hp)
  | 0, _, _, _, _, _ => none
  | n + 1, a1, a2, a3, a4, h => br ((gI h 3 0 1) ≤ a4) (some ((a3, a4), h)) (bd (fX3_find a4 h) (fun r1 h2 => mt r1 (lb (a4 + 1) (fun v4 => fX3_heritableOf_L5 n a1 a2 a3 v4 h2)) (fun z3 => br ((fX5_isStillHeldBy z3 a1 a2 h2) = 0) (lb (a4 + 1) (fun v5 => fX3_heritableOf_L5 n a1 a2 a3 v5 h2)) (br ((gI h2 5 z3 9) = 0) (lb (a4 + 1) (fun v6 => fX3_heritableOf_L5 n a1 a2 a3 v6 h2)) (lb (a3 + 1) (fun v7 => lb (a4 + 1) (fun v8 => fX3_heritableOf_L5 n a1 a2 v7 v8 h2)))))))
def fX3_heritableOf (a1 : Int32) (a2 : Int32) (h : Hp) : Option (Int32 × Hp) := bd (fX3_heritableOf_L5 FU a1 a2 0 0 h) (fun t10 h9 => lb t10.1 (fun v11 => lb t10.2 (fun v12 => some (v11, h9))))
set_option maxRecDepth 20000 in
theorem tX3_heritableOf_L5 {X : Cz} {h0 : Hp} {r : Option AV} {hE : Hp} : ∀ (n : Nat) (a1 : Int32) (a2 : Int32) (a3 : Int32) (a4 : Int32) (h : Hp) (z : (Int32 × Int32) × Hp), fX3_heritableOf_L5 n a1 a2 a3 a4 h = some z → V X mX3_heritableOf true h0 54 [(0, zr 3 0), (1, zi a1), (2, zi a2), (3, zi z.1.1), (4, zi z.1.2)] [] z.2 r hE → V X mX3_heritableOf true h0 5 [(0, zr 3 0), (1, zi a1), (2, zi a2), (3, zi a3), (4, zi a4)] [] h r hE := by
  intro n
  induction n with
  | zero => intro a1 a2 a3 a4 h z hF k; cases hF
  | succ n ih =>
    intro a1 a2 a3 a4 h z hF k
    rw [fX3_heritableOf_L5] at hF
    refine v_iload (j := 4) dX3_heritableOf_5 rfl ?_
    refine v_aload_n (j := 0) dX3_heritableOf_7 rfl ?_
    refine v_getI (c := 3) rfl (Or.inl rfl) cz3 flX3_48 dX3_heritableOf_8 ?_
    refine v_icmp_ge dX3_heritableOf_11 (by decide : _ = ((54 : Nat) : Int)) (fun q => ?_) (fun q => ?_)
    · replace hF := brT q hF
      cases hF
      exact k
    · replace hF := brF q hF
      refine v_aload_n (j := 0) dX3_heritableOf_14 rfl ?_
      refine v_iload (j := 4) dX3_heritableOf_15 rfl ?_
      replace hF := bd_use hF
      obtain ⟨r1, h2, er1, hF⟩ := hF
      refine v_cV (hm := h2) (av := [zi a4]) (st := []) (stn := [zq 5 r1]) (tX3_find er1) lcX3_find mlX3_52 imX3_find seX3_find rfl rfl rfl rfl ⟨by decide, by decide⟩ (Nat.le_of_ble_eq_true rfl) dX3_heritableOf_17 rfl rfl ?_
      clear er1
      refine v_astore (ls' := [(5, zq 5 r1), (0, zr 3 0), (1, zi a1), (2, zi a2), (3, zi a3), (4, zi a4)]) dX3_heritableOf_20 (by decide) rfl ?_
      refine v_aload (j := 0) dX3_heritableOf_22 rfl ?_
      cases r1 with
      | none =>
        replace hF := mtN hF
        refine v_ifnullN (tgt := 48) dX3_heritableOf_24 (by decide) ?_
        obtain ⟨v4, ev4⟩ : ∃ y : Int32, y = a4 + 1 := ⟨_, rfl⟩
        replace hF := lb_use ev4 hF
        refine v_iinc (j := 5) (v := v4) (ls' := [(4, zi v4), (5, zo), (0, zr 3 0), (1, zi a1), (2, zi a2), (3, zi a3)]) dX3_heritableOf_48 rfl (by rw [ev4]; rfl) (by decide) rfl ?_
        clear ev4
        refine v_goto (tgt := 5) dX3_heritableOf_51 (by decide) ?_
        refine v_sub [2, 3, 4, 5, 0] rfl ?_
        exact ih a1 a2 a3 v4 h2 _ hF k
      | some z3 =>
        replace hF := mtS hF
        refine v_ifnullS (q := (5, z3)) (tgt := 48) dX3_heritableOf_24 (by decide) ?_
        refine v_aload (j := 0) dX3_heritableOf_27 rfl ?_
        refine v_iload_n (j := 2) dX3_heritableOf_29 rfl ?_
        refine v_iload_n (j := 3) dX3_heritableOf_30 rfl ?_
        refine v_cV (hm := h2) (av := [zi a1, zi a2]) (st := []) (stn := [zi (fX5_isStillHeldBy z3 a1 a2 h2)]) (tX5_isStillHeldBy z3 a1 a2 h2) lcX5_isStillHeldBy mlX3_89 imX5_isStillHeldBy seX5_isStillHeldBy rfl rfl rfl rfl ⟨by decide, by decide⟩ (Nat.le_of_ble_eq_true rfl) dX3_heritableOf_31 rfl rfl ?_
        refine v_if_eq dX3_heritableOf_34 (by decide : _ = ((48 : Nat) : Int)) (fun q => ?_) (fun q => ?_)
        · replace hF := brT q hF
          obtain ⟨v5, ev5⟩ : ∃ y : Int32, y = a4 + 1 := ⟨_, rfl⟩
          replace hF := lb_use ev5 hF
          refine v_iinc (j := 5) (v := v5) (ls' := [(4, zi v5), (5, zr 5 z3), (0, zr 3 0), (1, zi a1), (2, zi a2), (3, zi a3)]) dX3_heritableOf_48 rfl (by rw [ev5]; rfl) (by decide) rfl ?_
          clear ev5
          refine v_goto (tgt := 5) dX3_heritableOf_51 (by decide) ?_
          refine v_sub [2, 3, 4, 5, 0] rfl ?_
          exact ih a1 a2 a3 v5 h2 _ hF k
        · replace hF := brF q hF
          refine v_aload (j := 0) dX3_heritableOf_37 rfl ?_
          refine v_getI (c := 5) rfl (Or.inr rfl) cz5 flX3_92 dX3_heritableOf_39 ?_
          refine v_if_eq dX3_heritableOf_42 (by decide : _ = ((48 : Nat) : Int)) (fun q => ?_) (fun q => ?_)
          · replace hF := brT q hF
            obtain ⟨v6, ev6⟩ : ∃ y : Int32, y = a4 + 1 := ⟨_, rfl⟩
            replace hF := lb_use ev6 hF
            refine v_iinc (j := 5) (v := v6) (ls' := [(4, zi v6), (5, zr 5 z3), (0, zr 3 0), (1, zi a1), (2, zi a2), (3, zi a3)]) dX3_heritableOf_48 rfl (by rw [ev6]; rfl) (by decide) rfl ?_
            clear ev6
            refine v_goto (tgt := 5) dX3_heritableOf_51 (by decide) ?_
            refine v_sub [2, 3, 4, 5, 0] rfl ?_
            exact ih a1 a2 a3 v6 h2 _ hF k
          · replace hF := brF q hF
            obtain ⟨v7, ev7⟩ : ∃ y : Int32, y = a3 + 1 := ⟨_, rfl⟩
            replace hF := lb_use ev7 hF
            refine v_iinc (j := 4) (v := v7) (ls' := [(3, zi v7), (5, zr 5 z3), (0, zr 3 0), (1, zi a1), (2, zi a2), (4, zi a4)]) dX3_heritableOf_45 rfl (by rw [ev7]; rfl) (by decide) rfl ?_
            clear ev7
            obtain ⟨v8, ev8⟩ : ∃ y : Int32, y = a4 + 1 := ⟨_, rfl⟩
            replace hF := lb_use ev8 hF
            refine v_iinc (j := 5) (v := v8) (ls' := [(4, zi v8), (3, zi v7), (5, zr 5 z3), (0, zr 3 0), (1, zi a1), (2, zi a2)]) dX3_heritableOf_48 rfl (by rw [ev8]; rfl) (by decide) rfl ?_
            clear ev8
            refine v_goto (tgt := 5) dX3_heritableOf_51 (by decide) ?_
            refine v_sub [3, 4, 5, 1, 0] rfl ?_
            exact ih a1 a2 v7 v8 h2 _ hF k
set_option maxRecDepth 20000 in
theorem tX3_heritableOf {X : Cz} {a1 : Int32} {a2 : Int32} {h hE : Hp} {rE : Int32} (hF : fX3_heritableOf a1 a2 h = some (rE, hE)) : Ct X mX3_heritableOf true [zr 3 0, zi a1, zi a2] h (some (zi rE)) hE := by
  refine Ct_of (by decide) (Nat.le_of_ble_eq_true rfl) (ls := [(0, zr 3 0), (1, zi a1), (2, zi a2)]) rfl ?_
  unfold fX3_heritableOf at hF
  refine v_iconst (v := 0) dX3_heritableOf_0 (by decide) ?_
  refine v_istore_n (ls' := [(3, zi 0), (0, zr 3 0), (1, zi a1), (2, zi a2)]) dX3_heritableOf_1 (by decide) rfl ?_
  refine v_iconst (v := 0) dX3_heritableOf_2 (by decide) ?_
  refine v_istore (ls' := [(4, zi 0), (3, zi 0), (0, zr 3 0), (1, zi a1), (2, zi a2)]) dX3_heritableOf_3 (by decide) rfl ?_
  refine v_sub [2, 3, 4, 1, 0] rfl ?_
  replace hF := bd_use hF
  obtain ⟨t10, h9, et10, hF⟩ := hF
  refine tX3_heritableOf_L5 _ a1 a2 0 0 h _ et10 ?_
  clear et10
  obtain ⟨v11, v12⟩ := t10
  replace hF := lb_use (x := v11) rfl hF
  replace hF := lb_use (x := v12) rfl hF
  refine v_iload_n (j := 3) dX3_heritableOf_54 rfl ?_
  obtain ⟨rfl, rfl⟩ := ret_use hF
  exact v_iret rfl dX3_heritableOf_55
theorem dX3_inherited_0 : decode cX3_inherited 0 = .ok (.new 9, 3) := by decide +kernel
theorem dX3_inherited_3 : decode cX3_inherited 3 = .ok (.dup, 1) := by decide +kernel
theorem dX3_inherited_4 : decode cX3_inherited 4 = .ok (.aload_n 0, 1) := by decide +kernel
theorem dX3_inherited_5 : decode cX3_inherited 5 = .ok (.getfield 56, 3) := by decide +kernel
theorem dX3_inherited_8 : decode cX3_inherited 8 = .ok (.iload_n 1, 1) := by decide +kernel
theorem dX3_inherited_9 : decode cX3_inherited 9 = .ok (.aload_n 0, 1) := by decide +kernel
theorem dX3_inherited_10 : decode cX3_inherited 10 = .ok (.getfield 80, 3) := by decide +kernel
theorem dX3_inherited_13 : decode cX3_inherited 13 = .ok (.aload_n 0, 1) := by decide +kernel
theorem dX3_inherited_14 : decode cX3_inherited 14 = .ok (.getfield 83, 3) := by decide +kernel
theorem dX3_inherited_17 : decode cX3_inherited 17 = .ok (.aload_n 0, 1) := by decide +kernel
theorem dX3_inherited_18 : decode cX3_inherited 18 = .ok (.getfield 86, 3) := by decide +kernel
theorem dX3_inherited_21 : decode cX3_inherited 21 = .ok (.invokespecial 111, 3) := by decide +kernel
theorem dX3_inherited_24 : decode cX3_inherited 24 = .ok (.astore 4, 2) := by decide +kernel
theorem dX3_inherited_26 : decode cX3_inherited 26 = .ok (.aload 4, 2) := by decide +kernel
theorem dX3_inherited_28 : decode cX3_inherited 28 = .ok (.aload_n 0, 1) := by decide +kernel
theorem dX3_inherited_29 : decode cX3_inherited 29 = .ok (.getfield 114, 3) := by decide +kernel
theorem dX3_inherited_32 : decode cX3_inherited 32 = .ok (.aload_n 0, 1) := by decide +kernel
theorem dX3_inherited_33 : decode cX3_inherited 33 = .ok (.getfield 114, 3) := by decide +kernel
theorem dX3_inherited_36 : decode cX3_inherited 36 = .ok (.iload_n 3, 1) := by decide +kernel
theorem dX3_inherited_37 : decode cX3_inherited 37 = .ok (.invokestatic 117, 3) := by decide +kernel
theorem dX3_inherited_40 : decode cX3_inherited 40 = .ok (.iload_n 2, 1) := by decide +kernel
theorem dX3_inherited_41 : decode cX3_inherited 41 = .ok (.iload_n 3, 1) := by decide +kernel
theorem dX3_inherited_42 : decode cX3_inherited 42 = .ok (.invokevirtual 122, 3) := by decide +kernel
theorem dX3_inherited_45 : decode cX3_inherited 45 = .ok (.aload 4, 2) := by decide +kernel
theorem dX3_inherited_47 : decode cX3_inherited 47 = .ok (.iconst 1, 1) := by decide +kernel
theorem dX3_inherited_48 : decode cX3_inherited 48 = .ok (.putfield 92, 3) := by decide +kernel
theorem dX3_inherited_51 : decode cX3_inherited 51 = .ok (.aload 4, 2) := by decide +kernel
theorem dX3_inherited_53 : decode cX3_inherited 53 = .ok (.aload_n 0, 1) := by decide +kernel
theorem dX3_inherited_54 : decode cX3_inherited 54 = .ok (.getfield 126, 3) := by decide +kernel
theorem dX3_inherited_57 : decode cX3_inherited 57 = .ok (.putfield 126, 3) := by decide +kernel
theorem dX3_inherited_60 : decode cX3_inherited 60 = .ok (.aload 4, 2) := by decide +kernel
theorem dX3_inherited_62 : decode cX3_inherited 62 = .ok (.areturn, 1) := by decide +kernel
def fX3_inherited (a0 : Nat) (a1 : Int32) (a2 : Int32) (a3 : Int32) (h : Hp) : Option (Nat × Hp) := lb (gN h 5) (fun z1 => lb (nw h 5 13) (fun h2 => bd (fX5_init z1 (gI h2 5 a0 0) a1 (gI h2 5 a0 2) (gI h2 5 a0 3) (gI h2 5 a0 4) h2) (fun r3 h4 => bd (fX5_setYears z1 (gI h4 5 a0 5) (mxI (gI h4 5 a0 5) a3) a2 a3 h4) (fun r5 h6 => lb (sI h6 5 z1 9 1) (fun h7 => lb (sI h7 5 z1 10 (gI h7 5 a0 10)) (fun h8 => some (z1, h8)))))))
set_option maxRecDepth 20000 in
theorem tX3_inherited {X : Cz} {a0 : Nat} {a1 : Int32} {a2 : Int32} {a3 : Int32} {h hE : Hp} {rE : Nat} (hF : fX3_inherited a0 a1 a2 a3 h = some (rE, hE)) : Ct X mX3_inherited true [zr 5 a0, zi a1, zi a2, zi a3] h (some (zr 5 rE)) hE := by
  refine Ct_of (by decide) (Nat.le_of_ble_eq_true rfl) (ls := [(0, zr 5 a0), (1, zi a1), (2, zi a2), (3, zi a3)]) rfl ?_
  unfold fX3_inherited at hF
  refine v_new (k := 5) (c := 5) rfl (by decide) rfl clX3_9 cz5 (Or.inr (by decide)) dX3_inherited_0 ?_
  refine v_topr fun z1 ez1 => ?_
  replace hF := lb_use ez1 hF
  clear ez1
  refine v_toph fun h2 eh2 => ?_
  replace hF := lb_use eh2 hF
  clear eh2
  refine v_dup dX3_inherited_3 rfl ?_
  refine v_aload_n (j := 0) dX3_inherited_4 rfl ?_
  refine v_getI (c := 5) rfl (Or.inl rfl) cz5 flX3_56 dX3_inherited_5 ?_
  refine v_iload_n (j := 1) dX3_inherited_8 rfl ?_
  refine v_aload_n (j := 0) dX3_inherited_9 rfl ?_
  refine v_getI (c := 5) rfl (Or.inl rfl) cz5 flX3_80 dX3_inherited_10 ?_
  refine v_aload_n (j := 0) dX3_inherited_13 rfl ?_
  refine v_getI (c := 5) rfl (Or.inl rfl) cz5 flX3_83 dX3_inherited_14 ?_
  refine v_aload_n (j := 0) dX3_inherited_17 rfl ?_
  refine v_getI (c := 5) rfl (Or.inl rfl) cz5 flX3_86 dX3_inherited_18 ?_
  replace hF := bd_use hF
  obtain ⟨r3, h4, er3, hF⟩ := hF
  refine v_cI (hm := h4) (av := [zi (gI h2 5 a0 0), zi a1, zi (gI h2 5 a0 2), zi (gI h2 5 a0 3), zi (gI h2 5 a0 4)]) (st := [zr 5 z1]) (stn := [zr 5 z1]) (tX5_init er3) lcX5_init mlX3_111 imX5_init rfl rfl rfl ⟨by decide, by decide⟩ (Nat.le_of_ble_eq_true rfl) dX3_inherited_21 rfl rfl ?_
  clear er3
  refine v_astore (ls' := [(4, zr 5 z1), (0, zr 5 a0), (1, zi a1), (2, zi a2), (3, zi a3)]) dX3_inherited_24 (by decide) rfl ?_
  refine v_aload (j := 0) dX3_inherited_26 rfl ?_
  refine v_aload_n (j := 1) dX3_inherited_28 rfl ?_
  refine v_getI (c := 5) rfl (Or.inl rfl) cz5 flX3_114 dX3_inherited_29 ?_
  refine v_aload_n (j := 1) dX3_inherited_32 rfl ?_
  refine v_getI (c := 5) rfl (Or.inl rfl) cz5 flX3_114 dX3_inherited_33 ?_
  refine v_iload_n (j := 4) dX3_inherited_36 rfl ?_
  refine v_J9_max_7cf53 mlX3_117 (by decide) (Nat.le_of_ble_eq_true rfl) dX3_inherited_37 ?_
  refine v_iload_n (j := 3) dX3_inherited_40 rfl ?_
  refine v_iload_n (j := 4) dX3_inherited_41 rfl ?_
  replace hF := bd_use hF
  obtain ⟨r5, h6, er5, hF⟩ := hF
  refine v_cV (hm := h6) (av := [zi (gI h4 5 a0 5), zi (mxI (gI h4 5 a0 5) a3), zi a2, zi a3]) (st := []) (stn := []) (tX5_setYears er5) lcX5_setYears mlX3_122 imX5_setYears seX5_setYears rfl rfl rfl rfl ⟨by decide, by decide⟩ (Nat.le_of_ble_eq_true rfl) dX3_inherited_42 rfl rfl ?_
  clear er5
  refine v_aload (j := 0) dX3_inherited_45 rfl ?_
  refine v_iconst (v := 1) dX3_inherited_47 (by decide) ?_
  refine v_putZ (c := 5) rfl rfl (Nat.le_of_ble_eq_true rfl) cz5 flX3_92 (Or.inr rfl) dX3_inherited_48 ?_
  refine v_toph fun h7 eh7 => ?_
  replace hF := lb_use eh7 hF
  clear eh7
  refine v_aload (j := 0) dX3_inherited_51 rfl ?_
  refine v_aload_n (j := 1) dX3_inherited_53 rfl ?_
  refine v_getI (c := 5) rfl (Or.inl rfl) cz5 flX3_126 dX3_inherited_54 ?_
  refine v_putI (c := 5) rfl rfl (Nat.le_of_ble_eq_true rfl) cz5 flX3_126 dX3_inherited_57 ?_
  refine v_toph fun h8 eh8 => ?_
  replace hF := lb_use eh8 hF
  clear eh8
  refine v_aload (j := 0) dX3_inherited_60 rfl ?_
  obtain ⟨rfl, rfl⟩ := ret_use hF
  exact v_aret rfl dX3_inherited_62
theorem dX3_passRights_0 : decode cX3_passRights 0 = .ok (.aload_n 0, 1) := by decide +kernel
theorem dX3_passRights_1 : decode cX3_passRights 1 = .ok (.getfield 48, 3) := by decide +kernel
theorem dX3_passRights_4 : decode cX3_passRights 4 = .ok (.istore 4, 2) := by decide +kernel
theorem dX3_passRights_6 : decode cX3_passRights 6 = .ok (.iconst 0, 1) := by decide +kernel
theorem dX3_passRights_7 : decode cX3_passRights 7 = .ok (.istore 5, 2) := by decide +kernel
theorem dX3_passRights_9 : decode cX3_passRights 9 = .ok (.iload 5, 2) := by decide +kernel
theorem dX3_passRights_11 : decode cX3_passRights 11 = .ok (.iload 4, 2) := by decide +kernel
theorem dX3_passRights_13 : decode cX3_passRights 13 = .ok (.if_icmp .ge 72, 3) := by decide +kernel
theorem dX3_passRights_16 : decode cX3_passRights 16 = .ok (.aload_n 0, 1) := by decide +kernel
theorem dX3_passRights_17 : decode cX3_passRights 17 = .ok (.iload 5, 2) := by decide +kernel
theorem dX3_passRights_19 : decode cX3_passRights 19 = .ok (.invokevirtual 52, 3) := by decide +kernel
theorem dX3_passRights_22 : decode cX3_passRights 22 = .ok (.astore 6, 2) := by decide +kernel
theorem dX3_passRights_24 : decode cX3_passRights 24 = .ok (.aload 6, 2) := by decide +kernel
theorem dX3_passRights_26 : decode cX3_passRights 26 = .ok (.ifnull 53, 3) := by decide +kernel
theorem dX3_passRights_29 : decode cX3_passRights 29 = .ok (.aload 6, 2) := by decide +kernel
theorem dX3_passRights_31 : decode cX3_passRights 31 = .ok (.iload_n 1, 1) := by decide +kernel
theorem dX3_passRights_32 : decode cX3_passRights 32 = .ok (.iload_n 3, 1) := by decide +kernel
theorem dX3_passRights_33 : decode cX3_passRights 33 = .ok (.invokevirtual 89, 3) := by decide +kernel
theorem dX3_passRights_36 : decode cX3_passRights 36 = .ok (.ifCond .eq 43, 3) := by decide +kernel
theorem dX3_passRights_39 : decode cX3_passRights 39 = .ok (.aload 6, 2) := by decide +kernel
theorem dX3_passRights_41 : decode cX3_passRights 41 = .ok (.getfield 96, 3) := by decide +kernel
theorem dX3_passRights_44 : decode cX3_passRights 44 = .ok (.istore 7, 2) := by decide +kernel
theorem dX3_passRights_46 : decode cX3_passRights 46 = .ok (.aload 6, 2) := by decide +kernel
theorem dX3_passRights_48 : decode cX3_passRights 48 = .ok (.iload_n 3, 1) := by decide +kernel
theorem dX3_passRights_49 : decode cX3_passRights 49 = .ok (.invokevirtual 99, 3) := by decide +kernel
theorem dX3_passRights_52 : decode cX3_passRights 52 = .ok (.aload 6, 2) := by decide +kernel
theorem dX3_passRights_54 : decode cX3_passRights 54 = .ok (.getfield 92, 3) := by decide +kernel
theorem dX3_passRights_57 : decode cX3_passRights 57 = .ok (.ifCond .eq 22, 3) := by decide +kernel
theorem dX3_passRights_60 : decode cX3_passRights 60 = .ok (.iload_n 2, 1) := by decide +kernel
theorem dX3_passRights_61 : decode cX3_passRights 61 = .ok (.iconst (-1), 1) := by decide +kernel
theorem dX3_passRights_62 : decode cX3_passRights 62 = .ok (.if_icmp .eq 17, 3) := by decide +kernel
theorem dX3_passRights_65 : decode cX3_passRights 65 = .ok (.aload_n 0, 1) := by decide +kernel
theorem dX3_passRights_66 : decode cX3_passRights 66 = .ok (.aload 6, 2) := by decide +kernel
theorem dX3_passRights_68 : decode cX3_passRights 68 = .ok (.iload_n 2, 1) := by decide +kernel
theorem dX3_passRights_69 : decode cX3_passRights 69 = .ok (.iload 7, 2) := by decide +kernel
theorem dX3_passRights_71 : decode cX3_passRights 71 = .ok (.iload_n 3, 1) := by decide +kernel
theorem dX3_passRights_72 : decode cX3_passRights 72 = .ok (.invokestatic 103, 3) := by decide +kernel
theorem dX3_passRights_75 : decode cX3_passRights 75 = .ok (.invokevirtual 107, 3) := by decide +kernel
theorem dX3_passRights_78 : decode cX3_passRights 78 = .ok (.pop, 1) := by decide +kernel
theorem dX3_passRights_79 : decode cX3_passRights 79 = .ok (.iinc 5 1, 3) := by decide +kernel
theorem dX3_passRights_82 : decode cX3_passRights 82 = .ok (.goto (-73), 3) := by decide +kernel
theorem dX3_passRights_85 : decode cX3_passRights 85 = .ok (.return_, 1) := by decide +kernel
def fX3_passRights_L9 : Nat → Int32 → Int32 → Int32 → Int32 → Int32 → Hp → Option ((Int32) × Hp)
  | 0, _, _, _, _, _, _ => none
  | n + 1, a1, a2, a3, a4, a5, h => br (a4 ≤ a5) (some ((a5), h)) (bd (fX3_find a5 h) (fun r2 h3 => mt r2 (lb (a5 + 1) (fun v5 => fX3_passRights_L9 n a1 a2 a3 a4 v5 h3)) (fun z4 => br ((fX5_isStillHeldBy z4 a1 a3 h3) = 0) (lb (a5 + 1) (fun v6 => fX3_passRights_L9 n a1 a2 a3 a4 v6 h3)) (lb (gI h3 5 z4 7) (fun v7 => bd (fX5_endAhead z4 a3 h3) (fun r8 h9 => br ((gI h9 5 z4 9) = 0) (lb (a5 + 1) (fun v10 => fX3_passRights_L9 n a1 a2 a3 a4 v10 h9)) (br (a2 = (-1)) (lb (a5 + 1) (fun v11 => fX3_passRights_L9 n a1 a2 a3 a4 v11 h9)) (bd (fX3_inherited z4 a2 v7 a3 h9) (fun r12 h13 => bd (fX3_enter r12 h13) (fun r14 h15 => lb (a5 + 1) (fun v16 => fX3_passRights_L9 n a1 a2 a3 a4 v16 h15)))))))))))
def fX3_passRights (a1 : Int32) (a2 : Int32) (a3 : Int32) (h : Hp) : Option (Unit × Hp) := lb (gI h 3 0 1) (fun v1 => bd (fX3_passRights_L9 FU a1 a2 a3 v1 0 h) (fun v19 h17 => some ((), h17)))
set_option maxRecDepth 20000 in
theorem tX3_passRights_L9 {X : Cz} {h0 : Hp} {r : Option AV} {hE : Hp} : ∀ (n : Nat) (a1 : Int32) (a2 : Int32) (a3 : Int32) (a4 : Int32) (a5 : Int32) (h : Hp) (z : (Int32) × Hp), fX3_passRights_L9 n a1 a2 a3 a4 a5 h = some z → V X mX3_passRights true h0 85 [(0, zr 3 0), (1, zi a1), (2, zi a2), (3, zi a3), (4, zi a4), (5, zi z.1)] [] z.2 r hE → V X mX3_passRights true h0 9 [(0, zr 3 0), (1, zi a1), (2, zi a2), (3, zi a3), (4, zi a4), (5, zi a5)] [] h r hE := by
  intro n
  induction n with
  | zero => intro a1 a2 a3 a4 a5 h z hF k; cases hF
  | succ n ih =>
    intro a1 a2 a3 a4 a5 h z hF k
    rw [fX3_passRights_L9] at hF
    refine v_iload (j := 5) dX3_passRights_9 rfl ?_
    refine v_iload (j := 4) dX3_passRights_11 rfl ?_
    refine v_icmp_ge dX3_passRights_13 (by decide : _ = ((85 : Nat) : Int)) (fun q => ?_) (fun q => ?_)
    · replace hF := brT q hF
      cases hF
      exact k
    · replace hF := brF q hF
      refine v_aload_n (j := 0) dX3_passRights_16 rfl ?_
      refine v_iload (j := 5) dX3_passRights_17 rfl ?_
      replace hF := bd_use hF
      obtain ⟨r2, h3, er2, hF⟩ := hF
      refine v_cV (hm := h3) (av := [zi a5]) (st := []) (stn := [zq 5 r2]) (tX3_find er2) lcX3_find mlX3_52 imX3_find seX3_find rfl rfl rfl rfl ⟨by decide, by decide⟩ (Nat.le_of_ble_eq_true rfl) dX3_passRights_19 rfl rfl ?_
      clear er2
      refine v_astore (ls' := [(6, zq 5 r2), (0, zr 3 0), (1, zi a1), (2, zi a2), (3, zi a3), (4, zi a4), (5, zi a5)]) dX3_passRights_22 (by decide) rfl ?_
      refine v_aload (j := 0) dX3_passRights_24 rfl ?_
      cases r2 with
      | none =>
        replace hF := mtN hF
        refine v_ifnullN (tgt := 79) dX3_passRights_26 (by decide) ?_
        obtain ⟨v5, ev5⟩ : ∃ y : Int32, y = a5 + 1 := ⟨_, rfl⟩
        replace hF := lb_use ev5 hF
        refine v_iinc (j := 6) (v := v5) (ls' := [(5, zi v5), (6, zo), (0, zr 3 0), (1, zi a1), (2, zi a2), (3, zi a3), (4, zi a4)]) dX3_passRights_79 rfl (by rw [ev5]; rfl) (by decide) rfl ?_
        clear ev5
        refine v_goto (tgt := 9) dX3_passRights_82 (by decide) ?_
        refine v_sub [2, 3, 4, 5, 6, 0] rfl ?_
        exact ih a1 a2 a3 a4 v5 h3 _ hF k
      | some z4 =>
        replace hF := mtS hF
        refine v_ifnullS (q := (5, z4)) (tgt := 79) dX3_passRights_26 (by decide) ?_
        refine v_aload (j := 0) dX3_passRights_29 rfl ?_
        refine v_iload_n (j := 2) dX3_passRights_31 rfl ?_
        refine v_iload_n (j := 4) dX3_passRights_32 rfl ?_
        refine v_cV (hm := h3) (av := [zi a1, zi a3]) (st := []) (stn := [zi (fX5_isStillHeldBy z4 a1 a3 h3)]) (tX5_isStillHeldBy z4 a1 a3 h3) lcX5_isStillHeldBy mlX3_89 imX5_isStillHeldBy seX5_isStillHeldBy rfl rfl rfl rfl ⟨by decide, by decide⟩ (Nat.le_of_ble_eq_true rfl) dX3_passRights_33 rfl rfl ?_
        refine v_if_eq dX3_passRights_36 (by decide : _ = ((79 : Nat) : Int)) (fun q => ?_) (fun q => ?_)
        · replace hF := brT q hF
          obtain ⟨v6, ev6⟩ : ∃ y : Int32, y = a5 + 1 := ⟨_, rfl⟩
          replace hF := lb_use ev6 hF
          refine v_iinc (j := 6) (v := v6) (ls' := [(5, zi v6), (6, zr 5 z4), (0, zr 3 0), (1, zi a1), (2, zi a2), (3, zi a3), (4, zi a4)]) dX3_passRights_79 rfl (by rw [ev6]; rfl) (by decide) rfl ?_
          clear ev6
          refine v_goto (tgt := 9) dX3_passRights_82 (by decide) ?_
          refine v_sub [2, 3, 4, 5, 6, 0] rfl ?_
          exact ih a1 a2 a3 a4 v6 h3 _ hF k
        · replace hF := brF q hF
          refine v_aload (j := 0) dX3_passRights_39 rfl ?_
          refine v_getI (c := 5) rfl (Or.inl rfl) cz5 flX3_96 dX3_passRights_41 ?_
          refine v_topi fun v7 ev7 => ?_
          replace hF := lb_use ev7 hF
          clear ev7
          refine v_istore (ls' := [(7, zi v7), (6, zr 5 z4), (0, zr 3 0), (1, zi a1), (2, zi a2), (3, zi a3), (4, zi a4), (5, zi a5)]) dX3_passRights_44 (by decide) rfl ?_
          refine v_aload (j := 1) dX3_passRights_46 rfl ?_
          refine v_iload_n (j := 5) dX3_passRights_48 rfl ?_
          replace hF := bd_use hF
          obtain ⟨r8, h9, er8, hF⟩ := hF
          refine v_cV (hm := h9) (av := [zi a3]) (st := []) (stn := []) (tX5_endAhead er8) lcX5_endAhead mlX3_99 imX5_endAhead seX5_endAhead rfl rfl rfl rfl ⟨by decide, by decide⟩ (Nat.le_of_ble_eq_true rfl) dX3_passRights_49 rfl rfl ?_
          clear er8
          refine v_aload (j := 1) dX3_passRights_52 rfl ?_
          refine v_getI (c := 5) rfl (Or.inr rfl) cz5 flX3_92 dX3_passRights_54 ?_
          refine v_if_eq dX3_passRights_57 (by decide : _ = ((79 : Nat) : Int)) (fun q => ?_) (fun q => ?_)
          · replace hF := brT q hF
            obtain ⟨v10, ev10⟩ : ∃ y : Int32, y = a5 + 1 := ⟨_, rfl⟩
            replace hF := lb_use ev10 hF
            refine v_iinc (j := 7) (v := v10) (ls' := [(5, zi v10), (7, zi v7), (6, zr 5 z4), (0, zr 3 0), (1, zi a1), (2, zi a2), (3, zi a3), (4, zi a4)]) dX3_passRights_79 rfl (by rw [ev10]; rfl) (by decide) rfl ?_
            clear ev10
            refine v_goto (tgt := 9) dX3_passRights_82 (by decide) ?_
            refine v_sub [3, 4, 5, 6, 7, 0] rfl ?_
            exact ih a1 a2 a3 a4 v10 h9 _ hF k
          · replace hF := brF q hF
            refine v_iload_n (j := 4) dX3_passRights_60 rfl ?_
            refine v_iconst (v := (-1)) dX3_passRights_61 (by decide) ?_
            refine v_icmp_eq dX3_passRights_62 (by decide : _ = ((79 : Nat) : Int)) (fun q => ?_) (fun q => ?_)
            · replace hF := brT q hF
              obtain ⟨v11, ev11⟩ : ∃ y : Int32, y = a5 + 1 := ⟨_, rfl⟩
              replace hF := lb_use ev11 hF
              refine v_iinc (j := 7) (v := v11) (ls' := [(5, zi v11), (7, zi v7), (6, zr 5 z4), (0, zr 3 0), (1, zi a1), (2, zi a2), (3, zi a3), (4, zi a4)]) dX3_passRights_79 rfl (by rw [ev11]; rfl) (by decide) rfl ?_
              clear ev11
              refine v_goto (tgt := 9) dX3_passRights_82 (by decide) ?_
              refine v_sub [3, 4, 5, 6, 7, 0] rfl ?_
              exact ih a1 a2 a3 a4 v11 h9 _ hF k
            · replace hF := brF q hF
              refine v_aload_n (j := 2) dX3_passRights_65 rfl ?_
              refine v_aload (j := 1) dX3_passRights_66 rfl ?_
              refine v_iload_n (j := 4) dX3_passRights_68 rfl ?_
              refine v_iload (j := 0) dX3_passRights_69 rfl ?_
              refine v_iload_n (j := 5) dX3_passRights_71 rfl ?_
              replace hF := bd_use hF
              obtain ⟨r12, h13, er12, hF⟩ := hF
              refine v_cS (hm := h13) (av := [zr 5 z4, zi a2, zi v7, zi a3]) (st := [zr 3 0]) (stn := [zr 5 r12, zr 3 0]) (tX3_inherited er12) lcX3_inherited mlX3_103 sxX3_inherited rfl ⟨by decide, by decide⟩ (Nat.le_of_ble_eq_true rfl) dX3_passRights_72 rfl rfl ?_
              clear er12
              replace hF := bd_use hF
              obtain ⟨r14, h15, er14, hF⟩ := hF
              refine v_cV (hm := h15) (av := [zr 5 r12]) (st := []) (stn := [zi r14]) (tX3_enter er14) lcX3_enter mlX3_107 imX3_enter seX3_enter rfl rfl rfl rfl ⟨by decide, by decide⟩ (Nat.le_of_ble_eq_true rfl) dX3_passRights_75 rfl rfl ?_
              clear er14
              refine v_pop dX3_passRights_78 rfl ?_
              obtain ⟨v16, ev16⟩ : ∃ y : Int32, y = a5 + 1 := ⟨_, rfl⟩
              replace hF := lb_use ev16 hF
              refine v_iinc (j := 7) (v := v16) (ls' := [(5, zi v16), (7, zi v7), (6, zr 5 z4), (0, zr 3 0), (1, zi a1), (2, zi a2), (3, zi a3), (4, zi a4)]) dX3_passRights_79 rfl (by rw [ev16]; rfl) (by decide) rfl ?_
              clear ev16
              refine v_goto (tgt := 9) dX3_passRights_82 (by decide) ?_
              refine v_sub [3, 4, 5, 6, 7, 0] rfl ?_
              exact ih a1 a2 a3 a4 v16 h15 _ hF k
set_option maxRecDepth 20000 in
theorem tX3_passRights {X : Cz} {a1 : Int32} {a2 : Int32} {a3 : Int32} {h hE : Hp} {rE : Unit} (hF : fX3_passRights a1 a2 a3 h = some (rE, hE)) : Ct X mX3_passRights true [zr 3 0, zi a1, zi a2, zi a3] h (none) hE := by
  refine Ct_of (by decide) (Nat.le_of_ble_eq_true rfl) (ls := [(0, zr 3 0), (1, zi a1), (2, zi a2), (3, zi a3)]) rfl ?_
  unfold fX3_passRights at hF
  refine v_aload_n (j := 0) dX3_passRights_0 rfl ?_
  refine v_getI (c := 3) rfl (Or.inl rfl) cz3 flX3_48 dX3_passRights_1 ?_
  refine v_topi fun v1 ev1 => ?_
  replace hF := lb_use ev1 hF
  clear ev1
  refine v_istore (ls' := [(4, zi v1), (0, zr 3 0), (1, zi a1), (2, zi a2), (3, zi a3)]) dX3_passRights_4 (by decide) rfl ?_
  refine v_iconst (v := 0) dX3_passRights_6 (by decide) ?_
  refine v_istore (ls' := [(5, zi 0), (4, zi v1), (0, zr 3 0), (1, zi a1), (2, zi a2), (3, zi a3)]) dX3_passRights_7 (by decide) rfl ?_
  refine v_sub [2, 3, 4, 5, 1, 0] rfl ?_
  replace hF := bd_use hF
  obtain ⟨v19, h17, ev19, hF⟩ := hF
  refine tX3_passRights_L9 _ a1 a2 a3 v1 0 h _ ev19 ?_
  clear ev19
  cases hF
  exact v_vret rfl dX3_passRights_85
