/-! functions and ties, printed by program (wip/gen/dec.py) -/
theorem dX11_enterRent_0 : decode cX11_enterRent 0 = .ok (.aload_n 0, 1) := by decide +kernel
theorem dX11_enterRent_1 : decode cX11_enterRent 1 = .ok (.getfield 42, 3) := by decide +kernel
theorem dX11_enterRent_4 : decode cX11_enterRent 4 = .ok (.getfield 295, 3) := by decide +kernel
theorem dX11_enterRent_7 : decode cX11_enterRent 7 = .ok (.iload_n 1, 1) := by decide +kernel
theorem dX11_enterRent_8 : decode cX11_enterRent 8 = .ok (.iaload, 1) := by decide +kernel
theorem dX11_enterRent_9 : decode cX11_enterRent 9 = .ok (.istore_n 2, 1) := by decide +kernel
theorem dX11_enterRent_10 : decode cX11_enterRent 10 = .ok (.aload_n 0, 1) := by decide +kernel
theorem dX11_enterRent_11 : decode cX11_enterRent 11 = .ok (.getfield 42, 3) := by decide +kernel
theorem dX11_enterRent_14 : decode cX11_enterRent 14 = .ok (.iload_n 2, 1) := by decide +kernel
theorem dX11_enterRent_15 : decode cX11_enterRent 15 = .ok (.invokevirtual 242, 3) := by decide +kernel
theorem dX11_enterRent_18 : decode cX11_enterRent 18 = .ok (.ifCond .ne 4, 3) := by decide +kernel
theorem dX11_enterRent_21 : decode cX11_enterRent 21 = .ok (.return_, 1) := by decide +kernel
theorem dX11_enterRent_22 : decode cX11_enterRent 22 = .ok (.new 185, 3) := by decide +kernel
theorem dX11_enterRent_25 : decode cX11_enterRent 25 = .ok (.dup, 1) := by decide +kernel
theorem dX11_enterRent_26 : decode cX11_enterRent 26 = .ok (.iconst 3, 1) := by decide +kernel
theorem dX11_enterRent_27 : decode cX11_enterRent 27 = .ok (.iload_n 1, 1) := by decide +kernel
theorem dX11_enterRent_28 : decode cX11_enterRent 28 = .ok (.aload_n 0, 1) := by decide +kernel
theorem dX11_enterRent_29 : decode cX11_enterRent 29 = .ok (.getfield 42, 3) := by decide +kernel
theorem dX11_enterRent_32 : decode cX11_enterRent 32 = .ok (.getfield 438, 3) := by decide +kernel
theorem dX11_enterRent_35 : decode cX11_enterRent 35 = .ok (.iload_n 2, 1) := by decide +kernel
theorem dX11_enterRent_36 : decode cX11_enterRent 36 = .ok (.iaload, 1) := by decide +kernel
theorem dX11_enterRent_37 : decode cX11_enterRent 37 = .ok (.aload_n 0, 1) := by decide +kernel
theorem dX11_enterRent_38 : decode cX11_enterRent 38 = .ok (.getfield 42, 3) := by decide +kernel
theorem dX11_enterRent_41 : decode cX11_enterRent 41 = .ok (.getfield 441, 3) := by decide +kernel
theorem dX11_enterRent_44 : decode cX11_enterRent 44 = .ok (.iload_n 2, 1) := by decide +kernel
theorem dX11_enterRent_45 : decode cX11_enterRent 45 = .ok (.iaload, 1) := by decide +kernel
theorem dX11_enterRent_46 : decode cX11_enterRent 46 = .ok (.aload_n 0, 1) := by decide +kernel
theorem dX11_enterRent_47 : decode cX11_enterRent 47 = .ok (.getfield 42, 3) := by decide +kernel
theorem dX11_enterRent_50 : decode cX11_enterRent 50 = .ok (.getfield 444, 3) := by decide +kernel
theorem dX11_enterRent_53 : decode cX11_enterRent 53 = .ok (.iload_n 2, 1) := by decide +kernel
theorem dX11_enterRent_54 : decode cX11_enterRent 54 = .ok (.iaload, 1) := by decide +kernel
theorem dX11_enterRent_55 : decode cX11_enterRent 55 = .ok (.invokespecial 187, 3) := by decide +kernel
theorem dX11_enterRent_58 : decode cX11_enterRent 58 = .ok (.astore_n 3, 1) := by decide +kernel
theorem dX11_enterRent_59 : decode cX11_enterRent 59 = .ok (.aload_n 3, 1) := by decide +kernel
theorem dX11_enterRent_60 : decode cX11_enterRent 60 = .ok (.aload_n 0, 1) := by decide +kernel
theorem dX11_enterRent_61 : decode cX11_enterRent 61 = .ok (.getfield 111, 3) := by decide +kernel
theorem dX11_enterRent_64 : decode cX11_enterRent 64 = .ok (.aload_n 0, 1) := by decide +kernel
theorem dX11_enterRent_65 : decode cX11_enterRent 65 = .ok (.getfield 111, 3) := by decide +kernel
theorem dX11_enterRent_68 : decode cX11_enterRent 68 = .ok (.sipush 199, 3) := by decide +kernel
theorem dX11_enterRent_71 : decode cX11_enterRent 71 = .ok (.aload_n 0, 1) := by decide +kernel
theorem dX11_enterRent_72 : decode cX11_enterRent 72 = .ok (.getfield 111, 3) := by decide +kernel
theorem dX11_enterRent_75 : decode cX11_enterRent 75 = .ok (.aload_n 0, 1) := by decide +kernel
theorem dX11_enterRent_76 : decode cX11_enterRent 76 = .ok (.getfield 42, 3) := by decide +kernel
theorem dX11_enterRent_79 : decode cX11_enterRent 79 = .ok (.getfield 447, 3) := by decide +kernel
theorem dX11_enterRent_82 : decode cX11_enterRent 82 = .ok (.iload_n 2, 1) := by decide +kernel
theorem dX11_enterRent_83 : decode cX11_enterRent 83 = .ok (.iaload, 1) := by decide +kernel
theorem dX11_enterRent_84 : decode cX11_enterRent 84 = .ok (.iadd, 1) := by decide +kernel
theorem dX11_enterRent_85 : decode cX11_enterRent 85 = .ok (.iconst 1, 1) := by decide +kernel
theorem dX11_enterRent_86 : decode cX11_enterRent 86 = .ok (.isub, 1) := by decide +kernel
theorem dX11_enterRent_87 : decode cX11_enterRent 87 = .ok (.invokestatic 450, 3) := by decide +kernel
theorem dX11_enterRent_90 : decode cX11_enterRent 90 = .ok (.aload_n 0, 1) := by decide +kernel
theorem dX11_enterRent_91 : decode cX11_enterRent 91 = .ok (.getfield 111, 3) := by decide +kernel
theorem dX11_enterRent_94 : decode cX11_enterRent 94 = .ok (.invokevirtual 190, 3) := by decide +kernel
theorem dX11_enterRent_97 : decode cX11_enterRent 97 = .ok (.aload_n 3, 1) := by decide +kernel
theorem dX11_enterRent_98 : decode cX11_enterRent 98 = .ok (.aload_n 0, 1) := by decide +kernel
theorem dX11_enterRent_99 : decode cX11_enterRent 99 = .ok (.getfield 42, 3) := by decide +kernel
theorem dX11_enterRent_102 : decode cX11_enterRent 102 = .ok (.getfield 298, 3) := by decide +kernel
theorem dX11_enterRent_105 : decode cX11_enterRent 105 = .ok (.iload_n 1, 1) := by decide +kernel
theorem dX11_enterRent_106 : decode cX11_enterRent 106 = .ok (.iaload, 1) := by decide +kernel
theorem dX11_enterRent_107 : decode cX11_enterRent 107 = .ok (.putfield 455, 3) := by decide +kernel
theorem dX11_enterRent_110 : decode cX11_enterRent 110 = .ok (.aload_n 0, 1) := by decide +kernel
theorem dX11_enterRent_111 : decode cX11_enterRent 111 = .ok (.getfield 26, 3) := by decide +kernel
theorem dX11_enterRent_114 : decode cX11_enterRent 114 = .ok (.aload_n 3, 1) := by decide +kernel
theorem dX11_enterRent_115 : decode cX11_enterRent 115 = .ok (.invokevirtual 197, 3) := by decide +kernel
theorem dX11_enterRent_118 : decode cX11_enterRent 118 = .ok (.pop, 1) := by decide +kernel
theorem dX11_enterRent_119 : decode cX11_enterRent 119 = .ok (.return_, 1) := by decide +kernel
def fX11_enterRent (a1 : Int32) (h : Hp) : Option (Unit × Hp) := gd (ib a1 12) (lb (gI h 21 0 (ix a1)) (fun v2 => br ((fX0_isLot v2 h) = 0) (some ((), h)) (lb (gN h 5) (fun z3 => lb (nw h 5 13) (fun h4 => gd (ib v2 8) (gd (ib v2 8) (gd (ib v2 8) (bd (fX5_init z3 3 a1 (gI h4 13 0 (ix v2)) (gI h4 14 0 (ix v2)) (gI h4 15 0 (ix v2)) h4) (fun r8 h9 => gd (ib v2 8) (bd (fX5_setYears z3 (gI h9 11 0 11) (gI h9 11 0 11) (mnI 199 (((gI h9 11 0 11) + (gI h9 16 0 (ix v2))) - 1)) (gI h9 11 0 11) h9) (fun r11 h12 => gd (ib a1 12) (lb (sI h12 5 z3 10 (gI h12 22 0 (ix a1))) (fun h14 => bd (fX3_enter z3 h14) (fun r15 h16 => some ((), h16)))))))))))))))
set_option maxRecDepth 20000 in
theorem tX11_enterRent {X : Cz} {a1 : Int32} {h hE : Hp} {rE : Unit} (hF : fX11_enterRent a1 h = some (rE, hE)) : Ct X mX11_enterRent true [zr 11 0, zi a1] h (none) hE := by
  refine Ct_of (by decide) (Nat.le_of_ble_eq_true rfl) (ls := [(0, zr 11 0), (1, zi a1)]) rfl ?_
  unfold fX11_enterRent at hF
  refine v_aload_n (j := 0) dX11_enterRent_0 rfl ?_
  refine v_getL (c := 11) rfl rfl rfl ly11_4 cz11 flX11_42 dX11_enterRent_1 ?_
  refine v_getL (c := 0) rfl rfl rfl ly0_10 cz0 flX11_295 dX11_enterRent_4 ?_
  refine v_iload_n (j := 1) dX11_enterRent_7 rfl ?_
  replace hF := gd_use hF
  obtain ⟨q1, hF⟩ := hF
  refine v_iald rfl q1 dX11_enterRent_8 ?_
  refine v_topi fun v2 ev2 => ?_
  replace hF := lb_use ev2 hF
  clear ev2
  refine v_istore_n (ls' := [(2, zi v2), (0, zr 11 0), (1, zi a1)]) dX11_enterRent_9 (by decide) rfl ?_
  refine v_aload_n (j := 1) dX11_enterRent_10 rfl ?_
  refine v_getL (c := 11) rfl rfl rfl ly11_4 cz11 flX11_42 dX11_enterRent_11 ?_
  refine v_iload_n (j := 0) dX11_enterRent_14 rfl ?_
  refine v_cV (hm := h) (av := [zi v2]) (st := []) (stn := [zi (fX0_isLot v2 h)]) (tX0_isLot v2 h) lcX0_isLot mlX11_242 imX0_isLot seX0_isLot rfl rfl rfl rfl ⟨by decide, by decide⟩ (Nat.le_of_ble_eq_true rfl) dX11_enterRent_15 rfl rfl ?_
  refine v_if_ne dX11_enterRent_18 (by decide : _ = ((22 : Nat) : Int)) (fun q => ?_) (fun q => ?_)
  · replace hF := brF q hF
    refine v_new (k := 5) (c := 5) rfl (by decide) rfl clX11_185 cz5 (Or.inr (by decide)) dX11_enterRent_22 ?_
    refine v_topr fun z3 ez3 => ?_
    replace hF := lb_use ez3 hF
    clear ez3
    refine v_toph fun h4 eh4 => ?_
    replace hF := lb_use eh4 hF
    clear eh4
    refine v_dup dX11_enterRent_25 rfl ?_
    refine v_iconst (v := 3) dX11_enterRent_26 (by decide) ?_
    refine v_iload_n (j := 2) dX11_enterRent_27 rfl ?_
    refine v_aload_n (j := 1) dX11_enterRent_28 rfl ?_
    refine v_getL (c := 11) rfl rfl rfl ly11_4 cz11 flX11_42 dX11_enterRent_29 ?_
    refine v_getL (c := 0) rfl rfl rfl ly0_1 cz0 flX11_438 dX11_enterRent_32 ?_
    refine v_iload_n (j := 0) dX11_enterRent_35 rfl ?_
    replace hF := gd_use hF
    obtain ⟨q5, hF⟩ := hF
    refine v_iald rfl q5 dX11_enterRent_36 ?_
    refine v_aload_n (j := 1) dX11_enterRent_37 rfl ?_
    refine v_getL (c := 11) rfl rfl rfl ly11_4 cz11 flX11_42 dX11_enterRent_38 ?_
    refine v_getL (c := 0) rfl rfl rfl ly0_2 cz0 flX11_441 dX11_enterRent_41 ?_
    refine v_iload_n (j := 0) dX11_enterRent_44 rfl ?_
    replace hF := gd_use hF
    obtain ⟨q6, hF⟩ := hF
    refine v_iald rfl q6 dX11_enterRent_45 ?_
    refine v_aload_n (j := 1) dX11_enterRent_46 rfl ?_
    refine v_getL (c := 11) rfl rfl rfl ly11_4 cz11 flX11_42 dX11_enterRent_47 ?_
    refine v_getL (c := 0) rfl rfl rfl ly0_3 cz0 flX11_444 dX11_enterRent_50 ?_
    refine v_iload_n (j := 0) dX11_enterRent_53 rfl ?_
    replace hF := gd_use hF
    obtain ⟨q7, hF⟩ := hF
    refine v_iald rfl q7 dX11_enterRent_54 ?_
    replace hF := bd_use hF
    obtain ⟨r8, h9, er8, hF⟩ := hF
    refine v_cI (hm := h9) (av := [zi 3, zi a1, zi (gI h4 13 0 (ix v2)), zi (gI h4 14 0 (ix v2)), zi (gI h4 15 0 (ix v2))]) (st := [zr 5 z3]) (stn := [zr 5 z3]) (tX5_init er8) lcX5_init mlX11_187 imX5_init rfl rfl rfl ⟨by decide, by decide⟩ (Nat.le_of_ble_eq_true rfl) dX11_enterRent_55 rfl rfl ?_
    clear er8
    refine v_astore_n (ls' := [(3, zr 5 z3), (2, zi v2), (0, zr 11 0), (1, zi a1)]) dX11_enterRent_58 (by decide) rfl ?_
    refine v_aload_n (j := 0) dX11_enterRent_59 rfl ?_
    refine v_aload_n (j := 2) dX11_enterRent_60 rfl ?_
    refine v_getI (c := 11) rfl (Or.inl rfl) cz11 flX11_111 dX11_enterRent_61 ?_
    refine v_aload_n (j := 2) dX11_enterRent_64 rfl ?_
    refine v_getI (c := 11) rfl (Or.inl rfl) cz11 flX11_111 dX11_enterRent_65 ?_
    refine v_sipush (v := 199) dX11_enterRent_68 (by decide) ?_
    refine v_aload_n (j := 2) dX11_enterRent_71 rfl ?_
    refine v_getI (c := 11) rfl (Or.inl rfl) cz11 flX11_111 dX11_enterRent_72 ?_
    refine v_aload_n (j := 2) dX11_enterRent_75 rfl ?_
    refine v_getL (c := 11) rfl rfl rfl ly11_4 cz11 flX11_42 dX11_enterRent_76 ?_
    refine v_getL (c := 0) rfl rfl rfl ly0_4 cz0 flX11_447 dX11_enterRent_79 ?_
    refine v_iload_n (j := 1) dX11_enterRent_82 rfl ?_
    replace hF := gd_use hF
    obtain ⟨q10, hF⟩ := hF
    refine v_iald rfl q10 dX11_enterRent_83 ?_
    refine v_iadd dX11_enterRent_84 ?_
    refine v_iconst (v := 1) dX11_enterRent_85 (by decide) ?_
    refine v_isub dX11_enterRent_86 ?_
    refine v_J9_min_7cf53 mlX11_450 (by decide) (Nat.le_of_ble_eq_true rfl) dX11_enterRent_87 ?_
    refine v_aload_n (j := 2) dX11_enterRent_90 rfl ?_
    refine v_getI (c := 11) rfl (Or.inl rfl) cz11 flX11_111 dX11_enterRent_91 ?_
    replace hF := bd_use hF
    obtain ⟨r11, h12, er11, hF⟩ := hF
    refine v_cV (hm := h12) (av := [zi (gI h9 11 0 11), zi (gI h9 11 0 11), zi (mnI 199 (((gI h9 11 0 11) + (gI h9 16 0 (ix v2))) - 1)), zi (gI h9 11 0 11)]) (st := []) (stn := []) (tX5_setYears er11) lcX5_setYears mlX11_190 imX5_setYears seX5_setYears rfl rfl rfl rfl ⟨by decide, by decide⟩ (Nat.le_of_ble_eq_true rfl) dX11_enterRent_94 rfl rfl ?_
    clear er11
    refine v_aload_n (j := 0) dX11_enterRent_97 rfl ?_
    refine v_aload_n (j := 2) dX11_enterRent_98 rfl ?_
    refine v_getL (c := 11) rfl rfl rfl ly11_4 cz11 flX11_42 dX11_enterRent_99 ?_
    refine v_getL (c := 0) rfl rfl rfl ly0_11 cz0 flX11_298 dX11_enterRent_102 ?_
    refine v_iload_n (j := 3) dX11_enterRent_105 rfl ?_
    replace hF := gd_use hF
    obtain ⟨q13, hF⟩ := hF
    refine v_iald rfl q13 dX11_enterRent_106 ?_
    refine v_putI (c := 5) rfl rfl (Nat.le_of_ble_eq_true rfl) cz5 flX11_455 dX11_enterRent_107 ?_
    refine v_toph fun h14 eh14 => ?_
    replace hF := lb_use eh14 hF
    clear eh14
    refine v_aload_n (j := 2) dX11_enterRent_110 rfl ?_
    refine v_getL (c := 11) rfl rfl rfl ly11_2 cz11 flX11_26 dX11_enterRent_111 ?_
    refine v_aload_n (j := 0) dX11_enterRent_114 rfl ?_
    replace hF := bd_use hF
    obtain ⟨r15, h16, er15, hF⟩ := hF
    refine v_cV (hm := h16) (av := [zr 5 z3]) (st := []) (stn := [zi r15]) (tX3_enter er15) lcX3_enter mlX11_197 imX3_enter seX3_enter rfl rfl rfl rfl ⟨by decide, by decide⟩ (Nat.le_of_ble_eq_true rfl) dX11_enterRent_115 rfl rfl ?_
    clear er15
    refine v_pop dX11_enterRent_118 rfl ?_
    cases hF
    exact v_vret rfl dX11_enterRent_119
  · replace hF := brT (Decidable.not_not.mp q) hF
    cases hF
    exact v_vret rfl dX11_enterRent_21
theorem dX11_knock_0 : decode cX11_knock 0 = .ok (.aload_n 0, 1) := by decide +kernel
theorem dX11_knock_1 : decode cX11_knock 1 = .ok (.getfield 42, 3) := by decide +kernel
theorem dX11_knock_4 : decode cX11_knock 4 = .ok (.getfield 263, 3) := by decide +kernel
theorem dX11_knock_7 : decode cX11_knock 7 = .ok (.ifCond .ne 7, 3) := by decide +kernel
theorem dX11_knock_10 : decode cX11_knock 10 = .ok (.ldc2_w 266, 3) := by decide +kernel
theorem dX11_knock_13 : decode cX11_knock 13 = .ok (.lreturn, 1) := by decide +kernel
theorem dX11_knock_14 : decode cX11_knock 14 = .ok (.aload_n 0, 1) := by decide +kernel
theorem dX11_knock_15 : decode cX11_knock 15 = .ok (.getfield 42, 3) := by decide +kernel
theorem dX11_knock_18 : decode cX11_knock 18 = .ok (.invokevirtual 268, 3) := by decide +kernel
theorem dX11_knock_21 : decode cX11_knock 21 = .ok (.aload_n 0, 1) := by decide +kernel
theorem dX11_knock_22 : decode cX11_knock 22 = .ok (.getfield 26, 3) := by decide +kernel
theorem dX11_knock_25 : decode cX11_knock 25 = .ok (.invokevirtual 150, 3) := by decide +kernel
theorem dX11_knock_28 : decode cX11_knock 28 = .ok (.if_icmp .le 7, 3) := by decide +kernel
theorem dX11_knock_31 : decode cX11_knock 31 = .ok (.ldc2_w 271, 3) := by decide +kernel
theorem dX11_knock_34 : decode cX11_knock 34 = .ok (.lreturn, 1) := by decide +kernel
theorem dX11_knock_35 : decode cX11_knock 35 = .ok (.aload_n 0, 1) := by decide +kernel
theorem dX11_knock_36 : decode cX11_knock 36 = .ok (.getfield 42, 3) := by decide +kernel
theorem dX11_knock_39 : decode cX11_knock 39 = .ok (.invokevirtual 273, 3) := by decide +kernel
theorem dX11_knock_42 : decode cX11_knock 42 = .ok (.iconst 0, 1) := by decide +kernel
theorem dX11_knock_43 : decode cX11_knock 43 = .ok (.istore_n 1, 1) := by decide +kernel
theorem dX11_knock_44 : decode cX11_knock 44 = .ok (.iload_n 1, 1) := by decide +kernel
theorem dX11_knock_45 : decode cX11_knock 45 = .ok (.bipush 12, 2) := by decide +kernel
theorem dX11_knock_47 : decode cX11_knock 47 = .ok (.if_icmp .ge 14, 3) := by decide +kernel
theorem dX11_knock_50 : decode cX11_knock 50 = .ok (.aload_n 0, 1) := by decide +kernel
theorem dX11_knock_51 : decode cX11_knock 51 = .ok (.iload_n 1, 1) := by decide +kernel
theorem dX11_knock_52 : decode cX11_knock 52 = .ok (.invokevirtual 276, 3) := by decide +kernel
theorem dX11_knock_55 : decode cX11_knock 55 = .ok (.iinc 1 1, 3) := by decide +kernel
theorem dX11_knock_58 : decode cX11_knock 58 = .ok (.goto (-14), 3) := by decide +kernel
theorem dX11_knock_61 : decode cX11_knock 61 = .ok (.aload_n 0, 1) := by decide +kernel
theorem dX11_knock_62 : decode cX11_knock 62 = .ok (.dup, 1) := by decide +kernel
theorem dX11_knock_63 : decode cX11_knock 63 = .ok (.getfield 279, 3) := by decide +kernel
theorem dX11_knock_66 : decode cX11_knock 66 = .ok (.aload_n 0, 1) := by decide +kernel
theorem dX11_knock_67 : decode cX11_knock 67 = .ok (.getfield 42, 3) := by decide +kernel
theorem dX11_knock_70 : decode cX11_knock 70 = .ok (.invokevirtual 283, 3) := by decide +kernel
theorem dX11_knock_73 : decode cX11_knock 73 = .ok (.ladd, 1) := by decide +kernel
theorem dX11_knock_74 : decode cX11_knock 74 = .ok (.putfield 279, 3) := by decide +kernel
theorem dX11_knock_77 : decode cX11_knock 77 = .ok (.aload_n 0, 1) := by decide +kernel
theorem dX11_knock_78 : decode cX11_knock 78 = .ok (.getfield 42, 3) := by decide +kernel
theorem dX11_knock_81 : decode cX11_knock 81 = .ok (.invokevirtual 287, 3) := by decide +kernel
theorem dX11_knock_84 : decode cX11_knock 84 = .ok (.aload_n 0, 1) := by decide +kernel
theorem dX11_knock_85 : decode cX11_knock 85 = .ok (.getfield 42, 3) := by decide +kernel
theorem dX11_knock_88 : decode cX11_knock 88 = .ok (.invokevirtual 283, 3) := by decide +kernel
theorem dX11_knock_91 : decode cX11_knock 91 = .ok (.lreturn, 1) := by decide +kernel
def fX11_knock_L44 : Nat → Int32 → Hp → Option ((Int32) × Hp)
  | 0, _, _ => none
  | n + 1, a1, h => br (12 ≤ a1) (some ((a1), h)) (bd (fX11_enterRent a1 h) (fun r5 h6 => lb (a1 + 1) (fun v7 => fX11_knock_L44 n v7 h6)))
def fX11_knock (h : Hp) : Option (Int64 × Hp) := br ((gI h 0 0 0) = 0) (some ((-1), h)) (bd (fX0_findWinners h) (fun r1 h2 => br (r1 ≤ (fX3_numbersLeft h2)) (bd (fX0_findPrices h2) (fun r3 h4 => bd (fX11_knock_L44 FU 0 h4) (fun v10 h8 => bd (fX0_income h8) (fun r11 h12 => lb (sJ h12 11 0 14 ((gJ h8 11 0 14) + r11)) (fun h13 => bd (fX0_close h13) (fun r14 h15 => bd (fX0_income h15) (fun r16 h17 => some (r16, h17)))))))) (some ((-3), h2))))
set_option maxRecDepth 20000 in
theorem tX11_knock_L44 {X : Cz} {h0 : Hp} {r : Option AV} {hE : Hp} : ∀ (n : Nat) (a1 : Int32) (h : Hp) (z : (Int32) × Hp), fX11_knock_L44 n a1 h = some z → V X mX11_knock true h0 61 [(0, zr 11 0), (1, zi z.1)] [] z.2 r hE → V X mX11_knock true h0 44 [(0, zr 11 0), (1, zi a1)] [] h r hE := by
  intro n
  induction n with
  | zero => intro a1 h z hF k; cases hF
  | succ n ih =>
    intro a1 h z hF k
    rw [fX11_knock_L44] at hF
    refine v_iload_n (j := 1) dX11_knock_44 rfl ?_
    refine v_bipush (v := 12) dX11_knock_45 (by decide) ?_
    refine v_icmp_ge dX11_knock_47 (by decide : _ = ((61 : Nat) : Int)) (fun q => ?_) (fun q => ?_)
    · replace hF := brT q hF
      cases hF
      exact k
    · replace hF := brF q hF
      refine v_aload_n (j := 0) dX11_knock_50 rfl ?_
      refine v_iload_n (j := 1) dX11_knock_51 rfl ?_
      replace hF := bd_use hF
      obtain ⟨r5, h6, er5, hF⟩ := hF
      refine v_cV (hm := h6) (av := [zi a1]) (st := []) (stn := []) (tX11_enterRent er5) lcX11_enterRent mlX11_276 imX11_enterRent seX11_enterRent rfl rfl rfl rfl ⟨by decide, by decide⟩ (Nat.le_of_ble_eq_true rfl) dX11_knock_52 rfl rfl ?_
      clear er5
      obtain ⟨v7, ev7⟩ : ∃ y : Int32, y = a1 + 1 := ⟨_, rfl⟩
      replace hF := lb_use ev7 hF
      refine v_iinc (j := 1) (v := v7) (ls' := [(1, zi v7), (0, zr 11 0)]) dX11_knock_55 rfl (by rw [ev7]; rfl) (by decide) rfl ?_
      clear ev7
      refine v_goto (tgt := 44) dX11_knock_58 (by decide) ?_
      refine v_sub [1, 0] rfl ?_
      exact ih v7 h6 _ hF k
set_option maxRecDepth 20000 in
theorem tX11_knock {X : Cz} {h hE : Hp} {rE : Int64} (hF : fX11_knock h = some (rE, hE)) : Ct X mX11_knock true [zr 11 0] h (some (zj rE)) hE := by
  refine Ct_of (by decide) (Nat.le_of_ble_eq_true rfl) (ls := [(0, zr 11 0)]) rfl ?_
  unfold fX11_knock at hF
  refine v_aload_n (j := 0) dX11_knock_0 rfl ?_
  refine v_getL (c := 11) rfl rfl rfl ly11_4 cz11 flX11_42 dX11_knock_1 ?_
  refine v_getI (c := 0) rfl (Or.inl rfl) cz0 flX11_263 dX11_knock_4 ?_
  refine v_if_ne dX11_knock_7 (by decide : _ = ((14 : Nat) : Int)) (fun q => ?_) (fun q => ?_)
  · replace hF := brF q hF
    refine v_aload_n (j := 0) dX11_knock_14 rfl ?_
    refine v_getL (c := 11) rfl rfl rfl ly11_4 cz11 flX11_42 dX11_knock_15 ?_
    replace hF := bd_use hF
    obtain ⟨r1, h2, er1, hF⟩ := hF
    refine v_cV (hm := h2) (av := []) (st := []) (stn := [zi r1]) (tX0_findWinners er1) lcX0_findWinners mlX11_268 imX0_findWinners seX0_findWinners rfl rfl rfl rfl ⟨by decide, by decide⟩ (Nat.le_of_ble_eq_true rfl) dX11_knock_18 rfl rfl ?_
    clear er1
    refine v_aload_n (j := 0) dX11_knock_21 rfl ?_
    refine v_getL (c := 11) rfl rfl rfl ly11_2 cz11 flX11_26 dX11_knock_22 ?_
    refine v_cV (hm := h2) (av := []) (st := [zi r1]) (stn := [zi (fX3_numbersLeft h2), zi r1]) (tX3_numbersLeft h2) lcX3_numbersLeft mlX11_150 imX3_numbersLeft seX3_numbersLeft rfl rfl rfl rfl ⟨by decide, by decide⟩ (Nat.le_of_ble_eq_true rfl) dX11_knock_25 rfl rfl ?_
    refine v_icmp_le dX11_knock_28 (by decide : _ = ((35 : Nat) : Int)) (fun q => ?_) (fun q => ?_)
    · replace hF := brT q hF
      refine v_aload_n (j := 0) dX11_knock_35 rfl ?_
      refine v_getL (c := 11) rfl rfl rfl ly11_4 cz11 flX11_42 dX11_knock_36 ?_
      replace hF := bd_use hF
      obtain ⟨r3, h4, er3, hF⟩ := hF
      refine v_cV (hm := h4) (av := []) (st := []) (stn := []) (tX0_findPrices er3) lcX0_findPrices mlX11_273 imX0_findPrices seX0_findPrices rfl rfl rfl rfl ⟨by decide, by decide⟩ (Nat.le_of_ble_eq_true rfl) dX11_knock_39 rfl rfl ?_
      clear er3
      refine v_iconst (v := 0) dX11_knock_42 (by decide) ?_
      refine v_istore_n (ls' := [(1, zi 0), (0, zr 11 0)]) dX11_knock_43 (by decide) rfl ?_
      refine v_sub [1, 0] rfl ?_
      replace hF := bd_use hF
      obtain ⟨v10, h8, ev10, hF⟩ := hF
      refine tX11_knock_L44 _ 0 h4 _ ev10 ?_
      clear ev10
      refine v_aload_n (j := 0) dX11_knock_61 rfl ?_
      refine v_dup dX11_knock_62 rfl ?_
      refine v_getJ (c := 11) rfl rfl cz11 flX11_279 dX11_knock_63 ?_
      refine v_aload_n (j := 0) dX11_knock_66 rfl ?_
      refine v_getL (c := 11) rfl rfl rfl ly11_4 cz11 flX11_42 dX11_knock_67 ?_
      replace hF := bd_use hF
      obtain ⟨r11, h12, er11, hF⟩ := hF
      refine v_cV (hm := h12) (av := []) (st := [zj (gJ h8 11 0 14), zr 11 0]) (stn := [zj r11, zj (gJ h8 11 0 14), zr 11 0]) (tX0_income er11) lcX0_income mlX11_283 imX0_income seX0_income rfl rfl rfl rfl ⟨by decide, by decide⟩ (Nat.le_of_ble_eq_true rfl) dX11_knock_70 rfl rfl ?_
      clear er11
      refine v_ladd dX11_knock_73 ?_
      refine v_putJ (c := 11) rfl rfl (Nat.le_of_ble_eq_true rfl) cz11 flX11_279 dX11_knock_74 ?_
      refine v_toph fun h13 eh13 => ?_
      replace hF := lb_use eh13 hF
      clear eh13
      refine v_aload_n (j := 0) dX11_knock_77 rfl ?_
      refine v_getL (c := 11) rfl rfl rfl ly11_4 cz11 flX11_42 dX11_knock_78 ?_
      replace hF := bd_use hF
      obtain ⟨r14, h15, er14, hF⟩ := hF
      refine v_cV (hm := h15) (av := []) (st := []) (stn := []) (tX0_close er14) lcX0_close mlX11_287 imX0_close seX0_close rfl rfl rfl rfl ⟨by decide, by decide⟩ (Nat.le_of_ble_eq_true rfl) dX11_knock_81 rfl rfl ?_
      clear er14
      refine v_aload_n (j := 0) dX11_knock_84 rfl ?_
      refine v_getL (c := 11) rfl rfl rfl ly11_4 cz11 flX11_42 dX11_knock_85 ?_
      replace hF := bd_use hF
      obtain ⟨r16, h17, er16, hF⟩ := hF
      refine v_cV (hm := h17) (av := []) (st := []) (stn := [zj r16]) (tX0_income er16) lcX0_income mlX11_283 imX0_income seX0_income rfl rfl rfl rfl ⟨by decide, by decide⟩ (Nat.le_of_ble_eq_true rfl) dX11_knock_88 rfl rfl ?_
      clear er16
      obtain ⟨rfl, rfl⟩ := ret_use hF
      exact v_lret rfl dX11_knock_91
    · replace hF := brF q hF
      refine v_ldc2 dX11_knock_31 kcX11_271 ?_
      obtain ⟨rfl, rfl⟩ := ret_use hF
      exact v_lret rfl dX11_knock_34
  · replace hF := brT (Decidable.not_not.mp q) hF
    refine v_ldc2 dX11_knock_10 kcX11_266 ?_
    obtain ⟨rfl, rfl⟩ := ret_use hF
    exact v_lret rfl dX11_knock_13
theorem dX11_knocked_0 : decode cX11_knocked 0 = .ok (.aload_n 0, 1) := by decide +kernel
theorem dX11_knocked_1 : decode cX11_knocked 1 = .ok (.getfield 19, 3) := by decide +kernel
theorem dX11_knocked_4 : decode cX11_knocked 4 = .ok (.iload_n 1, 1) := by decide +kernel
theorem dX11_knocked_5 : decode cX11_knocked 5 = .ok (.invokevirtual 182, 3) := by decide +kernel
theorem dX11_knocked_8 : decode cX11_knocked 8 = .ok (.ifCond .eq 13, 3) := by decide +kernel
theorem dX11_knocked_11 : decode cX11_knocked 11 = .ok (.aload_n 0, 1) := by decide +kernel
theorem dX11_knocked_12 : decode cX11_knocked 12 = .ok (.getfield 42, 3) := by decide +kernel
theorem dX11_knocked_15 : decode cX11_knocked 15 = .ok (.getfield 290, 3) := by decide +kernel
theorem dX11_knocked_18 : decode cX11_knocked 18 = .ok (.ifCond .ne 7, 3) := by decide +kernel
theorem dX11_knocked_21 : decode cX11_knocked 21 = .ok (.ldc2_w 293, 3) := by decide +kernel
theorem dX11_knocked_24 : decode cX11_knocked 24 = .ok (.lreturn, 1) := by decide +kernel
theorem dX11_knocked_25 : decode cX11_knocked 25 = .ok (.iload_n 2, 1) := by decide +kernel
theorem dX11_knocked_26 : decode cX11_knocked 26 = .ok (.tableswitch 57 0 2 #[26, 37, 48], 26) := by decide +kernel
theorem dX11_knocked_52 : decode cX11_knocked 52 = .ok (.aload_n 0, 1) := by decide +kernel
theorem dX11_knocked_53 : decode cX11_knocked 53 = .ok (.getfield 42, 3) := by decide +kernel
theorem dX11_knocked_56 : decode cX11_knocked 56 = .ok (.getfield 295, 3) := by decide +kernel
theorem dX11_knocked_59 : decode cX11_knocked 59 = .ok (.iload_n 1, 1) := by decide +kernel
theorem dX11_knocked_60 : decode cX11_knocked 60 = .ok (.iaload, 1) := by decide +kernel
theorem dX11_knocked_61 : decode cX11_knocked 61 = .ok (.i2l, 1) := by decide +kernel
theorem dX11_knocked_62 : decode cX11_knocked 62 = .ok (.lreturn, 1) := by decide +kernel
theorem dX11_knocked_63 : decode cX11_knocked 63 = .ok (.aload_n 0, 1) := by decide +kernel
theorem dX11_knocked_64 : decode cX11_knocked 64 = .ok (.getfield 42, 3) := by decide +kernel
theorem dX11_knocked_67 : decode cX11_knocked 67 = .ok (.getfield 298, 3) := by decide +kernel
theorem dX11_knocked_70 : decode cX11_knocked 70 = .ok (.iload_n 1, 1) := by decide +kernel
theorem dX11_knocked_71 : decode cX11_knocked 71 = .ok (.iaload, 1) := by decide +kernel
theorem dX11_knocked_72 : decode cX11_knocked 72 = .ok (.i2l, 1) := by decide +kernel
theorem dX11_knocked_73 : decode cX11_knocked 73 = .ok (.lreturn, 1) := by decide +kernel
theorem dX11_knocked_74 : decode cX11_knocked 74 = .ok (.aload_n 0, 1) := by decide +kernel
theorem dX11_knocked_75 : decode cX11_knocked 75 = .ok (.getfield 42, 3) := by decide +kernel
theorem dX11_knocked_78 : decode cX11_knocked 78 = .ok (.getfield 301, 3) := by decide +kernel
theorem dX11_knocked_81 : decode cX11_knocked 81 = .ok (.i2l, 1) := by decide +kernel
theorem dX11_knocked_82 : decode cX11_knocked 82 = .ok (.lreturn, 1) := by decide +kernel
theorem dX11_knocked_83 : decode cX11_knocked 83 = .ok (.ldc2_w 293, 3) := by decide +kernel
theorem dX11_knocked_86 : decode cX11_knocked 86 = .ok (.lreturn, 1) := by decide +kernel
def fX11_knocked (a1 : Int32) (a2 : Int32) (h : Hp) : Option (Int64 × Hp) := br ((fX4_isHousehold a1 h) = 0) (some ((-2), h)) (br ((gI h 0 0 9) = 0) (some ((-2), h)) (br (a2 = 0) (gd (ib a1 12) (some ((gI h 21 0 (ix a1)).toInt64, h))) (br (a2 = 1) (gd (ib a1 12) (some ((gI h 22 0 (ix a1)).toInt64, h))) (br (a2 = 2) (some ((gI h 0 0 12).toInt64, h)) (some ((-2), h))))))
set_option maxRecDepth 20000 in
theorem tX11_knocked {X : Cz} {a1 : Int32} {a2 : Int32} {h hE : Hp} {rE : Int64} (hF : fX11_knocked a1 a2 h = some (rE, hE)) : Ct X mX11_knocked true [zr 11 0, zi a1, zi a2] h (some (zj rE)) hE := by
  refine Ct_of (by decide) (Nat.le_of_ble_eq_true rfl) (ls := [(0, zr 11 0), (1, zi a1), (2, zi a2)]) rfl ?_
  unfold fX11_knocked at hF
  refine v_aload_n (j := 0) dX11_knocked_0 rfl ?_
  refine v_getL (c := 11) rfl rfl rfl ly11_1 cz11 flX11_19 dX11_knocked_1 ?_
  refine v_iload_n (j := 1) dX11_knocked_4 rfl ?_
  refine v_cV (hm := h) (av := [zi a1]) (st := []) (stn := [zi (fX4_isHousehold a1 h)]) (tX4_isHousehold a1 h) lcX4_isHousehold mlX11_182 imX4_isHousehold seX4_isHousehold rfl rfl rfl rfl ⟨by decide, by decide⟩ (Nat.le_of_ble_eq_true rfl) dX11_knocked_5 rfl rfl ?_
  refine v_if_eq dX11_knocked_8 (by decide : _ = ((21 : Nat) : Int)) (fun q => ?_) (fun q => ?_)
  · replace hF := brT q hF
    refine v_ldc2 dX11_knocked_21 kcX11_293 ?_
    obtain ⟨rfl, rfl⟩ := ret_use hF
    exact v_lret rfl dX11_knocked_24
  · replace hF := brF q hF
    refine v_aload_n (j := 0) dX11_knocked_11 rfl ?_
    refine v_getL (c := 11) rfl rfl rfl ly11_4 cz11 flX11_42 dX11_knocked_12 ?_
    refine v_getI (c := 0) rfl (Or.inr rfl) cz0 flX11_290 dX11_knocked_15 ?_
    refine v_if_ne dX11_knocked_18 (by decide : _ = ((25 : Nat) : Int)) (fun q => ?_) (fun q => ?_)
    · replace hF := brF q hF
      refine v_iload_n (j := 2) dX11_knocked_25 rfl ?_
      by_cases q0 : a2 = 0
      · replace hF := brT q0 hF
        subst q0
        refine v_tblIn (tgt := 52) dX11_knocked_26 (by decide) (by decide) rfl (by decide) ?_
        refine v_aload_n (j := 0) dX11_knocked_52 rfl ?_
        refine v_getL (c := 11) rfl rfl rfl ly11_4 cz11 flX11_42 dX11_knocked_53 ?_
        refine v_getL (c := 0) rfl rfl rfl ly0_10 cz0 flX11_295 dX11_knocked_56 ?_
        refine v_iload_n (j := 1) dX11_knocked_59 rfl ?_
        replace hF := gd_use hF
        obtain ⟨q1, hF⟩ := hF
        refine v_iald rfl q1 dX11_knocked_60 ?_
        refine v_i2l dX11_knocked_61 ?_
        obtain ⟨rfl, rfl⟩ := ret_use hF
        exact v_lret rfl dX11_knocked_62
      replace hF := brF q0 hF
      by_cases q1 : a2 = 1
      · replace hF := brT q1 hF
        subst q1
        refine v_tblIn (tgt := 63) dX11_knocked_26 (by decide) (by decide) rfl (by decide) ?_
        refine v_aload_n (j := 0) dX11_knocked_63 rfl ?_
        refine v_getL (c := 11) rfl rfl rfl ly11_4 cz11 flX11_42 dX11_knocked_64 ?_
        refine v_getL (c := 0) rfl rfl rfl ly0_11 cz0 flX11_298 dX11_knocked_67 ?_
        refine v_iload_n (j := 1) dX11_knocked_70 rfl ?_
        replace hF := gd_use hF
        obtain ⟨q2, hF⟩ := hF
        refine v_iald rfl q2 dX11_knocked_71 ?_
        refine v_i2l dX11_knocked_72 ?_
        obtain ⟨rfl, rfl⟩ := ret_use hF
        exact v_lret rfl dX11_knocked_73
      replace hF := brF q1 hF
      by_cases q2 : a2 = 2
      · replace hF := brT q2 hF
        subst q2
        refine v_tblIn (tgt := 74) dX11_knocked_26 (by decide) (by decide) rfl (by decide) ?_
        refine v_aload_n (j := 0) dX11_knocked_74 rfl ?_
        refine v_getL (c := 11) rfl rfl rfl ly11_4 cz11 flX11_42 dX11_knocked_75 ?_
        refine v_getI (c := 0) rfl (Or.inl rfl) cz0 flX11_301 dX11_knocked_78 ?_
        refine v_i2l dX11_knocked_81 ?_
        obtain ⟨rfl, rfl⟩ := ret_use hF
        exact v_lret rfl dX11_knocked_82
      replace hF := brF q2 hF
      have nq0 := lv_neT (a := 0) q0 rfl
      have nq1 := lv_neT (a := 1) q1 rfl
      have nq2 := lv_neT (a := 2) q2 rfl
      refine v_tblOut (tgt := 83) dX11_knocked_26 (by omega) (by decide) ?_
      refine v_ldc2 dX11_knocked_83 kcX11_293 ?_
      obtain ⟨rfl, rfl⟩ := ret_use hF
      exact v_lret rfl dX11_knocked_86
    · replace hF := brT (Decidable.not_not.mp q) hF
      refine v_ldc2 dX11_knocked_21 kcX11_293 ?_
      obtain ⟨rfl, rfl⟩ := ret_use hF
      exact v_lret rfl dX11_knocked_24
theorem dX11_seatingOf_0 : decode cX11_seatingOf 0 = .ok (.iload_n 1, 1) := by decide +kernel
theorem dX11_seatingOf_1 : decode cX11_seatingOf 1 = .ok (.ifCond .lt 29, 3) := by decide +kernel
theorem dX11_seatingOf_4 : decode cX11_seatingOf 4 = .ok (.iload_n 1, 1) := by decide +kernel
theorem dX11_seatingOf_5 : decode cX11_seatingOf 5 = .ok (.aload_n 0, 1) := by decide +kernel
theorem dX11_seatingOf_6 : decode cX11_seatingOf 6 = .ok (.getfield 111, 3) := by decide +kernel
theorem dX11_seatingOf_9 : decode cX11_seatingOf 9 = .ok (.if_icmp .ge 21, 3) := by decide +kernel
theorem dX11_seatingOf_12 : decode cX11_seatingOf 12 = .ok (.iload_n 1, 1) := by decide +kernel
theorem dX11_seatingOf_13 : decode cX11_seatingOf 13 = .ok (.aload_n 0, 1) := by decide +kernel
theorem dX11_seatingOf_14 : decode cX11_seatingOf 14 = .ok (.getfield 71, 3) := by decide +kernel
theorem dX11_seatingOf_17 : decode cX11_seatingOf 17 = .ok (.arraylength, 1) := by decide +kernel
theorem dX11_seatingOf_18 : decode cX11_seatingOf 18 = .ok (.if_icmp .ge 12, 3) := by decide +kernel
theorem dX11_seatingOf_21 : decode cX11_seatingOf 21 = .ok (.aload_n 0, 1) := by decide +kernel
theorem dX11_seatingOf_22 : decode cX11_seatingOf 22 = .ok (.getfield 71, 3) := by decide +kernel
theorem dX11_seatingOf_25 : decode cX11_seatingOf 25 = .ok (.iload_n 1, 1) := by decide +kernel
theorem dX11_seatingOf_26 : decode cX11_seatingOf 26 = .ok (.aaload, 1) := by decide +kernel
theorem dX11_seatingOf_27 : decode cX11_seatingOf 27 = .ok (.goto 4, 3) := by decide +kernel
theorem dX11_seatingOf_30 : decode cX11_seatingOf 30 = .ok (.aconst_null, 1) := by decide +kernel
theorem dX11_seatingOf_31 : decode cX11_seatingOf 31 = .ok (.areturn, 1) := by decide +kernel
def fX11_seatingOf (a1 : Int32) (h : Hp) : Option (Option Nat × Hp) := br (a1 < 0) (some (none, h)) (br ((gI h 11 0 11) ≤ a1) (some (none, h)) (br (((Int32.ofNat 200)) ≤ a1) (some (none, h)) (gd (ib a1 200) (lb (gR h 52 0 (ix a1)) (fun o2 => some (o2, h))))))
set_option maxRecDepth 20000 in
theorem tX11_seatingOf {X : Cz} {a1 : Int32} {h hE : Hp} {rE : Option Nat} (hF : fX11_seatingOf a1 h = some (rE, hE)) : Ct X mX11_seatingOf true [zr 11 0, zi a1] h (some (zq 8 rE)) hE := by
  refine Ct_of (by decide) (Nat.le_of_ble_eq_true rfl) (ls := [(0, zr 11 0), (1, zi a1)]) rfl ?_
  unfold fX11_seatingOf at hF
  refine v_iload_n (j := 1) dX11_seatingOf_0 rfl ?_
  refine v_if_lt dX11_seatingOf_1 (by decide : _ = ((30 : Nat) : Int)) (fun q => ?_) (fun q => ?_)
  · replace hF := brT q hF
    refine v_null dX11_seatingOf_30 ?_
    obtain ⟨rfl, rfl⟩ := ret_use hF
    exact v_aret rfl dX11_seatingOf_31
  · replace hF := brF q hF
    refine v_iload_n (j := 1) dX11_seatingOf_4 rfl ?_
    refine v_aload_n (j := 0) dX11_seatingOf_5 rfl ?_
    refine v_getI (c := 11) rfl (Or.inl rfl) cz11 flX11_111 dX11_seatingOf_6 ?_
    refine v_icmp_ge dX11_seatingOf_9 (by decide : _ = ((30 : Nat) : Int)) (fun q => ?_) (fun q => ?_)
    · replace hF := brT q hF
      refine v_null dX11_seatingOf_30 ?_
      obtain ⟨rfl, rfl⟩ := ret_use hF
      exact v_aret rfl dX11_seatingOf_31
    · replace hF := brF q hF
      refine v_iload_n (j := 1) dX11_seatingOf_12 rfl ?_
      refine v_aload_n (j := 0) dX11_seatingOf_13 rfl ?_
      refine v_getL (c := 11) rfl rfl rfl ly11_8 cz11 flX11_71 dX11_seatingOf_14 ?_
      refine v_alen rfl dX11_seatingOf_17 ?_
      refine v_icmp_ge dX11_seatingOf_18 (by decide : _ = ((30 : Nat) : Int)) (fun q => ?_) (fun q => ?_)
      · replace hF := brT q hF
        refine v_null dX11_seatingOf_30 ?_
        obtain ⟨rfl, rfl⟩ := ret_use hF
        exact v_aret rfl dX11_seatingOf_31
      · replace hF := brF q hF
        refine v_aload_n (j := 0) dX11_seatingOf_21 rfl ?_
        refine v_getL (c := 11) rfl rfl rfl ly11_8 cz11 flX11_71 dX11_seatingOf_22 ?_
        refine v_iload_n (j := 1) dX11_seatingOf_25 rfl ?_
        replace hF := gd_use hF
        obtain ⟨q1, hF⟩ := hF
        refine v_aald (k2 := 8) rfl (by decide) rfl q1 dX11_seatingOf_26 ?_
        refine v_topq fun o2 eo2 => ?_
        replace hF := lb_use eo2 hF
        clear eo2
        refine v_goto (tgt := 31) dX11_seatingOf_27 (by decide) ?_
        obtain ⟨rfl, rfl⟩ := ret_use hF
        exact v_aret rfl dX11_seatingOf_31
theorem dX11_latestSeating_0 : decode cX11_latestSeating 0 = .ok (.aload_n 0, 1) := by decide +kernel
theorem dX11_latestSeating_1 : decode cX11_latestSeating 1 = .ok (.aload_n 0, 1) := by decide +kernel
theorem dX11_latestSeating_2 : decode cX11_latestSeating 2 = .ok (.getfield 111, 3) := by decide +kernel
theorem dX11_latestSeating_5 : decode cX11_latestSeating 5 = .ok (.iconst 1, 1) := by decide +kernel
theorem dX11_latestSeating_6 : decode cX11_latestSeating 6 = .ok (.isub, 1) := by decide +kernel
theorem dX11_latestSeating_7 : decode cX11_latestSeating 7 = .ok (.invokevirtual 361, 3) := by decide +kernel
theorem dX11_latestSeating_10 : decode cX11_latestSeating 10 = .ok (.areturn, 1) := by decide +kernel
def fX11_latestSeating (h : Hp) : Option (Option Nat × Hp) := bd (fX11_seatingOf ((gI h 11 0 11) - 1) h) (fun r1 h2 => some (r1, h2))
set_option maxRecDepth 20000 in
theorem tX11_latestSeating {X : Cz} {h hE : Hp} {rE : Option Nat} (hF : fX11_latestSeating h = some (rE, hE)) : Ct X mX11_latestSeating true [zr 11 0] h (some (zq 8 rE)) hE := by
  refine Ct_of (by decide) (Nat.le_of_ble_eq_true rfl) (ls := [(0, zr 11 0)]) rfl ?_
  unfold fX11_latestSeating at hF
  refine v_aload_n (j := 0) dX11_latestSeating_0 rfl ?_
  refine v_aload_n (j := 0) dX11_latestSeating_1 rfl ?_
  refine v_getI (c := 11) rfl (Or.inl rfl) cz11 flX11_111 dX11_latestSeating_2 ?_
  refine v_iconst (v := 1) dX11_latestSeating_5 (by decide) ?_
  refine v_isub dX11_latestSeating_6 ?_
  replace hF := bd_use hF
  obtain ⟨r1, h2, er1, hF⟩ := hF
  refine v_cV (hm := h2) (av := [zi ((gI h 11 0 11) - 1)]) (st := []) (stn := [zq 8 r1]) (tX11_seatingOf er1) lcX11_seatingOf mlX11_361 imX11_seatingOf seX11_seatingOf rfl rfl rfl rfl ⟨by decide, by decide⟩ (Nat.le_of_ble_eq_true rfl) dX11_latestSeating_7 rfl rfl ?_
  clear er1
  obtain ⟨rfl, rfl⟩ := ret_use hF
  exact v_aret rfl dX11_latestSeating_10
theorem dX11_change_0 : decode cX11_change 0 = .ok (.iload_n 1, 1) := by decide +kernel
theorem dX11_change_1 : decode cX11_change 1 = .ok (.aload_n 0, 1) := by decide +kernel
theorem dX11_change_2 : decode cX11_change 2 = .ok (.getfield 19, 3) := by decide +kernel
theorem dX11_change_5 : decode cX11_change 5 = .ok (.getfield 304, 3) := by decide +kernel
theorem dX11_change_8 : decode cX11_change 8 = .ok (.iushr, 1) := by decide +kernel
theorem dX11_change_9 : decode cX11_change 9 = .ok (.ifCond .eq 6, 3) := by decide +kernel
theorem dX11_change_12 : decode cX11_change 12 = .ok (.bipush (-2), 2) := by decide +kernel
theorem dX11_change_14 : decode cX11_change 14 = .ok (.ireturn, 1) := by decide +kernel
theorem dX11_change_15 : decode cX11_change 15 = .ok (.aload_n 0, 1) := by decide +kernel
theorem dX11_change_16 : decode cX11_change 16 = .ok (.invokevirtual 307, 3) := by decide +kernel
theorem dX11_change_19 : decode cX11_change 19 = .ok (.astore_n 2, 1) := by decide +kernel
theorem dX11_change_20 : decode cX11_change 20 = .ok (.aload_n 2, 1) := by decide +kernel
theorem dX11_change_21 : decode cX11_change 21 = .ok (.ifnonnull 6, 3) := by decide +kernel
theorem dX11_change_24 : decode cX11_change 24 = .ok (.bipush (-9), 2) := by decide +kernel
theorem dX11_change_26 : decode cX11_change 26 = .ok (.ireturn, 1) := by decide +kernel
theorem dX11_change_27 : decode cX11_change 27 = .ok (.aload_n 0, 1) := by decide +kernel
theorem dX11_change_28 : decode cX11_change 28 = .ok (.getfield 49, 3) := by decide +kernel
theorem dX11_change_31 : decode cX11_change 31 = .ok (.iload_n 1, 1) := by decide +kernel
theorem dX11_change_32 : decode cX11_change 32 = .ok (.aload_n 2, 1) := by decide +kernel
theorem dX11_change_33 : decode cX11_change 33 = .ok (.invokevirtual 311, 3) := by decide +kernel
theorem dX11_change_36 : decode cX11_change 36 = .ok (.ireturn, 1) := by decide +kernel
def fX11_change (a1 : Int32) (h : Hp) : Option (Int32 × Hp) := br (((a1.toUInt32 >>> ((gI h 4 0 1).toUInt32 &&& Int32.toUInt32 31)).toInt32) = 0) (bd (fX11_latestSeating h) (fun r1 h2 => mt r1 (some ((-9), h2)) (fun z3 => bd (fX6_turn a1 z3 h2) (fun r4 h5 => some (r4, h5))))) (some ((-2), h))
set_option maxRecDepth 20000 in
theorem tX11_change {X : Cz} {a1 : Int32} {h hE : Hp} {rE : Int32} (hF : fX11_change a1 h = some (rE, hE)) : Ct X mX11_change true [zr 11 0, zi a1] h (some (zi rE)) hE := by
  refine Ct_of (by decide) (Nat.le_of_ble_eq_true rfl) (ls := [(0, zr 11 0), (1, zi a1)]) rfl ?_
  unfold fX11_change at hF
  refine v_iload_n (j := 1) dX11_change_0 rfl ?_
  refine v_aload_n (j := 0) dX11_change_1 rfl ?_
  refine v_getL (c := 11) rfl rfl rfl ly11_1 cz11 flX11_19 dX11_change_2 ?_
  refine v_getI (c := 4) rfl (Or.inl rfl) cz4 flX11_304 dX11_change_5 ?_
  refine v_iushr dX11_change_8 ?_
  refine v_if_eq dX11_change_9 (by decide : _ = ((15 : Nat) : Int)) (fun q => ?_) (fun q => ?_)
  · replace hF := brT q hF
    refine v_aload_n (j := 0) dX11_change_15 rfl ?_
    replace hF := bd_use hF
    obtain ⟨r1, h2, er1, hF⟩ := hF
    refine v_cV (hm := h2) (av := []) (st := []) (stn := [zq 8 r1]) (tX11_latestSeating er1) lcX11_latestSeating mlX11_307 imX11_latestSeating seX11_latestSeating rfl rfl rfl rfl ⟨by decide, by decide⟩ (Nat.le_of_ble_eq_true rfl) dX11_change_16 rfl rfl ?_
    clear er1
    refine v_astore_n (ls' := [(2, zq 8 r1), (0, zr 11 0), (1, zi a1)]) dX11_change_19 (by decide) rfl ?_
    refine v_aload_n (j := 0) dX11_change_20 rfl ?_
    cases r1 with
    | none =>
      replace hF := mtN hF
      refine v_ifnonnullN (tgt := 27) dX11_change_21 (by decide) ?_
      refine v_bipush (v := (-9)) dX11_change_24 (by decide) ?_
      obtain ⟨rfl, rfl⟩ := ret_use hF
      exact v_iret rfl dX11_change_26
    | some z3 =>
      replace hF := mtS hF
      refine v_ifnonnullS (q := (8, z3)) (tgt := 27) dX11_change_21 (by decide) ?_
      refine v_aload_n (j := 1) dX11_change_27 rfl ?_
      refine v_getL (c := 11) rfl rfl rfl ly11_5 cz11 flX11_49 dX11_change_28 ?_
      refine v_iload_n (j := 2) dX11_change_31 rfl ?_
      refine v_aload_n (j := 0) dX11_change_32 rfl ?_
      replace hF := bd_use hF
      obtain ⟨r4, h5, er4, hF⟩ := hF
      refine v_cV (hm := h5) (av := [zi a1, zr 8 z3]) (st := []) (stn := [zi r4]) (tX6_turn er4) lcX6_turn mlX11_311 imX6_turn seX6_turn rfl rfl rfl rfl ⟨by decide, by decide⟩ (Nat.le_of_ble_eq_true rfl) dX11_change_33 rfl rfl ?_
      clear er4
      obtain ⟨rfl, rfl⟩ := ret_use hF
      exact v_iret rfl dX11_change_36
  · replace hF := brF q hF
    refine v_bipush (v := (-2)) dX11_change_12 (by decide) ?_
    obtain ⟨rfl, rfl⟩ := ret_use hF
    exact v_iret rfl dX11_change_14
theorem dX11_changedTo_0 : decode cX11_changedTo 0 = .ok (.aload_n 0, 1) := by decide +kernel
theorem dX11_changedTo_1 : decode cX11_changedTo 1 = .ok (.getfield 19, 3) := by decide +kernel
theorem dX11_changedTo_4 : decode cX11_changedTo 4 = .ok (.iload_n 1, 1) := by decide +kernel
theorem dX11_changedTo_5 : decode cX11_changedTo 5 = .ok (.invokevirtual 182, 3) := by decide +kernel
theorem dX11_changedTo_8 : decode cX11_changedTo 8 = .ok (.ifCond .eq 15, 3) := by decide +kernel
theorem dX11_changedTo_11 : decode cX11_changedTo 11 = .ok (.aload_n 0, 1) := by decide +kernel
theorem dX11_changedTo_12 : decode cX11_changedTo 12 = .ok (.getfield 49, 3) := by decide +kernel
theorem dX11_changedTo_15 : decode cX11_changedTo 15 = .ok (.getfield 315, 3) := by decide +kernel
theorem dX11_changedTo_18 : decode cX11_changedTo 18 = .ok (.iload_n 1, 1) := by decide +kernel
theorem dX11_changedTo_19 : decode cX11_changedTo 19 = .ok (.iaload, 1) := by decide +kernel
theorem dX11_changedTo_20 : decode cX11_changedTo 20 = .ok (.goto 4, 3) := by decide +kernel
theorem dX11_changedTo_23 : decode cX11_changedTo 23 = .ok (.iconst (-1), 1) := by decide +kernel
theorem dX11_changedTo_24 : decode cX11_changedTo 24 = .ok (.ireturn, 1) := by decide +kernel
def fX11_changedTo (a1 : Int32) (h : Hp) : Option (Int32 × Hp) := br ((fX4_isHousehold a1 h) = 0) (some ((-1), h)) (gd (ib a1 12) (some (gI h 37 0 (ix a1), h)))
set_option maxRecDepth 20000 in
theorem tX11_changedTo {X : Cz} {a1 : Int32} {h hE : Hp} {rE : Int32} (hF : fX11_changedTo a1 h = some (rE, hE)) : Ct X mX11_changedTo true [zr 11 0, zi a1] h (some (zi rE)) hE := by
  refine Ct_of (by decide) (Nat.le_of_ble_eq_true rfl) (ls := [(0, zr 11 0), (1, zi a1)]) rfl ?_
  unfold fX11_changedTo at hF
  refine v_aload_n (j := 0) dX11_changedTo_0 rfl ?_
  refine v_getL (c := 11) rfl rfl rfl ly11_1 cz11 flX11_19 dX11_changedTo_1 ?_
  refine v_iload_n (j := 1) dX11_changedTo_4 rfl ?_
  refine v_cV (hm := h) (av := [zi a1]) (st := []) (stn := [zi (fX4_isHousehold a1 h)]) (tX4_isHousehold a1 h) lcX4_isHousehold mlX11_182 imX4_isHousehold seX4_isHousehold rfl rfl rfl rfl ⟨by decide, by decide⟩ (Nat.le_of_ble_eq_true rfl) dX11_changedTo_5 rfl rfl ?_
  refine v_if_eq dX11_changedTo_8 (by decide : _ = ((23 : Nat) : Int)) (fun q => ?_) (fun q => ?_)
  · replace hF := brT q hF
    refine v_iconst (v := (-1)) dX11_changedTo_23 (by decide) ?_
    obtain ⟨rfl, rfl⟩ := ret_use hF
    exact v_iret rfl dX11_changedTo_24
  · replace hF := brF q hF
    refine v_aload_n (j := 0) dX11_changedTo_11 rfl ?_
    refine v_getL (c := 11) rfl rfl rfl ly11_5 cz11 flX11_49 dX11_changedTo_12 ?_
    refine v_getL (c := 6) rfl rfl rfl ly6_3 cz6 flX11_315 dX11_changedTo_15 ?_
    refine v_iload_n (j := 1) dX11_changedTo_18 rfl ?_
    replace hF := gd_use hF
    obtain ⟨q1, hF⟩ := hF
    refine v_iald rfl q1 dX11_changedTo_19 ?_
    refine v_goto (tgt := 24) dX11_changedTo_20 (by decide) ?_
    obtain ⟨rfl, rfl⟩ := ret_use hF
    exact v_iret rfl dX11_changedTo_24
theorem dX11_sunday_0 : decode cX11_sunday 0 = .ok (.aload_n 0, 1) := by decide +kernel
theorem dX11_sunday_1 : decode cX11_sunday 1 = .ok (.getfield 65, 3) := by decide +kernel
theorem dX11_sunday_4 : decode cX11_sunday 4 = .ok (.iload_n 1, 1) := by decide +kernel
theorem dX11_sunday_5 : decode cX11_sunday 5 = .ok (.invokevirtual 245, 3) := by decide +kernel
theorem dX11_sunday_8 : decode cX11_sunday 8 = .ok (.ifCond .eq 13, 3) := by decide +kernel
theorem dX11_sunday_11 : decode cX11_sunday 11 = .ok (.iload_n 2, 1) := by decide +kernel
theorem dX11_sunday_12 : decode cX11_sunday 12 = .ok (.iconst 0, 1) := by decide +kernel
theorem dX11_sunday_13 : decode cX11_sunday 13 = .ok (.bipush 60, 2) := by decide +kernel
theorem dX11_sunday_15 : decode cX11_sunday 15 = .ok (.invokestatic 96, 3) := by decide +kernel
theorem dX11_sunday_18 : decode cX11_sunday 18 = .ok (.ifCond .ne 6, 3) := by decide +kernel
theorem dX11_sunday_21 : decode cX11_sunday 21 = .ok (.bipush (-2), 2) := by decide +kernel
theorem dX11_sunday_23 : decode cX11_sunday 23 = .ok (.ireturn, 1) := by decide +kernel
theorem dX11_sunday_24 : decode cX11_sunday 24 = .ok (.aload_n 0, 1) := by decide +kernel
theorem dX11_sunday_25 : decode cX11_sunday 25 = .ok (.getfield 65, 3) := by decide +kernel
theorem dX11_sunday_28 : decode cX11_sunday 28 = .ok (.iload_n 1, 1) := by decide +kernel
theorem dX11_sunday_29 : decode cX11_sunday 29 = .ok (.invokevirtual 248, 3) := by decide +kernel
theorem dX11_sunday_32 : decode cX11_sunday 32 = .ok (.ifCond .ne 6, 3) := by decide +kernel
theorem dX11_sunday_35 : decode cX11_sunday 35 = .ok (.bipush (-5), 2) := by decide +kernel
theorem dX11_sunday_37 : decode cX11_sunday 37 = .ok (.ireturn, 1) := by decide +kernel
theorem dX11_sunday_38 : decode cX11_sunday 38 = .ok (.aload_n 0, 1) := by decide +kernel
theorem dX11_sunday_39 : decode cX11_sunday 39 = .ok (.getfield 58, 3) := by decide +kernel
theorem dX11_sunday_42 : decode cX11_sunday 42 = .ok (.aload_n 0, 1) := by decide +kernel
theorem dX11_sunday_43 : decode cX11_sunday 43 = .ok (.getfield 65, 3) := by decide +kernel
theorem dX11_sunday_46 : decode cX11_sunday 46 = .ok (.iload_n 1, 1) := by decide +kernel
theorem dX11_sunday_47 : decode cX11_sunday 47 = .ok (.invokevirtual 318, 3) := by decide +kernel
theorem dX11_sunday_50 : decode cX11_sunday 50 = .ok (.ifCond .ne 6, 3) := by decide +kernel
theorem dX11_sunday_53 : decode cX11_sunday 53 = .ok (.bipush (-4), 2) := by decide +kernel
theorem dX11_sunday_55 : decode cX11_sunday 55 = .ok (.ireturn, 1) := by decide +kernel
theorem dX11_sunday_56 : decode cX11_sunday 56 = .ok (.aload_n 0, 1) := by decide +kernel
theorem dX11_sunday_57 : decode cX11_sunday 57 = .ok (.getfield 26, 3) := by decide +kernel
theorem dX11_sunday_60 : decode cX11_sunday 60 = .ok (.aload_n 0, 1) := by decide +kernel
theorem dX11_sunday_61 : decode cX11_sunday 61 = .ok (.getfield 111, 3) := by decide +kernel
theorem dX11_sunday_64 : decode cX11_sunday 64 = .ok (.aload_n 0, 1) := by decide +kernel
theorem dX11_sunday_65 : decode cX11_sunday 65 = .ok (.getfield 80, 3) := by decide +kernel
theorem dX11_sunday_68 : decode cX11_sunday 68 = .ok (.invokevirtual 322, 3) := by decide +kernel
theorem dX11_sunday_71 : decode cX11_sunday 71 = .ok (.aload_n 0, 1) := by decide +kernel
theorem dX11_sunday_72 : decode cX11_sunday 72 = .ok (.getfield 58, 3) := by decide +kernel
theorem dX11_sunday_75 : decode cX11_sunday 75 = .ok (.aload_n 0, 1) := by decide +kernel
theorem dX11_sunday_76 : decode cX11_sunday 76 = .ok (.getfield 80, 3) := by decide +kernel
theorem dX11_sunday_79 : decode cX11_sunday 79 = .ok (.aload_n 0, 1) := by decide +kernel
theorem dX11_sunday_80 : decode cX11_sunday 80 = .ok (.invokevirtual 307, 3) := by decide +kernel
theorem dX11_sunday_83 : decode cX11_sunday 83 = .ok (.aload_n 0, 1) := by decide +kernel
theorem dX11_sunday_84 : decode cX11_sunday 84 = .ok (.getfield 88, 3) := by decide +kernel
theorem dX11_sunday_87 : decode cX11_sunday 87 = .ok (.invokevirtual 326, 3) := by decide +kernel
theorem dX11_sunday_90 : decode cX11_sunday 90 = .ok (.aload_n 0, 1) := by decide +kernel
theorem dX11_sunday_91 : decode cX11_sunday 91 = .ok (.getfield 58, 3) := by decide +kernel
theorem dX11_sunday_94 : decode cX11_sunday 94 = .ok (.aload_n 0, 1) := by decide +kernel
theorem dX11_sunday_95 : decode cX11_sunday 95 = .ok (.getfield 65, 3) := by decide +kernel
theorem dX11_sunday_98 : decode cX11_sunday 98 = .ok (.iload_n 1, 1) := by decide +kernel
theorem dX11_sunday_99 : decode cX11_sunday 99 = .ok (.iload_n 2, 1) := by decide +kernel
theorem dX11_sunday_100 : decode cX11_sunday 100 = .ok (.invokevirtual 330, 3) := by decide +kernel
theorem dX11_sunday_103 : decode cX11_sunday 103 = .ok (.ireturn, 1) := by decide +kernel
def fX11_sunday (a1 : Int32) (a2 : Int32) (h : Hp) : Option (Int32 × Hp) := br ((fX7_isPlace a1 h) = 0) (some ((-2), h)) (br ((fX11_isWithin a2 0 60 h) = 0) (some ((-2), h)) (bd (fX7_isFilled a1 h) (fun r1 h2 => br (r1 = 0) (some ((-5), h2)) (bd (fX9_canCome a1 h2) (fun r3 h4 => br (r3 = 0) (some ((-4), h4)) (bd (fX3_fillOwners (gI h4 11 0 11) h4) (fun r5 h6 => bd (fX11_latestSeating h6) (fun r7 h8 => bd (fX9_open r7 (gI h8 11 0 13) h8) (fun r9 h10 => bd (fX9_hold a1 a2 h10) (fun r11 h12 => some (r11, h12)))))))))))
set_option maxRecDepth 20000 in
theorem tX11_sunday {X : Cz} {a1 : Int32} {a2 : Int32} {h hE : Hp} {rE : Int32} (hF : fX11_sunday a1 a2 h = some (rE, hE)) : Ct X mX11_sunday true [zr 11 0, zi a1, zi a2] h (some (zi rE)) hE := by
  refine Ct_of (by decide) (Nat.le_of_ble_eq_true rfl) (ls := [(0, zr 11 0), (1, zi a1), (2, zi a2)]) rfl ?_
  unfold fX11_sunday at hF
  refine v_aload_n (j := 0) dX11_sunday_0 rfl ?_
  refine v_getL (c := 11) rfl rfl rfl ly11_7 cz11 flX11_65 dX11_sunday_1 ?_
  refine v_iload_n (j := 1) dX11_sunday_4 rfl ?_
  refine v_cV (hm := h) (av := [zi a1]) (st := []) (stn := [zi (fX7_isPlace a1 h)]) (tX7_isPlace a1 h) lcX7_isPlace mlX11_245 imX7_isPlace seX7_isPlace rfl rfl rfl rfl ⟨by decide, by decide⟩ (Nat.le_of_ble_eq_true rfl) dX11_sunday_5 rfl rfl ?_
  refine v_if_eq dX11_sunday_8 (by decide : _ = ((21 : Nat) : Int)) (fun q => ?_) (fun q => ?_)
  · replace hF := brT q hF
    refine v_bipush (v := (-2)) dX11_sunday_21 (by decide) ?_
    obtain ⟨rfl, rfl⟩ := ret_use hF
    exact v_iret rfl dX11_sunday_23
  · replace hF := brF q hF
    refine v_iload_n (j := 2) dX11_sunday_11 rfl ?_
    refine v_iconst (v := 0) dX11_sunday_12 (by decide) ?_
    refine v_bipush (v := 60) dX11_sunday_13 (by decide) ?_
    refine v_cS (hm := h) (av := [zi a2, zi 0, zi 60]) (st := []) (stn := [zi (fX11_isWithin a2 0 60 h)]) (tX11_isWithin a2 0 60 h) lcX11_isWithin mlX11_96 sxX11_isWithin rfl ⟨by decide, by decide⟩ (Nat.le_of_ble_eq_true rfl) dX11_sunday_15 rfl rfl ?_
    refine v_if_ne dX11_sunday_18 (by decide : _ = ((24 : Nat) : Int)) (fun q => ?_) (fun q => ?_)
    · replace hF := brF q hF
      refine v_aload_n (j := 0) dX11_sunday_24 rfl ?_
      refine v_getL (c := 11) rfl rfl rfl ly11_7 cz11 flX11_65 dX11_sunday_25 ?_
      refine v_iload_n (j := 1) dX11_sunday_28 rfl ?_
      replace hF := bd_use hF
      obtain ⟨r1, h2, er1, hF⟩ := hF
      refine v_cV (hm := h2) (av := [zi a1]) (st := []) (stn := [zi r1]) (tX7_isFilled er1) lcX7_isFilled mlX11_248 imX7_isFilled seX7_isFilled rfl rfl rfl rfl ⟨by decide, by decide⟩ (Nat.le_of_ble_eq_true rfl) dX11_sunday_29 rfl rfl ?_
      clear er1
      refine v_if_ne dX11_sunday_32 (by decide : _ = ((38 : Nat) : Int)) (fun q => ?_) (fun q => ?_)
      · replace hF := brF q hF
        refine v_aload_n (j := 0) dX11_sunday_38 rfl ?_
        refine v_getL (c := 11) rfl rfl rfl ly11_6 cz11 flX11_58 dX11_sunday_39 ?_
        refine v_aload_n (j := 0) dX11_sunday_42 rfl ?_
        refine v_getL (c := 11) rfl rfl rfl ly11_7 cz11 flX11_65 dX11_sunday_43 ?_
        refine v_iload_n (j := 1) dX11_sunday_46 rfl ?_
        replace hF := bd_use hF
        obtain ⟨r3, h4, er3, hF⟩ := hF
        refine v_cV (hm := h4) (av := [zr 7 0, zi a1]) (st := []) (stn := [zi r3]) (tX9_canCome er3) lcX9_canCome mlX11_318 imX9_canCome seX9_canCome rfl rfl rfl rfl ⟨by decide, by decide⟩ (Nat.le_of_ble_eq_true rfl) dX11_sunday_47 rfl rfl ?_
        clear er3
        refine v_if_ne dX11_sunday_50 (by decide : _ = ((56 : Nat) : Int)) (fun q => ?_) (fun q => ?_)
        · replace hF := brF q hF
          refine v_aload_n (j := 0) dX11_sunday_56 rfl ?_
          refine v_getL (c := 11) rfl rfl rfl ly11_2 cz11 flX11_26 dX11_sunday_57 ?_
          refine v_aload_n (j := 0) dX11_sunday_60 rfl ?_
          refine v_getI (c := 11) rfl (Or.inl rfl) cz11 flX11_111 dX11_sunday_61 ?_
          refine v_aload_n (j := 0) dX11_sunday_64 rfl ?_
          refine v_getL (c := 11) rfl rfl rfl ly11_10 cz11 flX11_80 dX11_sunday_65 ?_
          replace hF := bd_use hF
          obtain ⟨r5, h6, er5, hF⟩ := hF
          refine v_cV (hm := h6) (av := [zi (gI h4 11 0 11), zr 53 0]) (st := []) (stn := []) (tX3_fillOwners er5) lcX3_fillOwners mlX11_322 imX3_fillOwners seX3_fillOwners rfl rfl rfl rfl ⟨by decide, by decide⟩ (Nat.le_of_ble_eq_true rfl) dX11_sunday_68 rfl rfl ?_
          clear er5
          refine v_aload_n (j := 0) dX11_sunday_71 rfl ?_
          refine v_getL (c := 11) rfl rfl rfl ly11_6 cz11 flX11_58 dX11_sunday_72 ?_
          refine v_aload_n (j := 0) dX11_sunday_75 rfl ?_
          refine v_getL (c := 11) rfl rfl rfl ly11_10 cz11 flX11_80 dX11_sunday_76 ?_
          refine v_aload_n (j := 0) dX11_sunday_79 rfl ?_
          replace hF := bd_use hF
          obtain ⟨r7, h8, er7, hF⟩ := hF
          refine v_cV (hm := h8) (av := []) (st := [zr 53 0, zr 9 0]) (stn := [zq 8 r7, zr 53 0, zr 9 0]) (tX11_latestSeating er7) lcX11_latestSeating mlX11_307 imX11_latestSeating seX11_latestSeating rfl rfl rfl rfl ⟨by decide, by decide⟩ (Nat.le_of_ble_eq_true rfl) dX11_sunday_80 rfl rfl ?_
          clear er7
          refine v_aload_n (j := 0) dX11_sunday_83 rfl ?_
          refine v_getI (c := 11) rfl (Or.inl rfl) cz11 flX11_88 dX11_sunday_84 ?_
          replace hF := bd_use hF
          obtain ⟨r9, h10, er9, hF⟩ := hF
          refine v_cV (hm := h10) (av := [zr 53 0, zq 8 r7, zi (gI h8 11 0 13)]) (st := []) (stn := []) (tX9_open er9) lcX9_open mlX11_326 imX9_open seX9_open rfl rfl rfl rfl ⟨by decide, by decide⟩ (Nat.le_of_ble_eq_true rfl) dX11_sunday_87 rfl rfl ?_
          clear er9
          refine v_aload_n (j := 0) dX11_sunday_90 rfl ?_
          refine v_getL (c := 11) rfl rfl rfl ly11_6 cz11 flX11_58 dX11_sunday_91 ?_
          refine v_aload_n (j := 0) dX11_sunday_94 rfl ?_
          refine v_getL (c := 11) rfl rfl rfl ly11_7 cz11 flX11_65 dX11_sunday_95 ?_
          refine v_iload_n (j := 1) dX11_sunday_98 rfl ?_
          refine v_iload_n (j := 2) dX11_sunday_99 rfl ?_
          replace hF := bd_use hF
          obtain ⟨r11, h12, er11, hF⟩ := hF
          refine v_cV (hm := h12) (av := [zr 7 0, zi a1, zi a2]) (st := []) (stn := [zi r11]) (tX9_hold er11) lcX9_hold mlX11_330 imX9_hold seX9_hold rfl rfl rfl rfl ⟨by decide, by decide⟩ (Nat.le_of_ble_eq_true rfl) dX11_sunday_100 rfl rfl ?_
          clear er11
          obtain ⟨rfl, rfl⟩ := ret_use hF
          exact v_iret rfl dX11_sunday_103
        · replace hF := brT (Decidable.not_not.mp q) hF
          refine v_bipush (v := (-4)) dX11_sunday_53 (by decide) ?_
          obtain ⟨rfl, rfl⟩ := ret_use hF
          exact v_iret rfl dX11_sunday_55
      · replace hF := brT (Decidable.not_not.mp q) hF
        refine v_bipush (v := (-5)) dX11_sunday_35 (by decide) ?_
        obtain ⟨rfl, rfl⟩ := ret_use hF
        exact v_iret rfl dX11_sunday_37
    · replace hF := brT (Decidable.not_not.mp q) hF
      refine v_bipush (v := (-2)) dX11_sunday_21 (by decide) ?_
      obtain ⟨rfl, rfl⟩ := ret_use hF
      exact v_iret rfl dX11_sunday_23
theorem dX11_sat_0 : decode cX11_sat 0 = .ok (.iload_n 1, 1) := by decide +kernel
theorem dX11_sat_1 : decode cX11_sat 1 = .ok (.ifCond .lt 14, 3) := by decide +kernel
theorem dX11_sat_4 : decode cX11_sat 4 = .ok (.iload_n 1, 1) := by decide +kernel
theorem dX11_sat_5 : decode cX11_sat 5 = .ok (.aload_n 0, 1) := by decide +kernel
theorem dX11_sat_6 : decode cX11_sat 6 = .ok (.getfield 58, 3) := by decide +kernel
theorem dX11_sat_9 : decode cX11_sat 9 = .ok (.getfield 334, 3) := by decide +kernel
theorem dX11_sat_12 : decode cX11_sat 12 = .ok (.if_icmp .lt 5, 3) := by decide +kernel
theorem dX11_sat_15 : decode cX11_sat 15 = .ok (.iconst (-1), 1) := by decide +kernel
theorem dX11_sat_16 : decode cX11_sat 16 = .ok (.ireturn, 1) := by decide +kernel
theorem dX11_sat_17 : decode cX11_sat 17 = .ok (.aload_n 0, 1) := by decide +kernel
theorem dX11_sat_18 : decode cX11_sat 18 = .ok (.getfield 58, 3) := by decide +kernel
theorem dX11_sat_21 : decode cX11_sat 21 = .ok (.getfield 337, 3) := by decide +kernel
theorem dX11_sat_24 : decode cX11_sat 24 = .ok (.iload_n 1, 1) := by decide +kernel
theorem dX11_sat_25 : decode cX11_sat 25 = .ok (.iaload, 1) := by decide +kernel
theorem dX11_sat_26 : decode cX11_sat 26 = .ok (.istore_n 2, 1) := by decide +kernel
theorem dX11_sat_27 : decode cX11_sat 27 = .ok (.iload_n 2, 1) := by decide +kernel
theorem dX11_sat_28 : decode cX11_sat 28 = .ok (.iconst (-1), 1) := by decide +kernel
theorem dX11_sat_29 : decode cX11_sat 29 = .ok (.if_icmp .ne 7, 3) := by decide +kernel
theorem dX11_sat_32 : decode cX11_sat 32 = .ok (.iconst (-1), 1) := by decide +kernel
theorem dX11_sat_33 : decode cX11_sat 33 = .ok (.goto 15, 3) := by decide +kernel
theorem dX11_sat_36 : decode cX11_sat 36 = .ok (.iload_n 2, 1) := by decide +kernel
theorem dX11_sat_37 : decode cX11_sat 37 = .ok (.bipush 32, 2) := by decide +kernel
theorem dX11_sat_39 : decode cX11_sat 39 = .ok (.idiv, 1) := by decide +kernel
theorem dX11_sat_40 : decode cX11_sat 40 = .ok (.bipush 100, 2) := by decide +kernel
theorem dX11_sat_42 : decode cX11_sat 42 = .ok (.imul, 1) := by decide +kernel
theorem dX11_sat_43 : decode cX11_sat 43 = .ok (.iload_n 2, 1) := by decide +kernel
theorem dX11_sat_44 : decode cX11_sat 44 = .ok (.bipush 32, 2) := by decide +kernel
theorem dX11_sat_46 : decode cX11_sat 46 = .ok (.irem, 1) := by decide +kernel
theorem dX11_sat_47 : decode cX11_sat 47 = .ok (.iadd, 1) := by decide +kernel
theorem dX11_sat_48 : decode cX11_sat 48 = .ok (.ireturn, 1) := by decide +kernel
def fX11_sat (a1 : Int32) (h : Hp) : Option (Int32 × Hp) := br (a1 < 0) (some ((-1), h)) (br (a1 < (gI h 9 0 7)) (gd (ib a1 60) (lb (gI h 47 0 (ix a1)) (fun v2 => br (v2 = (-1)) (some ((-1), h)) (some (((v2 / 32) * 100) + (v2 - v2 / 32 * 32), h))))) (some ((-1), h)))
set_option maxRecDepth 20000 in
theorem tX11_sat {X : Cz} {a1 : Int32} {h hE : Hp} {rE : Int32} (hF : fX11_sat a1 h = some (rE, hE)) : Ct X mX11_sat true [zr 11 0, zi a1] h (some (zi rE)) hE := by
  refine Ct_of (by decide) (Nat.le_of_ble_eq_true rfl) (ls := [(0, zr 11 0), (1, zi a1)]) rfl ?_
  unfold fX11_sat at hF
  refine v_iload_n (j := 1) dX11_sat_0 rfl ?_
  refine v_if_lt dX11_sat_1 (by decide : _ = ((15 : Nat) : Int)) (fun q => ?_) (fun q => ?_)
  · replace hF := brT q hF
    refine v_iconst (v := (-1)) dX11_sat_15 (by decide) ?_
    obtain ⟨rfl, rfl⟩ := ret_use hF
    exact v_iret rfl dX11_sat_16
  · replace hF := brF q hF
    refine v_iload_n (j := 1) dX11_sat_4 rfl ?_
    refine v_aload_n (j := 0) dX11_sat_5 rfl ?_
    refine v_getL (c := 11) rfl rfl rfl ly11_6 cz11 flX11_58 dX11_sat_6 ?_
    refine v_getI (c := 9) rfl (Or.inl rfl) cz9 flX11_334 dX11_sat_9 ?_
    refine v_icmp_lt dX11_sat_12 (by decide : _ = ((17 : Nat) : Int)) (fun q => ?_) (fun q => ?_)
    · replace hF := brT q hF
      refine v_aload_n (j := 0) dX11_sat_17 rfl ?_
      refine v_getL (c := 11) rfl rfl rfl ly11_6 cz11 flX11_58 dX11_sat_18 ?_
      refine v_getL (c := 9) rfl rfl rfl ly9_8 cz9 flX11_337 dX11_sat_21 ?_
      refine v_iload_n (j := 1) dX11_sat_24 rfl ?_
      replace hF := gd_use hF
      obtain ⟨q1, hF⟩ := hF
      refine v_iald rfl q1 dX11_sat_25 ?_
      refine v_topi fun v2 ev2 => ?_
      replace hF := lb_use ev2 hF
      clear ev2
      refine v_istore_n (ls' := [(2, zi v2), (0, zr 11 0), (1, zi a1)]) dX11_sat_26 (by decide) rfl ?_
      refine v_iload_n (j := 0) dX11_sat_27 rfl ?_
      refine v_iconst (v := (-1)) dX11_sat_28 (by decide) ?_
      refine v_icmp_ne dX11_sat_29 (by decide : _ = ((36 : Nat) : Int)) (fun q => ?_) (fun q => ?_)
      · replace hF := brF q hF
        refine v_iload_n (j := 0) dX11_sat_36 rfl ?_
        refine v_bipush (v := 32) dX11_sat_37 (by decide) ?_
        refine v_idiv dX11_sat_39 (by decide) ?_
        refine v_bipush (v := 100) dX11_sat_40 (by decide) ?_
        refine v_imul dX11_sat_42 ?_
        refine v_iload_n (j := 0) dX11_sat_43 rfl ?_
        refine v_bipush (v := 32) dX11_sat_44 (by decide) ?_
        refine v_irem dX11_sat_46 (by decide) ?_
        refine v_iadd dX11_sat_47 ?_
        obtain ⟨rfl, rfl⟩ := ret_use hF
        exact v_iret rfl dX11_sat_48
      · replace hF := brT (Decidable.not_not.mp q) hF
        refine v_iconst (v := (-1)) dX11_sat_32 (by decide) ?_
        refine v_goto (tgt := 48) dX11_sat_33 (by decide) ?_
        obtain ⟨rfl, rfl⟩ := ret_use hF
        exact v_iret rfl dX11_sat_48
    · replace hF := brF q hF
      refine v_iconst (v := (-1)) dX11_sat_15 (by decide) ?_
      obtain ⟨rfl, rfl⟩ := ret_use hF
      exact v_iret rfl dX11_sat_16
theorem dX11_hasComeToCustom_0 : decode cX11_hasComeToCustom 0 = .ok (.aload_n 0, 1) := by decide +kernel
theorem dX11_hasComeToCustom_1 : decode cX11_hasComeToCustom 1 = .ok (.getfield 71, 3) := by decide +kernel
theorem dX11_hasComeToCustom_4 : decode cX11_hasComeToCustom 4 = .ok (.aload_n 0, 1) := by decide +kernel
theorem dX11_hasComeToCustom_5 : decode cX11_hasComeToCustom 5 = .ok (.getfield 111, 3) := by decide +kernel
theorem dX11_hasComeToCustom_8 : decode cX11_hasComeToCustom 8 = .ok (.aaload, 1) := by decide +kernel
theorem dX11_hasComeToCustom_9 : decode cX11_hasComeToCustom 9 = .ok (.astore_n 2, 1) := by decide +kernel
theorem dX11_hasComeToCustom_10 : decode cX11_hasComeToCustom 10 = .ok (.aload_n 2, 1) := by decide +kernel
theorem dX11_hasComeToCustom_11 : decode cX11_hasComeToCustom 11 = .ok (.ifnull 24, 3) := by decide +kernel
theorem dX11_hasComeToCustom_14 : decode cX11_hasComeToCustom 14 = .ok (.aload_n 2, 1) := by decide +kernel
theorem dX11_hasComeToCustom_15 : decode cX11_hasComeToCustom 15 = .ok (.iload_n 1, 1) := by decide +kernel
theorem dX11_hasComeToCustom_16 : decode cX11_hasComeToCustom 16 = .ok (.invokevirtual 344, 3) := by decide +kernel
theorem dX11_hasComeToCustom_19 : decode cX11_hasComeToCustom 19 = .ok (.ifCond .eq 16, 3) := by decide +kernel
theorem dX11_hasComeToCustom_22 : decode cX11_hasComeToCustom 22 = .ok (.aload_n 0, 1) := by decide +kernel
theorem dX11_hasComeToCustom_23 : decode cX11_hasComeToCustom 23 = .ok (.getfield 111, 3) := by decide +kernel
theorem dX11_hasComeToCustom_26 : decode cX11_hasComeToCustom 26 = .ok (.iconst 1, 1) := by decide +kernel
theorem dX11_hasComeToCustom_27 : decode cX11_hasComeToCustom 27 = .ok (.iadd, 1) := by decide +kernel
theorem dX11_hasComeToCustom_28 : decode cX11_hasComeToCustom 28 = .ok (.aload_n 0, 1) := by decide +kernel
theorem dX11_hasComeToCustom_29 : decode cX11_hasComeToCustom 29 = .ok (.getfield 84, 3) := by decide +kernel
theorem dX11_hasComeToCustom_32 : decode cX11_hasComeToCustom 32 = .ok (.if_icmp .ge 5, 3) := by decide +kernel
theorem dX11_hasComeToCustom_35 : decode cX11_hasComeToCustom 35 = .ok (.iconst 0, 1) := by decide +kernel
theorem dX11_hasComeToCustom_36 : decode cX11_hasComeToCustom 36 = .ok (.ireturn, 1) := by decide +kernel
theorem dX11_hasComeToCustom_37 : decode cX11_hasComeToCustom 37 = .ok (.aload_n 0, 1) := by decide +kernel
theorem dX11_hasComeToCustom_38 : decode cX11_hasComeToCustom 38 = .ok (.getfield 111, 3) := by decide +kernel
theorem dX11_hasComeToCustom_41 : decode cX11_hasComeToCustom 41 = .ok (.aload_n 0, 1) := by decide +kernel
theorem dX11_hasComeToCustom_42 : decode cX11_hasComeToCustom 42 = .ok (.getfield 84, 3) := by decide +kernel
theorem dX11_hasComeToCustom_45 : decode cX11_hasComeToCustom 45 = .ok (.isub, 1) := by decide +kernel
theorem dX11_hasComeToCustom_46 : decode cX11_hasComeToCustom 46 = .ok (.iconst 1, 1) := by decide +kernel
theorem dX11_hasComeToCustom_47 : decode cX11_hasComeToCustom 47 = .ok (.iadd, 1) := by decide +kernel
theorem dX11_hasComeToCustom_48 : decode cX11_hasComeToCustom 48 = .ok (.istore_n 3, 1) := by decide +kernel
theorem dX11_hasComeToCustom_49 : decode cX11_hasComeToCustom 49 = .ok (.iload_n 3, 1) := by decide +kernel
theorem dX11_hasComeToCustom_50 : decode cX11_hasComeToCustom 50 = .ok (.aload_n 0, 1) := by decide +kernel
theorem dX11_hasComeToCustom_51 : decode cX11_hasComeToCustom 51 = .ok (.getfield 111, 3) := by decide +kernel
theorem dX11_hasComeToCustom_54 : decode cX11_hasComeToCustom 54 = .ok (.if_icmp .gt 53, 3) := by decide +kernel
theorem dX11_hasComeToCustom_57 : decode cX11_hasComeToCustom 57 = .ok (.aload_n 0, 1) := by decide +kernel
theorem dX11_hasComeToCustom_58 : decode cX11_hasComeToCustom 58 = .ok (.getfield 71, 3) := by decide +kernel
theorem dX11_hasComeToCustom_61 : decode cX11_hasComeToCustom 61 = .ok (.iload_n 3, 1) := by decide +kernel
theorem dX11_hasComeToCustom_62 : decode cX11_hasComeToCustom 62 = .ok (.aaload, 1) := by decide +kernel
theorem dX11_hasComeToCustom_63 : decode cX11_hasComeToCustom 63 = .ok (.astore 4, 2) := by decide +kernel
theorem dX11_hasComeToCustom_65 : decode cX11_hasComeToCustom 65 = .ok (.aload 4, 2) := by decide +kernel
theorem dX11_hasComeToCustom_67 : decode cX11_hasComeToCustom 67 = .ok (.ifnull 32, 3) := by decide +kernel
theorem dX11_hasComeToCustom_70 : decode cX11_hasComeToCustom 70 = .ok (.aload 4, 2) := by decide +kernel
theorem dX11_hasComeToCustom_72 : decode cX11_hasComeToCustom 72 = .ok (.iload_n 1, 1) := by decide +kernel
theorem dX11_hasComeToCustom_73 : decode cX11_hasComeToCustom 73 = .ok (.invokevirtual 344, 3) := by decide +kernel
theorem dX11_hasComeToCustom_76 : decode cX11_hasComeToCustom 76 = .ok (.ifCond .eq 23, 3) := by decide +kernel
theorem dX11_hasComeToCustom_79 : decode cX11_hasComeToCustom 79 = .ok (.aload 4, 2) := by decide +kernel
theorem dX11_hasComeToCustom_81 : decode cX11_hasComeToCustom 81 = .ok (.getfield 370, 3) := by decide +kernel
theorem dX11_hasComeToCustom_84 : decode cX11_hasComeToCustom 84 = .ok (.iload_n 1, 1) := by decide +kernel
theorem dX11_hasComeToCustom_85 : decode cX11_hasComeToCustom 85 = .ok (.baload, 1) := by decide +kernel
theorem dX11_hasComeToCustom_86 : decode cX11_hasComeToCustom 86 = .ok (.ifCond .ne 13, 3) := by decide +kernel
theorem dX11_hasComeToCustom_89 : decode cX11_hasComeToCustom 89 = .ok (.aload 4, 2) := by decide +kernel
theorem dX11_hasComeToCustom_91 : decode cX11_hasComeToCustom 91 = .ok (.aload_n 2, 1) := by decide +kernel
theorem dX11_hasComeToCustom_92 : decode cX11_hasComeToCustom 92 = .ok (.iload_n 1, 1) := by decide +kernel
theorem dX11_hasComeToCustom_93 : decode cX11_hasComeToCustom 93 = .ok (.invokevirtual 377, 3) := by decide +kernel
theorem dX11_hasComeToCustom_96 : decode cX11_hasComeToCustom 96 = .ok (.ifCond .ne 5, 3) := by decide +kernel
theorem dX11_hasComeToCustom_99 : decode cX11_hasComeToCustom 99 = .ok (.iconst 0, 1) := by decide +kernel
theorem dX11_hasComeToCustom_100 : decode cX11_hasComeToCustom 100 = .ok (.ireturn, 1) := by decide +kernel
theorem dX11_hasComeToCustom_101 : decode cX11_hasComeToCustom 101 = .ok (.iinc 3 1, 3) := by decide +kernel
theorem dX11_hasComeToCustom_104 : decode cX11_hasComeToCustom 104 = .ok (.goto (-55), 3) := by decide +kernel
theorem dX11_hasComeToCustom_107 : decode cX11_hasComeToCustom 107 = .ok (.iconst 1, 1) := by decide +kernel
theorem dX11_hasComeToCustom_108 : decode cX11_hasComeToCustom 108 = .ok (.ireturn, 1) := by decide +kernel
def fX11_hasComeToCustom_L49 : Nat → Int32 → Nat → Int32 → Hp → Option ((Int32 ⊕ Int32) × Hp)
  | 0, _, _, _, _ => none
  | n + 1, a1, a2, a3, h => br ((gI h 11 0 11) < a3) (some (.inr (a3), h)) (gd (ib a3 200) (lb (gR h 52 0 (ix a3)) (fun o8 => mt o8 (some (.inl 0, h)) (fun z9 => bd (fX8_isSitting z9 a1 h) (fun r10 h11 => br (r10 = 0) (some (.inl 0, h11)) (lb (gR h11 8 z9 3) (fun o12 => mt o12 none (fun z13 => gd (ib a1 12) (br ((gI h11 44 z13 (ix a1)) = 0) (bd (fX8_isSameRun z9 a2 a1 h11) (fun r15 h16 => br (r15 = 0) (some (.inl 0, h16)) (lb (a3 + 1) (fun v17 => fX11_hasComeToCustom_L49 n a1 a2 v17 h16)))) (some (.inl 0, h11)))))))))))
def fX11_hasComeToCustom (a1 : Int32) (h : Hp) : Option (Int32 × Hp) := gd (ib (gI h 11 0 11) 200) (lb (gR h 52 0 (ix (gI h 11 0 11))) (fun o2 => mt o2 (some (0, h)) (fun z3 => bd (fX8_isSitting z3 a1 h) (fun r4 h5 => br (r4 = 0) (some (0, h5)) (br ((gI h5 11 0 12) ≤ ((gI h5 11 0 11) + 1)) (lb (((gI h5 11 0 11) - (gI h5 11 0 12)) + 1) (fun v6 => bd (fX11_hasComeToCustom_L49 FU a1 z3 v6 h5) (fun u21 h18 => ms u21 (fun r22 => some (r22, h18)) (fun v20 => some (1, h18))))) (some (0, h5)))))))
set_option maxRecDepth 20000 in
theorem tX11_hasComeToCustom_L49 {X : Cz} {h0 : Hp} {r : Option AV} {hE : Hp} : ∀ (n : Nat) (a1 : Int32) (a2 : Nat) (a3 : Int32) (h : Hp) (z : (Int32 ⊕ Int32) × Hp), fX11_hasComeToCustom_L49 n a1 a2 a3 h = some z → lk z r hE (fun v => some (zi v)) (fun t hx => V X mX11_hasComeToCustom true h0 107 [(0, zr 11 0), (1, zi a1), (2, zr 8 a2), (3, zi t)] [] hx r hE) → V X mX11_hasComeToCustom true h0 49 [(0, zr 11 0), (1, zi a1), (2, zr 8 a2), (3, zi a3)] [] h r hE := by
  intro n
  induction n with
  | zero => intro a1 a2 a3 h z hF k; cases hF
  | succ n ih =>
    intro a1 a2 a3 h z hF k
    rw [fX11_hasComeToCustom_L49] at hF
    refine v_iload_n (j := 3) dX11_hasComeToCustom_49 rfl ?_
    refine v_aload_n (j := 0) dX11_hasComeToCustom_50 rfl ?_
    refine v_getI (c := 11) rfl (Or.inl rfl) cz11 flX11_111 dX11_hasComeToCustom_51 ?_
    refine v_icmp_gt dX11_hasComeToCustom_54 (by decide : _ = ((107 : Nat) : Int)) (fun q => ?_) (fun q => ?_)
    · replace hF := brT q hF
      cases hF
      exact k
    · replace hF := brF q hF
      refine v_aload_n (j := 0) dX11_hasComeToCustom_57 rfl ?_
      refine v_getL (c := 11) rfl rfl rfl ly11_8 cz11 flX11_71 dX11_hasComeToCustom_58 ?_
      refine v_iload_n (j := 3) dX11_hasComeToCustom_61 rfl ?_
      replace hF := gd_use hF
      obtain ⟨q7, hF⟩ := hF
      refine v_aald (k2 := 8) rfl (by decide) rfl q7 dX11_hasComeToCustom_62 ?_
      refine v_topq fun o8 eo8 => ?_
      replace hF := lb_use eo8 hF
      clear eo8
      refine v_astore (ls' := [(4, zq 8 o8), (0, zr 11 0), (1, zi a1), (2, zr 8 a2), (3, zi a3)]) dX11_hasComeToCustom_63 (by decide) rfl ?_
      refine v_aload (j := 0) dX11_hasComeToCustom_65 rfl ?_
      cases o8 with
      | none =>
        replace hF := mtN hF
        refine v_ifnullN (tgt := 99) dX11_hasComeToCustom_67 (by decide) ?_
        refine v_iconst (v := 0) dX11_hasComeToCustom_99 (by decide) ?_
        cases hF
        obtain ⟨rfl, rfl⟩ := (k : _ ∧ _)
        exact v_zret rfl (Or.inl rfl) dX11_hasComeToCustom_100
      | some z9 =>
        replace hF := mtS hF
        refine v_ifnullS (q := (8, z9)) (tgt := 99) dX11_hasComeToCustom_67 (by decide) ?_
        refine v_aload (j := 0) dX11_hasComeToCustom_70 rfl ?_
        refine v_iload_n (j := 2) dX11_hasComeToCustom_72 rfl ?_
        replace hF := bd_use hF
        obtain ⟨r10, h11, er10, hF⟩ := hF
        refine v_cV (hm := h11) (av := [zi a1]) (st := []) (stn := [zi r10]) (tX8_isSitting er10) lcX8_isSitting mlX11_344 imX8_isSitting seX8_isSitting rfl rfl rfl rfl ⟨by decide, by decide⟩ (Nat.le_of_ble_eq_true rfl) dX11_hasComeToCustom_73 rfl rfl ?_
        clear er10
        refine v_if_eq dX11_hasComeToCustom_76 (by decide : _ = ((99 : Nat) : Int)) (fun q => ?_) (fun q => ?_)
        · replace hF := brT q hF
          refine v_iconst (v := 0) dX11_hasComeToCustom_99 (by decide) ?_
          cases hF
          obtain ⟨rfl, rfl⟩ := (k : _ ∧ _)
          exact v_zret rfl (Or.inl rfl) dX11_hasComeToCustom_100
        · replace hF := brF q hF
          refine v_aload (j := 0) dX11_hasComeToCustom_79 rfl ?_
          refine v_getR (c := 8) (k2 := 44) rfl rfl rfl cz8 flX11_370 dX11_hasComeToCustom_81 ?_
          refine v_topq fun o12 eo12 => ?_
          replace hF := lb_use eo12 hF
          clear eo12
          refine v_iload_n (j := 2) dX11_hasComeToCustom_84 rfl ?_
          replace hF := mt_use hF
          obtain ⟨z13, ez13, hF⟩ := hF
          subst ez13
          replace hF := gd_use hF
          obtain ⟨q14, hF⟩ := hF
          refine v_zald rfl q14 dX11_hasComeToCustom_85 ?_
          refine v_if_ne dX11_hasComeToCustom_86 (by decide : _ = ((99 : Nat) : Int)) (fun q => ?_) (fun q => ?_)
          · replace hF := brF q hF
            refine v_iconst (v := 0) dX11_hasComeToCustom_99 (by decide) ?_
            cases hF
            obtain ⟨rfl, rfl⟩ := (k : _ ∧ _)
            exact v_zret rfl (Or.inl rfl) dX11_hasComeToCustom_100
          · replace hF := brT (Decidable.not_not.mp q) hF
            refine v_aload (j := 0) dX11_hasComeToCustom_89 rfl ?_
            refine v_aload_n (j := 3) dX11_hasComeToCustom_91 rfl ?_
            refine v_iload_n (j := 2) dX11_hasComeToCustom_92 rfl ?_
            replace hF := bd_use hF
            obtain ⟨r15, h16, er15, hF⟩ := hF
            refine v_cV (hm := h16) (av := [zr 8 a2, zi a1]) (st := []) (stn := [zi r15]) (tX8_isSameRun er15) lcX8_isSameRun mlX11_377 imX8_isSameRun seX8_isSameRun rfl rfl rfl rfl ⟨by decide, by decide⟩ (Nat.le_of_ble_eq_true rfl) dX11_hasComeToCustom_93 rfl rfl ?_
            clear er15
            refine v_if_ne dX11_hasComeToCustom_96 (by decide : _ = ((101 : Nat) : Int)) (fun q => ?_) (fun q => ?_)
            · replace hF := brF q hF
              obtain ⟨v17, ev17⟩ : ∃ y : Int32, y = a3 + 1 := ⟨_, rfl⟩
              replace hF := lb_use ev17 hF
              refine v_iinc (j := 4) (v := v17) (ls' := [(3, zi v17), (4, zr 8 z9), (0, zr 11 0), (1, zi a1), (2, zr 8 a2)]) dX11_hasComeToCustom_101 rfl (by rw [ev17]; rfl) (by decide) rfl ?_
              clear ev17
              refine v_goto (tgt := 49) dX11_hasComeToCustom_104 (by decide) ?_
              refine v_sub [2, 3, 4, 0] rfl ?_
              exact ih a1 a2 v17 h16 _ hF k
            · replace hF := brT (Decidable.not_not.mp q) hF
              refine v_iconst (v := 0) dX11_hasComeToCustom_99 (by decide) ?_
              cases hF
              obtain ⟨rfl, rfl⟩ := (k : _ ∧ _)
              exact v_zret rfl (Or.inl rfl) dX11_hasComeToCustom_100
set_option maxRecDepth 20000 in
theorem tX11_hasComeToCustom {X : Cz} {a1 : Int32} {h hE : Hp} {rE : Int32} (hF : fX11_hasComeToCustom a1 h = some (rE, hE)) : Ct X mX11_hasComeToCustom true [zr 11 0, zi a1] h (some (zi rE)) hE := by
  refine Ct_of (by decide) (Nat.le_of_ble_eq_true rfl) (ls := [(0, zr 11 0), (1, zi a1)]) rfl ?_
  unfold fX11_hasComeToCustom at hF
  refine v_aload_n (j := 0) dX11_hasComeToCustom_0 rfl ?_
  refine v_getL (c := 11) rfl rfl rfl ly11_8 cz11 flX11_71 dX11_hasComeToCustom_1 ?_
  refine v_aload_n (j := 0) dX11_hasComeToCustom_4 rfl ?_
  refine v_getI (c := 11) rfl (Or.inl rfl) cz11 flX11_111 dX11_hasComeToCustom_5 ?_
  replace hF := gd_use hF
  obtain ⟨q1, hF⟩ := hF
  refine v_aald (k2 := 8) rfl (by decide) rfl q1 dX11_hasComeToCustom_8 ?_
  refine v_topq fun o2 eo2 => ?_
  replace hF := lb_use eo2 hF
  clear eo2
  refine v_astore_n (ls' := [(2, zq 8 o2), (0, zr 11 0), (1, zi a1)]) dX11_hasComeToCustom_9 (by decide) rfl ?_
  refine v_aload_n (j := 0) dX11_hasComeToCustom_10 rfl ?_
  cases o2 with
  | none =>
    replace hF := mtN hF
    refine v_ifnullN (tgt := 35) dX11_hasComeToCustom_11 (by decide) ?_
    refine v_iconst (v := 0) dX11_hasComeToCustom_35 (by decide) ?_
    obtain ⟨rfl, rfl⟩ := ret_use hF
    exact v_zret rfl (Or.inl rfl) dX11_hasComeToCustom_36
  | some z3 =>
    replace hF := mtS hF
    refine v_ifnullS (q := (8, z3)) (tgt := 35) dX11_hasComeToCustom_11 (by decide) ?_
    refine v_aload_n (j := 0) dX11_hasComeToCustom_14 rfl ?_
    refine v_iload_n (j := 2) dX11_hasComeToCustom_15 rfl ?_
    replace hF := bd_use hF
    obtain ⟨r4, h5, er4, hF⟩ := hF
    refine v_cV (hm := h5) (av := [zi a1]) (st := []) (stn := [zi r4]) (tX8_isSitting er4) lcX8_isSitting mlX11_344 imX8_isSitting seX8_isSitting rfl rfl rfl rfl ⟨by decide, by decide⟩ (Nat.le_of_ble_eq_true rfl) dX11_hasComeToCustom_16 rfl rfl ?_
    clear er4
    refine v_if_eq dX11_hasComeToCustom_19 (by decide : _ = ((35 : Nat) : Int)) (fun q => ?_) (fun q => ?_)
    · replace hF := brT q hF
      refine v_iconst (v := 0) dX11_hasComeToCustom_35 (by decide) ?_
      obtain ⟨rfl, rfl⟩ := ret_use hF
      exact v_zret rfl (Or.inl rfl) dX11_hasComeToCustom_36
    · replace hF := brF q hF
      refine v_aload_n (j := 1) dX11_hasComeToCustom_22 rfl ?_
      refine v_getI (c := 11) rfl (Or.inl rfl) cz11 flX11_111 dX11_hasComeToCustom_23 ?_
      refine v_iconst (v := 1) dX11_hasComeToCustom_26 (by decide) ?_
      refine v_iadd dX11_hasComeToCustom_27 ?_
      refine v_aload_n (j := 1) dX11_hasComeToCustom_28 rfl ?_
      refine v_getI (c := 11) rfl (Or.inl rfl) cz11 flX11_84 dX11_hasComeToCustom_29 ?_
      refine v_icmp_ge dX11_hasComeToCustom_32 (by decide : _ = ((37 : Nat) : Int)) (fun q => ?_) (fun q => ?_)
      · replace hF := brT q hF
        refine v_aload_n (j := 1) dX11_hasComeToCustom_37 rfl ?_
        refine v_getI (c := 11) rfl (Or.inl rfl) cz11 flX11_111 dX11_hasComeToCustom_38 ?_
        refine v_aload_n (j := 1) dX11_hasComeToCustom_41 rfl ?_
        refine v_getI (c := 11) rfl (Or.inl rfl) cz11 flX11_84 dX11_hasComeToCustom_42 ?_
        refine v_isub dX11_hasComeToCustom_45 ?_
        refine v_iconst (v := 1) dX11_hasComeToCustom_46 (by decide) ?_
        refine v_iadd dX11_hasComeToCustom_47 ?_
        refine v_topi fun v6 ev6 => ?_
        replace hF := lb_use ev6 hF
        clear ev6
        refine v_istore_n (ls' := [(3, zi v6), (2, zr 8 z3), (0, zr 11 0), (1, zi a1)]) dX11_hasComeToCustom_48 (by decide) rfl ?_
        refine v_sub [2, 3, 1, 0] rfl ?_
        replace hF := bd_use hF
        obtain ⟨u21, h18, ev20, hF⟩ := hF
        rcases u21 with r22 | v20
        · obtain ⟨rfl, rfl⟩ := ret_use hF
          exact tX11_hasComeToCustom_L49 _ a1 z3 v6 h5 _ ev20 ⟨rfl, rfl⟩
        replace hF := msR hF
        refine tX11_hasComeToCustom_L49 _ a1 z3 v6 h5 _ ev20 ?_
        clear ev20
        refine v_iconst (v := 1) dX11_hasComeToCustom_107 (by decide) ?_
        obtain ⟨rfl, rfl⟩ := ret_use hF
        exact v_zret rfl (Or.inr rfl) dX11_hasComeToCustom_108
      · replace hF := brF q hF
        refine v_iconst (v := 0) dX11_hasComeToCustom_35 (by decide) ?_
        obtain ⟨rfl, rfl⟩ := ret_use hF
        exact v_zret rfl (Or.inl rfl) dX11_hasComeToCustom_36
theorem dX11_enterCustom_0 : decode cX11_enterCustom 0 = .ok (.aload_n 0, 1) := by decide +kernel
theorem dX11_enterCustom_1 : decode cX11_enterCustom 1 = .ok (.getfield 26, 3) := by decide +kernel
theorem dX11_enterCustom_4 : decode cX11_enterCustom 4 = .ok (.invokevirtual 150, 3) := by decide +kernel
theorem dX11_enterCustom_7 : decode cX11_enterCustom 7 = .ok (.iconst 1, 1) := by decide +kernel
theorem dX11_enterCustom_8 : decode cX11_enterCustom 8 = .ok (.if_icmp .ge 4, 3) := by decide +kernel
theorem dX11_enterCustom_11 : decode cX11_enterCustom 11 = .ok (.return_, 1) := by decide +kernel
theorem dX11_enterCustom_12 : decode cX11_enterCustom 12 = .ok (.aload_n 2, 1) := by decide +kernel
theorem dX11_enterCustom_13 : decode cX11_enterCustom 13 = .ok (.getfield 365, 3) := by decide +kernel
theorem dX11_enterCustom_16 : decode cX11_enterCustom 16 = .ok (.iload_n 1, 1) := by decide +kernel
theorem dX11_enterCustom_17 : decode cX11_enterCustom 17 = .ok (.iaload, 1) := by decide +kernel
theorem dX11_enterCustom_18 : decode cX11_enterCustom 18 = .ok (.istore_n 3, 1) := by decide +kernel
theorem dX11_enterCustom_19 : decode cX11_enterCustom 19 = .ok (.new 185, 3) := by decide +kernel
theorem dX11_enterCustom_22 : decode cX11_enterCustom 22 = .ok (.dup, 1) := by decide +kernel
theorem dX11_enterCustom_23 : decode cX11_enterCustom 23 = .ok (.iconst 2, 1) := by decide +kernel
theorem dX11_enterCustom_24 : decode cX11_enterCustom 24 = .ok (.iload_n 1, 1) := by decide +kernel
theorem dX11_enterCustom_25 : decode cX11_enterCustom 25 = .ok (.iload_n 3, 1) := by decide +kernel
theorem dX11_enterCustom_26 : decode cX11_enterCustom 26 = .ok (.bipush 32, 2) := by decide +kernel
theorem dX11_enterCustom_28 : decode cX11_enterCustom 28 = .ok (.idiv, 1) := by decide +kernel
theorem dX11_enterCustom_29 : decode cX11_enterCustom 29 = .ok (.iload_n 3, 1) := by decide +kernel
theorem dX11_enterCustom_30 : decode cX11_enterCustom 30 = .ok (.bipush 32, 2) := by decide +kernel
theorem dX11_enterCustom_32 : decode cX11_enterCustom 32 = .ok (.irem, 1) := by decide +kernel
theorem dX11_enterCustom_33 : decode cX11_enterCustom 33 = .ok (.aload_n 2, 1) := by decide +kernel
theorem dX11_enterCustom_34 : decode cX11_enterCustom 34 = .ok (.getfield 368, 3) := by decide +kernel
theorem dX11_enterCustom_37 : decode cX11_enterCustom 37 = .ok (.iload_n 1, 1) := by decide +kernel
theorem dX11_enterCustom_38 : decode cX11_enterCustom 38 = .ok (.iaload, 1) := by decide +kernel
theorem dX11_enterCustom_39 : decode cX11_enterCustom 39 = .ok (.invokespecial 187, 3) := by decide +kernel
theorem dX11_enterCustom_42 : decode cX11_enterCustom 42 = .ok (.astore 4, 2) := by decide +kernel
theorem dX11_enterCustom_44 : decode cX11_enterCustom 44 = .ok (.aload 4, 2) := by decide +kernel
theorem dX11_enterCustom_46 : decode cX11_enterCustom 46 = .ok (.aload_n 0, 1) := by decide +kernel
theorem dX11_enterCustom_47 : decode cX11_enterCustom 47 = .ok (.getfield 111, 3) := by decide +kernel
theorem dX11_enterCustom_50 : decode cX11_enterCustom 50 = .ok (.iconst 1, 1) := by decide +kernel
theorem dX11_enterCustom_51 : decode cX11_enterCustom 51 = .ok (.iadd, 1) := by decide +kernel
theorem dX11_enterCustom_52 : decode cX11_enterCustom 52 = .ok (.aload_n 0, 1) := by decide +kernel
theorem dX11_enterCustom_53 : decode cX11_enterCustom 53 = .ok (.getfield 111, 3) := by decide +kernel
theorem dX11_enterCustom_56 : decode cX11_enterCustom 56 = .ok (.iconst 1, 1) := by decide +kernel
theorem dX11_enterCustom_57 : decode cX11_enterCustom 57 = .ok (.iadd, 1) := by decide +kernel
theorem dX11_enterCustom_58 : decode cX11_enterCustom 58 = .ok (.sipush 199, 3) := by decide +kernel
theorem dX11_enterCustom_61 : decode cX11_enterCustom 61 = .ok (.aload_n 0, 1) := by decide +kernel
theorem dX11_enterCustom_62 : decode cX11_enterCustom 62 = .ok (.getfield 111, 3) := by decide +kernel
theorem dX11_enterCustom_65 : decode cX11_enterCustom 65 = .ok (.iconst 1, 1) := by decide +kernel
theorem dX11_enterCustom_66 : decode cX11_enterCustom 66 = .ok (.iadd, 1) := by decide +kernel
theorem dX11_enterCustom_67 : decode cX11_enterCustom 67 = .ok (.invokevirtual 190, 3) := by decide +kernel
theorem dX11_enterCustom_70 : decode cX11_enterCustom 70 = .ok (.aload_n 0, 1) := by decide +kernel
theorem dX11_enterCustom_71 : decode cX11_enterCustom 71 = .ok (.getfield 26, 3) := by decide +kernel
theorem dX11_enterCustom_74 : decode cX11_enterCustom 74 = .ok (.aload 4, 2) := by decide +kernel
theorem dX11_enterCustom_76 : decode cX11_enterCustom 76 = .ok (.invokevirtual 197, 3) := by decide +kernel
theorem dX11_enterCustom_79 : decode cX11_enterCustom 79 = .ok (.pop, 1) := by decide +kernel
theorem dX11_enterCustom_80 : decode cX11_enterCustom 80 = .ok (.return_, 1) := by decide +kernel
def fX11_enterCustom (a1 : Int32) (a2 : Nat) (h : Hp) : Option (Unit × Hp) := br (1 ≤ (fX3_numbersLeft h)) (lb (gR h 8 a2 0) (fun o1 => mt o1 none (fun z2 => gd (ib a1 12) (lb (gI h 41 z2 (ix a1)) (fun v4 => lb (gN h 5) (fun z5 => lb (nw h 5 13) (fun h6 => lb (gR h6 8 a2 1) (fun o7 => mt o7 none (fun z8 => gd (ib a1 12) (bd (fX5_init z5 2 a1 (v4 / 32) (v4 - v4 / 32 * 32) (gI h6 42 z8 (ix a1)) h6) (fun r10 h11 => bd (fX5_setYears z5 ((gI h11 11 0 11) + 1) ((gI h11 11 0 11) + 1) 199 ((gI h11 11 0 11) + 1) h11) (fun r12 h13 => bd (fX3_enter z5 h13) (fun r14 h15 => some ((), h15)))))))))))))) (some ((), h))
set_option maxRecDepth 20000 in
theorem tX11_enterCustom {X : Cz} {a1 : Int32} {a2 : Nat} {h hE : Hp} {rE : Unit} (hF : fX11_enterCustom a1 a2 h = some (rE, hE)) : Ct X mX11_enterCustom true [zr 11 0, zi a1, zr 8 a2] h (none) hE := by
  refine Ct_of (by decide) (Nat.le_of_ble_eq_true rfl) (ls := [(0, zr 11 0), (1, zi a1), (2, zr 8 a2)]) rfl ?_
  unfold fX11_enterCustom at hF
  refine v_aload_n (j := 0) dX11_enterCustom_0 rfl ?_
  refine v_getL (c := 11) rfl rfl rfl ly11_2 cz11 flX11_26 dX11_enterCustom_1 ?_
  refine v_cV (hm := h) (av := []) (st := []) (stn := [zi (fX3_numbersLeft h)]) (tX3_numbersLeft h) lcX3_numbersLeft mlX11_150 imX3_numbersLeft seX3_numbersLeft rfl rfl rfl rfl ⟨by decide, by decide⟩ (Nat.le_of_ble_eq_true rfl) dX11_enterCustom_4 rfl rfl ?_
  refine v_iconst (v := 1) dX11_enterCustom_7 (by decide) ?_
  refine v_icmp_ge dX11_enterCustom_8 (by decide : _ = ((12 : Nat) : Int)) (fun q => ?_) (fun q => ?_)
  · replace hF := brT q hF
    refine v_aload_n (j := 2) dX11_enterCustom_12 rfl ?_
    refine v_getR (c := 8) (k2 := 41) rfl rfl rfl cz8 flX11_365 dX11_enterCustom_13 ?_
    refine v_topq fun o1 eo1 => ?_
    replace hF := lb_use eo1 hF
    clear eo1
    refine v_iload_n (j := 1) dX11_enterCustom_16 rfl ?_
    replace hF := mt_use hF
    obtain ⟨z2, ez2, hF⟩ := hF
    subst ez2
    replace hF := gd_use hF
    obtain ⟨q3, hF⟩ := hF
    refine v_iald rfl q3 dX11_enterCustom_17 ?_
    refine v_topi fun v4 ev4 => ?_
    replace hF := lb_use ev4 hF
    clear ev4
    refine v_istore_n (ls' := [(3, zi v4), (0, zr 11 0), (1, zi a1), (2, zr 8 a2)]) dX11_enterCustom_18 (by decide) rfl ?_
    refine v_new (k := 5) (c := 5) rfl (by decide) rfl clX11_185 cz5 (Or.inr (by decide)) dX11_enterCustom_19 ?_
    refine v_topr fun z5 ez5 => ?_
    replace hF := lb_use ez5 hF
    clear ez5
    refine v_toph fun h6 eh6 => ?_
    replace hF := lb_use eh6 hF
    clear eh6
    refine v_dup dX11_enterCustom_22 rfl ?_
    refine v_iconst (v := 2) dX11_enterCustom_23 (by decide) ?_
    refine v_iload_n (j := 2) dX11_enterCustom_24 rfl ?_
    refine v_iload_n (j := 0) dX11_enterCustom_25 rfl ?_
    refine v_bipush (v := 32) dX11_enterCustom_26 (by decide) ?_
    refine v_idiv dX11_enterCustom_28 (by decide) ?_
    refine v_iload_n (j := 0) dX11_enterCustom_29 rfl ?_
    refine v_bipush (v := 32) dX11_enterCustom_30 (by decide) ?_
    refine v_irem dX11_enterCustom_32 (by decide) ?_
    refine v_aload_n (j := 3) dX11_enterCustom_33 rfl ?_
    refine v_getR (c := 8) (k2 := 42) rfl rfl rfl cz8 flX11_368 dX11_enterCustom_34 ?_
    refine v_topq fun o7 eo7 => ?_
    replace hF := lb_use eo7 hF
    clear eo7
    refine v_iload_n (j := 2) dX11_enterCustom_37 rfl ?_
    replace hF := mt_use hF
    obtain ⟨z8, ez8, hF⟩ := hF
    subst ez8
    replace hF := gd_use hF
    obtain ⟨q9, hF⟩ := hF
    refine v_iald rfl q9 dX11_enterCustom_38 ?_
    replace hF := bd_use hF
    obtain ⟨r10, h11, er10, hF⟩ := hF
    refine v_cI (hm := h11) (av := [zi 2, zi a1, zi (v4 / 32), zi (v4 - v4 / 32 * 32), zi (gI h6 42 z8 (ix a1))]) (st := [zr 5 z5]) (stn := [zr 5 z5]) (tX5_init er10) lcX5_init mlX11_187 imX5_init rfl rfl rfl ⟨by decide, by decide⟩ (Nat.le_of_ble_eq_true rfl) dX11_enterCustom_39 rfl rfl ?_
    clear er10
    refine v_astore (ls' := [(4, zr 5 z5), (3, zi v4), (0, zr 11 0), (1, zi a1), (2, zr 8 a2)]) dX11_enterCustom_42 (by decide) rfl ?_
    refine v_aload (j := 0) dX11_enterCustom_44 rfl ?_
    refine v_aload_n (j := 2) dX11_enterCustom_46 rfl ?_
    refine v_getI (c := 11) rfl (Or.inl rfl) cz11 flX11_111 dX11_enterCustom_47 ?_
    refine v_iconst (v := 1) dX11_enterCustom_50 (by decide) ?_
    refine v_iadd dX11_enterCustom_51 ?_
    refine v_aload_n (j := 2) dX11_enterCustom_52 rfl ?_
    refine v_getI (c := 11) rfl (Or.inl rfl) cz11 flX11_111 dX11_enterCustom_53 ?_
    refine v_iconst (v := 1) dX11_enterCustom_56 (by decide) ?_
    refine v_iadd dX11_enterCustom_57 ?_
    refine v_sipush (v := 199) dX11_enterCustom_58 (by decide) ?_
    refine v_aload_n (j := 2) dX11_enterCustom_61 rfl ?_
    refine v_getI (c := 11) rfl (Or.inl rfl) cz11 flX11_111 dX11_enterCustom_62 ?_
    refine v_iconst (v := 1) dX11_enterCustom_65 (by decide) ?_
    refine v_iadd dX11_enterCustom_66 ?_
    replace hF := bd_use hF
    obtain ⟨r12, h13, er12, hF⟩ := hF
    refine v_cV (hm := h13) (av := [zi ((gI h11 11 0 11) + 1), zi ((gI h11 11 0 11) + 1), zi 199, zi ((gI h11 11 0 11) + 1)]) (st := []) (stn := []) (tX5_setYears er12) lcX5_setYears mlX11_190 imX5_setYears seX5_setYears rfl rfl rfl rfl ⟨by decide, by decide⟩ (Nat.le_of_ble_eq_true rfl) dX11_enterCustom_67 rfl rfl ?_
    clear er12
    refine v_aload_n (j := 2) dX11_enterCustom_70 rfl ?_
    refine v_getL (c := 11) rfl rfl rfl ly11_2 cz11 flX11_26 dX11_enterCustom_71 ?_
    refine v_aload (j := 0) dX11_enterCustom_74 rfl ?_
    replace hF := bd_use hF
    obtain ⟨r14, h15, er14, hF⟩ := hF
    refine v_cV (hm := h15) (av := [zr 5 z5]) (st := []) (stn := [zi r14]) (tX3_enter er14) lcX3_enter mlX11_197 imX3_enter seX3_enter rfl rfl rfl rfl ⟨by decide, by decide⟩ (Nat.le_of_ble_eq_true rfl) dX11_enterCustom_76 rfl rfl ?_
    clear er14
    refine v_pop dX11_enterCustom_79 rfl ?_
    cases hF
    exact v_vret rfl dX11_enterCustom_80
  · replace hF := brF q hF
    cases hF
    exact v_vret rfl dX11_enterCustom_11
theorem dX11_go_0 : decode cX11_go 0 = .ok (.aload_n 0, 1) := by decide +kernel
theorem dX11_go_1 : decode cX11_go 1 = .ok (.getfield 111, 3) := by decide +kernel
theorem dX11_go_4 : decode cX11_go 4 = .ok (.sipush 199, 3) := by decide +kernel
theorem dX11_go_7 : decode cX11_go 7 = .ok (.if_icmp .lt 6, 3) := by decide +kernel
theorem dX11_go_10 : decode cX11_go 10 = .ok (.bipush (-9), 2) := by decide +kernel
theorem dX11_go_12 : decode cX11_go 12 = .ok (.ireturn, 1) := by decide +kernel
theorem dX11_go_13 : decode cX11_go 13 = .ok (.new 69, 3) := by decide +kernel
theorem dX11_go_16 : decode cX11_go 16 = .ok (.dup, 1) := by decide +kernel
theorem dX11_go_17 : decode cX11_go 17 = .ok (.invokespecial 75, 3) := by decide +kernel
theorem dX11_go_20 : decode cX11_go 20 = .ok (.astore_n 1, 1) := by decide +kernel
theorem dX11_go_21 : decode cX11_go 21 = .ok (.aload_n 0, 1) := by decide +kernel
theorem dX11_go_22 : decode cX11_go 22 = .ok (.getfield 26, 3) := by decide +kernel
theorem dX11_go_25 : decode cX11_go 25 = .ok (.aload_n 0, 1) := by decide +kernel
theorem dX11_go_26 : decode cX11_go 26 = .ok (.getfield 111, 3) := by decide +kernel
theorem dX11_go_29 : decode cX11_go 29 = .ok (.aload_n 0, 1) := by decide +kernel
theorem dX11_go_30 : decode cX11_go 30 = .ok (.getfield 80, 3) := by decide +kernel
theorem dX11_go_33 : decode cX11_go 33 = .ok (.invokevirtual 322, 3) := by decide +kernel
theorem dX11_go_36 : decode cX11_go 36 = .ok (.aload_n 0, 1) := by decide +kernel
theorem dX11_go_37 : decode cX11_go 37 = .ok (.getfield 35, 3) := by decide +kernel
theorem dX11_go_40 : decode cX11_go 40 = .ok (.aload_n 1, 1) := by decide +kernel
theorem dX11_go_41 : decode cX11_go 41 = .ok (.aload_n 0, 1) := by decide +kernel
theorem dX11_go_42 : decode cX11_go 42 = .ok (.getfield 80, 3) := by decide +kernel
theorem dX11_go_45 : decode cX11_go 45 = .ok (.aload_n 0, 1) := by decide +kernel
theorem dX11_go_46 : decode cX11_go 46 = .ok (.getfield 88, 3) := by decide +kernel
theorem dX11_go_49 : decode cX11_go 49 = .ok (.invokevirtual 340, 3) := by decide +kernel
theorem dX11_go_52 : decode cX11_go 52 = .ok (.aload_n 0, 1) := by decide +kernel
theorem dX11_go_53 : decode cX11_go 53 = .ok (.getfield 71, 3) := by decide +kernel
theorem dX11_go_56 : decode cX11_go 56 = .ok (.aload_n 0, 1) := by decide +kernel
theorem dX11_go_57 : decode cX11_go 57 = .ok (.getfield 111, 3) := by decide +kernel
theorem dX11_go_60 : decode cX11_go 60 = .ok (.aload_n 1, 1) := by decide +kernel
theorem dX11_go_61 : decode cX11_go 61 = .ok (.aastore, 1) := by decide +kernel
theorem dX11_go_62 : decode cX11_go 62 = .ok (.iconst 0, 1) := by decide +kernel
theorem dX11_go_63 : decode cX11_go 63 = .ok (.istore_n 2, 1) := by decide +kernel
theorem dX11_go_64 : decode cX11_go 64 = .ok (.iload_n 2, 1) := by decide +kernel
theorem dX11_go_65 : decode cX11_go 65 = .ok (.aload_n 0, 1) := by decide +kernel
theorem dX11_go_66 : decode cX11_go 66 = .ok (.getfield 19, 3) := by decide +kernel
theorem dX11_go_69 : decode cX11_go 69 = .ok (.getfield 304, 3) := by decide +kernel
theorem dX11_go_72 : decode cX11_go 72 = .ok (.if_icmp .ge 36, 3) := by decide +kernel
theorem dX11_go_75 : decode cX11_go 75 = .ok (.aload_n 0, 1) := by decide +kernel
theorem dX11_go_76 : decode cX11_go 76 = .ok (.getfield 19, 3) := by decide +kernel
theorem dX11_go_79 : decode cX11_go 79 = .ok (.iload_n 2, 1) := by decide +kernel
theorem dX11_go_80 : decode cX11_go 80 = .ok (.aload_n 1, 1) := by decide +kernel
theorem dX11_go_81 : decode cX11_go 81 = .ok (.iload_n 2, 1) := by decide +kernel
theorem dX11_go_82 : decode cX11_go 82 = .ok (.invokevirtual 344, 3) := by decide +kernel
theorem dX11_go_85 : decode cX11_go 85 = .ok (.invokevirtual 347, 3) := by decide +kernel
theorem dX11_go_88 : decode cX11_go 88 = .ok (.aload_n 0, 1) := by decide +kernel
theorem dX11_go_89 : decode cX11_go 89 = .ok (.iload_n 2, 1) := by decide +kernel
theorem dX11_go_90 : decode cX11_go 90 = .ok (.invokevirtual 351, 3) := by decide +kernel
theorem dX11_go_93 : decode cX11_go 93 = .ok (.ifCond .eq 9, 3) := by decide +kernel
theorem dX11_go_96 : decode cX11_go 96 = .ok (.aload_n 0, 1) := by decide +kernel
theorem dX11_go_97 : decode cX11_go 97 = .ok (.iload_n 2, 1) := by decide +kernel
theorem dX11_go_98 : decode cX11_go 98 = .ok (.aload_n 1, 1) := by decide +kernel
theorem dX11_go_99 : decode cX11_go 99 = .ok (.invokevirtual 354, 3) := by decide +kernel
theorem dX11_go_102 : decode cX11_go 102 = .ok (.iinc 2 1, 3) := by decide +kernel
theorem dX11_go_105 : decode cX11_go 105 = .ok (.goto (-41), 3) := by decide +kernel
theorem dX11_go_108 : decode cX11_go 108 = .ok (.aload_n 0, 1) := by decide +kernel
theorem dX11_go_109 : decode cX11_go 109 = .ok (.dup, 1) := by decide +kernel
theorem dX11_go_110 : decode cX11_go 110 = .ok (.getfield 111, 3) := by decide +kernel
theorem dX11_go_113 : decode cX11_go 113 = .ok (.iconst 1, 1) := by decide +kernel
theorem dX11_go_114 : decode cX11_go 114 = .ok (.iadd, 1) := by decide +kernel
theorem dX11_go_115 : decode cX11_go 115 = .ok (.putfield 111, 3) := by decide +kernel
theorem dX11_go_118 : decode cX11_go 118 = .ok (.aload_n 1, 1) := by decide +kernel
theorem dX11_go_119 : decode cX11_go 119 = .ok (.getfield 358, 3) := by decide +kernel
theorem dX11_go_122 : decode cX11_go 122 = .ok (.ireturn, 1) := by decide +kernel
def fX11_go_L64 : Nat → Nat → Int32 → Hp → Option ((Int32) × Hp)
  | 0, _, _, _ => none
  | n + 1, a1, a2, h => br ((gI h 4 0 1) ≤ a2) (some ((a2), h)) (bd (fX8_isSitting a1 a2 h) (fun r11 h12 => bd (fX4_noteYear a2 r11 h12) (fun r13 h14 => bd (fX11_hasComeToCustom a2 h14) (fun r15 h16 => br (r15 = 0) (lb (a2 + 1) (fun v17 => fX11_go_L64 n a1 v17 h16)) (bd (fX11_enterCustom a2 a1 h16) (fun r18 h19 => lb (a2 + 1) (fun v20 => fX11_go_L64 n a1 v20 h19)))))))
def fX11_go (h : Hp) : Option (Int32 × Hp) := br ((gI h 11 0 11) < 199) (lb (gN h 8) (fun z1 => lb (nw h 8 5) (fun h2 => bd (fX8_init z1 h2) (fun r3 h4 => bd (fX3_fillOwners (gI h4 11 0 11) h4) (fun r5 h6 => bd (fX10_seatAll z1 (gI h6 11 0 13) h6) (fun r7 h8 => gd (ib (gI h8 11 0 11) 200) (lb (sR h8 52 0 (ix (gI h8 11 0 11)) (some z1)) (fun h10 => bd (fX11_go_L64 FU z1 0 h10) (fun v23 h21 => lb (sI h21 11 0 11 ((gI h21 11 0 11) + 1)) (fun h24 => some (gI h24 8 z1 4, h24))))))))))) (some ((-9), h))
set_option maxRecDepth 20000 in
theorem tX11_go_L64 {X : Cz} {h0 : Hp} {r : Option AV} {hE : Hp} : ∀ (n : Nat) (a1 : Nat) (a2 : Int32) (h : Hp) (z : (Int32) × Hp), fX11_go_L64 n a1 a2 h = some z → V X mX11_go true h0 108 [(0, zr 11 0), (1, zr 8 a1), (2, zi z.1)] [] z.2 r hE → V X mX11_go true h0 64 [(0, zr 11 0), (1, zr 8 a1), (2, zi a2)] [] h r hE := by
  intro n
  induction n with
  | zero => intro a1 a2 h z hF k; cases hF
  | succ n ih =>
    intro a1 a2 h z hF k
    rw [fX11_go_L64] at hF
    refine v_iload_n (j := 2) dX11_go_64 rfl ?_
    refine v_aload_n (j := 0) dX11_go_65 rfl ?_
    refine v_getL (c := 11) rfl rfl rfl ly11_1 cz11 flX11_19 dX11_go_66 ?_
    refine v_getI (c := 4) rfl (Or.inl rfl) cz4 flX11_304 dX11_go_69 ?_
    refine v_icmp_ge dX11_go_72 (by decide : _ = ((108 : Nat) : Int)) (fun q => ?_) (fun q => ?_)
    · replace hF := brT q hF
      cases hF
      exact k
    · replace hF := brF q hF
      refine v_aload_n (j := 0) dX11_go_75 rfl ?_
      refine v_getL (c := 11) rfl rfl rfl ly11_1 cz11 flX11_19 dX11_go_76 ?_
      refine v_iload_n (j := 2) dX11_go_79 rfl ?_
      refine v_aload_n (j := 1) dX11_go_80 rfl ?_
      refine v_iload_n (j := 2) dX11_go_81 rfl ?_
      replace hF := bd_use hF
      obtain ⟨r11, h12, er11, hF⟩ := hF
      refine v_cV (hm := h12) (av := [zi a2]) (st := [zi a2, zr 4 0]) (stn := [zi r11, zi a2, zr 4 0]) (tX8_isSitting er11) lcX8_isSitting mlX11_344 imX8_isSitting seX8_isSitting rfl rfl rfl rfl ⟨by decide, by decide⟩ (Nat.le_of_ble_eq_true rfl) dX11_go_82 rfl rfl ?_
      clear er11
      replace hF := bd_use hF
      obtain ⟨r13, h14, er13, hF⟩ := hF
      refine v_cV (hm := h14) (av := [zi a2, zi r11]) (st := []) (stn := []) (tX4_noteYear er13) lcX4_noteYear mlX11_347 imX4_noteYear seX4_noteYear rfl rfl rfl rfl ⟨by decide, by decide⟩ (Nat.le_of_ble_eq_true rfl) dX11_go_85 rfl rfl ?_
      clear er13
      refine v_aload_n (j := 0) dX11_go_88 rfl ?_
      refine v_iload_n (j := 2) dX11_go_89 rfl ?_
      replace hF := bd_use hF
      obtain ⟨r15, h16, er15, hF⟩ := hF
      refine v_cV (hm := h16) (av := [zi a2]) (st := []) (stn := [zi r15]) (tX11_hasComeToCustom er15) lcX11_hasComeToCustom mlX11_351 imX11_hasComeToCustom seX11_hasComeToCustom rfl rfl rfl rfl ⟨by decide, by decide⟩ (Nat.le_of_ble_eq_true rfl) dX11_go_90 rfl rfl ?_
      clear er15
      refine v_if_eq dX11_go_93 (by decide : _ = ((102 : Nat) : Int)) (fun q => ?_) (fun q => ?_)
      · replace hF := brT q hF
        obtain ⟨v17, ev17⟩ : ∃ y : Int32, y = a2 + 1 := ⟨_, rfl⟩
        replace hF := lb_use ev17 hF
        refine v_iinc (j := 2) (v := v17) (ls' := [(2, zi v17), (0, zr 11 0), (1, zr 8 a1)]) dX11_go_102 rfl (by rw [ev17]; rfl) (by decide) rfl ?_
        clear ev17
        refine v_goto (tgt := 64) dX11_go_105 (by decide) ?_
        refine v_sub [1, 2, 0] rfl ?_
        exact ih a1 v17 h16 _ hF k
      · replace hF := brF q hF
        refine v_aload_n (j := 0) dX11_go_96 rfl ?_
        refine v_iload_n (j := 2) dX11_go_97 rfl ?_
        refine v_aload_n (j := 1) dX11_go_98 rfl ?_
        replace hF := bd_use hF
        obtain ⟨r18, h19, er18, hF⟩ := hF
        refine v_cV (hm := h19) (av := [zi a2, zr 8 a1]) (st := []) (stn := []) (tX11_enterCustom er18) lcX11_enterCustom mlX11_354 imX11_enterCustom seX11_enterCustom rfl rfl rfl rfl ⟨by decide, by decide⟩ (Nat.le_of_ble_eq_true rfl) dX11_go_99 rfl rfl ?_
        clear er18
        obtain ⟨v20, ev20⟩ : ∃ y : Int32, y = a2 + 1 := ⟨_, rfl⟩
        replace hF := lb_use ev20 hF
        refine v_iinc (j := 2) (v := v20) (ls' := [(2, zi v20), (0, zr 11 0), (1, zr 8 a1)]) dX11_go_102 rfl (by rw [ev20]; rfl) (by decide) rfl ?_
        clear ev20
        refine v_goto (tgt := 64) dX11_go_105 (by decide) ?_
        refine v_sub [1, 2, 0] rfl ?_
        exact ih a1 v20 h19 _ hF k
set_option maxRecDepth 20000 in
theorem tX11_go {X : Cz} {h hE : Hp} {rE : Int32} (hF : fX11_go h = some (rE, hE)) : Ct X mX11_go true [zr 11 0] h (some (zi rE)) hE := by
  refine Ct_of (by decide) (Nat.le_of_ble_eq_true rfl) (ls := [(0, zr 11 0)]) rfl ?_
  unfold fX11_go at hF
  refine v_aload_n (j := 0) dX11_go_0 rfl ?_
  refine v_getI (c := 11) rfl (Or.inl rfl) cz11 flX11_111 dX11_go_1 ?_
  refine v_sipush (v := 199) dX11_go_4 (by decide) ?_
  refine v_icmp_lt dX11_go_7 (by decide : _ = ((13 : Nat) : Int)) (fun q => ?_) (fun q => ?_)
  · replace hF := brT q hF
    refine v_new (k := 8) (c := 8) rfl (by decide) rfl clX11_69 cz8 (Or.inr (by decide)) dX11_go_13 ?_
    refine v_topr fun z1 ez1 => ?_
    replace hF := lb_use ez1 hF
    clear ez1
    refine v_toph fun h2 eh2 => ?_
    replace hF := lb_use eh2 hF
    clear eh2
    refine v_dup dX11_go_16 rfl ?_
    replace hF := bd_use hF
    obtain ⟨r3, h4, er3, hF⟩ := hF
    refine v_cI (hm := h4) (av := []) (st := [zr 8 z1]) (stn := [zr 8 z1]) (tX8_init er3) lcX8_init mlX11_75 imX8_init rfl rfl rfl ⟨by decide, by decide⟩ (Nat.le_of_ble_eq_true rfl) dX11_go_17 rfl rfl ?_
    clear er3
    refine v_astore_n (ls' := [(1, zr 8 z1), (0, zr 11 0)]) dX11_go_20 (by decide) rfl ?_
    refine v_aload_n (j := 1) dX11_go_21 rfl ?_
    refine v_getL (c := 11) rfl rfl rfl ly11_2 cz11 flX11_26 dX11_go_22 ?_
    refine v_aload_n (j := 1) dX11_go_25 rfl ?_
    refine v_getI (c := 11) rfl (Or.inl rfl) cz11 flX11_111 dX11_go_26 ?_
    refine v_aload_n (j := 1) dX11_go_29 rfl ?_
    refine v_getL (c := 11) rfl rfl rfl ly11_10 cz11 flX11_80 dX11_go_30 ?_
    replace hF := bd_use hF
    obtain ⟨r5, h6, er5, hF⟩ := hF
    refine v_cV (hm := h6) (av := [zi (gI h4 11 0 11), zr 53 0]) (st := []) (stn := []) (tX3_fillOwners er5) lcX3_fillOwners mlX11_322 imX3_fillOwners seX3_fillOwners rfl rfl rfl rfl ⟨by decide, by decide⟩ (Nat.le_of_ble_eq_true rfl) dX11_go_33 rfl rfl ?_
    clear er5
    refine v_aload_n (j := 1) dX11_go_36 rfl ?_
    refine v_getL (c := 11) rfl rfl rfl ly11_3 cz11 flX11_35 dX11_go_37 ?_
    refine v_aload_n (j := 0) dX11_go_40 rfl ?_
    refine v_aload_n (j := 1) dX11_go_41 rfl ?_
    refine v_getL (c := 11) rfl rfl rfl ly11_10 cz11 flX11_80 dX11_go_42 ?_
    refine v_aload_n (j := 1) dX11_go_45 rfl ?_
    refine v_getI (c := 11) rfl (Or.inl rfl) cz11 flX11_88 dX11_go_46 ?_
    replace hF := bd_use hF
    obtain ⟨r7, h8, er7, hF⟩ := hF
    refine v_cV (hm := h8) (av := [zr 8 z1, zr 53 0, zi (gI h6 11 0 13)]) (st := []) (stn := []) (tX10_seatAll er7) lcX10_seatAll mlX11_340 imX10_seatAll seX10_seatAll rfl rfl rfl rfl ⟨by decide, by decide⟩ (Nat.le_of_ble_eq_true rfl) dX11_go_49 rfl rfl ?_
    clear er7
    refine v_aload_n (j := 1) dX11_go_52 rfl ?_
    refine v_getL (c := 11) rfl rfl rfl ly11_8 cz11 flX11_71 dX11_go_53 ?_
    refine v_aload_n (j := 1) dX11_go_56 rfl ?_
    refine v_getI (c := 11) rfl (Or.inl rfl) cz11 flX11_111 dX11_go_57 ?_
    refine v_aload_n (j := 0) dX11_go_60 rfl ?_
    replace hF := gd_use hF
    obtain ⟨q9, hF⟩ := hF
    refine v_aast (k2 := 8) (z := z1) rfl (by decide) rfl rfl rfl rfl (Or.inr (by decide)) q9 dX11_go_61 ?_
    refine v_toph fun h10 eh10 => ?_
    replace hF := lb_use eh10 hF
    clear eh10
    refine v_iconst (v := 0) dX11_go_62 (by decide) ?_
    refine v_istore_n (ls' := [(2, zi 0), (1, zr 8 z1), (0, zr 11 0)]) dX11_go_63 (by decide) rfl ?_
    refine v_sub [2, 1, 0] rfl ?_
    replace hF := bd_use hF
    obtain ⟨v23, h21, ev23, hF⟩ := hF
    refine tX11_go_L64 _ z1 0 h10 _ ev23 ?_
    clear ev23
    refine v_aload_n (j := 0) dX11_go_108 rfl ?_
    refine v_dup dX11_go_109 rfl ?_
    refine v_getI (c := 11) rfl (Or.inl rfl) cz11 flX11_111 dX11_go_110 ?_
    refine v_iconst (v := 1) dX11_go_113 (by decide) ?_
    refine v_iadd dX11_go_114 ?_
    refine v_putI (c := 11) rfl rfl (Nat.le_of_ble_eq_true rfl) cz11 flX11_111 dX11_go_115 ?_
    refine v_toph fun h24 eh24 => ?_
    replace hF := lb_use eh24 hF
    clear eh24
    refine v_aload_n (j := 1) dX11_go_118 rfl ?_
    refine v_getI (c := 8) rfl (Or.inl rfl) cz8 flX11_358 dX11_go_119 ?_
    obtain ⟨rfl, rfl⟩ := ret_use hF
    exact v_iret rfl dX11_go_122
  · replace hF := brF q hF
    refine v_bipush (v := (-9)) dX11_go_10 (by decide) ?_
    obtain ⟨rfl, rfl⟩ := ret_use hF
    exact v_iret rfl dX11_go_12
theorem dX11_seat_0 : decode cX11_seat 0 = .ok (.aload_n 0, 1) := by decide +kernel
theorem dX11_seat_1 : decode cX11_seat 1 = .ok (.iload_n 2, 1) := by decide +kernel
theorem dX11_seat_2 : decode cX11_seat 2 = .ok (.invokevirtual 361, 3) := by decide +kernel
theorem dX11_seat_5 : decode cX11_seat 5 = .ok (.astore 4, 2) := by decide +kernel
theorem dX11_seat_7 : decode cX11_seat 7 = .ok (.aload 4, 2) := by decide +kernel
theorem dX11_seat_9 : decode cX11_seat 9 = .ok (.ifnull 12, 3) := by decide +kernel
theorem dX11_seat_12 : decode cX11_seat 12 = .ok (.aload 4, 2) := by decide +kernel
theorem dX11_seat_14 : decode cX11_seat 14 = .ok (.iload_n 1, 1) := by decide +kernel
theorem dX11_seat_15 : decode cX11_seat 15 = .ok (.invokevirtual 344, 3) := by decide +kernel
theorem dX11_seat_18 : decode cX11_seat 18 = .ok (.ifCond .ne 5, 3) := by decide +kernel
theorem dX11_seat_21 : decode cX11_seat 21 = .ok (.iconst (-1), 1) := by decide +kernel
theorem dX11_seat_22 : decode cX11_seat 22 = .ok (.ireturn, 1) := by decide +kernel
theorem dX11_seat_23 : decode cX11_seat 23 = .ok (.iload_n 3, 1) := by decide +kernel
theorem dX11_seat_24 : decode cX11_seat 24 = .ok (.tableswitch 90 0 4 #[36, 47, 58, 66, 82], 36) := by decide +kernel
theorem dX11_seat_60 : decode cX11_seat 60 = .ok (.aload 4, 2) := by decide +kernel
theorem dX11_seat_62 : decode cX11_seat 62 = .ok (.getfield 365, 3) := by decide +kernel
theorem dX11_seat_65 : decode cX11_seat 65 = .ok (.iload_n 1, 1) := by decide +kernel
theorem dX11_seat_66 : decode cX11_seat 66 = .ok (.iaload, 1) := by decide +kernel
theorem dX11_seat_67 : decode cX11_seat 67 = .ok (.bipush 32, 2) := by decide +kernel
theorem dX11_seat_69 : decode cX11_seat 69 = .ok (.idiv, 1) := by decide +kernel
theorem dX11_seat_70 : decode cX11_seat 70 = .ok (.ireturn, 1) := by decide +kernel
theorem dX11_seat_71 : decode cX11_seat 71 = .ok (.aload 4, 2) := by decide +kernel
theorem dX11_seat_73 : decode cX11_seat 73 = .ok (.getfield 365, 3) := by decide +kernel
theorem dX11_seat_76 : decode cX11_seat 76 = .ok (.iload_n 1, 1) := by decide +kernel
theorem dX11_seat_77 : decode cX11_seat 77 = .ok (.iaload, 1) := by decide +kernel
theorem dX11_seat_78 : decode cX11_seat 78 = .ok (.bipush 32, 2) := by decide +kernel
theorem dX11_seat_80 : decode cX11_seat 80 = .ok (.irem, 1) := by decide +kernel
theorem dX11_seat_81 : decode cX11_seat 81 = .ok (.ireturn, 1) := by decide +kernel
theorem dX11_seat_82 : decode cX11_seat 82 = .ok (.aload 4, 2) := by decide +kernel
theorem dX11_seat_84 : decode cX11_seat 84 = .ok (.getfield 368, 3) := by decide +kernel
theorem dX11_seat_87 : decode cX11_seat 87 = .ok (.iload_n 1, 1) := by decide +kernel
theorem dX11_seat_88 : decode cX11_seat 88 = .ok (.iaload, 1) := by decide +kernel
theorem dX11_seat_89 : decode cX11_seat 89 = .ok (.ireturn, 1) := by decide +kernel
theorem dX11_seat_90 : decode cX11_seat 90 = .ok (.aload 4, 2) := by decide +kernel
theorem dX11_seat_92 : decode cX11_seat 92 = .ok (.getfield 370, 3) := by decide +kernel
theorem dX11_seat_95 : decode cX11_seat 95 = .ok (.iload_n 1, 1) := by decide +kernel
theorem dX11_seat_96 : decode cX11_seat 96 = .ok (.baload, 1) := by decide +kernel
theorem dX11_seat_97 : decode cX11_seat 97 = .ok (.ifCond .eq 7, 3) := by decide +kernel
theorem dX11_seat_100 : decode cX11_seat 100 = .ok (.iconst 1, 1) := by decide +kernel
theorem dX11_seat_101 : decode cX11_seat 101 = .ok (.goto 4, 3) := by decide +kernel
theorem dX11_seat_104 : decode cX11_seat 104 = .ok (.iconst 0, 1) := by decide +kernel
theorem dX11_seat_105 : decode cX11_seat 105 = .ok (.ireturn, 1) := by decide +kernel
theorem dX11_seat_106 : decode cX11_seat 106 = .ok (.aload 4, 2) := by decide +kernel
theorem dX11_seat_108 : decode cX11_seat 108 = .ok (.getfield 374, 3) := by decide +kernel
theorem dX11_seat_111 : decode cX11_seat 111 = .ok (.iload_n 1, 1) := by decide +kernel
theorem dX11_seat_112 : decode cX11_seat 112 = .ok (.iaload, 1) := by decide +kernel
theorem dX11_seat_113 : decode cX11_seat 113 = .ok (.ireturn, 1) := by decide +kernel
theorem dX11_seat_114 : decode cX11_seat 114 = .ok (.iconst (-1), 1) := by decide +kernel
theorem dX11_seat_115 : decode cX11_seat 115 = .ok (.ireturn, 1) := by decide +kernel
def fX11_seat (a1 : Int32) (a2 : Int32) (a3 : Int32) (h : Hp) : Option (Int32 × Hp) := bd (fX11_seatingOf a2 h) (fun r1 h2 => mt r1 (some ((-1), h2)) (fun z3 => bd (fX8_isSitting z3 a1 h2) (fun r4 h5 => br (r4 = 0) (some ((-1), h5)) (br (a3 = 0) (lb (gR h5 8 z3 0) (fun o6 => mt o6 none (fun z7 => gd (ib a1 12) (some ((gI h5 41 z7 (ix a1)) / 32, h5))))) (br (a3 = 1) (lb (gR h5 8 z3 0) (fun o9 => mt o9 none (fun z10 => gd (ib a1 12) (some ((gI h5 41 z10 (ix a1)) - (gI h5 41 z10 (ix a1)) / 32 * 32, h5))))) (br (a3 = 2) (lb (gR h5 8 z3 1) (fun o12 => mt o12 none (fun z13 => gd (ib a1 12) (some (gI h5 42 z13 (ix a1), h5))))) (br (a3 = 3) (lb (gR h5 8 z3 3) (fun o15 => mt o15 none (fun z16 => gd (ib a1 12) (br ((gI h5 44 z16 (ix a1)) = 0) (some (0, h5)) (some (1, h5)))))) (br (a3 = 4) (lb (gR h5 8 z3 2) (fun o18 => mt o18 none (fun z19 => gd (ib a1 12) (some (gI h5 43 z19 (ix a1), h5))))) (some ((-1), h5))))))))))
set_option maxRecDepth 20000 in
theorem tX11_seat {X : Cz} {a1 : Int32} {a2 : Int32} {a3 : Int32} {h hE : Hp} {rE : Int32} (hF : fX11_seat a1 a2 a3 h = some (rE, hE)) : Ct X mX11_seat true [zr 11 0, zi a1, zi a2, zi a3] h (some (zi rE)) hE := by
  refine Ct_of (by decide) (Nat.le_of_ble_eq_true rfl) (ls := [(0, zr 11 0), (1, zi a1), (2, zi a2), (3, zi a3)]) rfl ?_
  unfold fX11_seat at hF
  refine v_aload_n (j := 0) dX11_seat_0 rfl ?_
  refine v_iload_n (j := 2) dX11_seat_1 rfl ?_
  replace hF := bd_use hF
  obtain ⟨r1, h2, er1, hF⟩ := hF
  refine v_cV (hm := h2) (av := [zi a2]) (st := []) (stn := [zq 8 r1]) (tX11_seatingOf er1) lcX11_seatingOf mlX11_361 imX11_seatingOf seX11_seatingOf rfl rfl rfl rfl ⟨by decide, by decide⟩ (Nat.le_of_ble_eq_true rfl) dX11_seat_2 rfl rfl ?_
  clear er1
  refine v_astore (ls' := [(4, zq 8 r1), (0, zr 11 0), (1, zi a1), (2, zi a2), (3, zi a3)]) dX11_seat_5 (by decide) rfl ?_
  refine v_aload (j := 0) dX11_seat_7 rfl ?_
  cases r1 with
  | none =>
    replace hF := mtN hF
    refine v_ifnullN (tgt := 21) dX11_seat_9 (by decide) ?_
    refine v_iconst (v := (-1)) dX11_seat_21 (by decide) ?_
    obtain ⟨rfl, rfl⟩ := ret_use hF
    exact v_iret rfl dX11_seat_22
  | some z3 =>
    replace hF := mtS hF
    refine v_ifnullS (q := (8, z3)) (tgt := 21) dX11_seat_9 (by decide) ?_
    refine v_aload (j := 0) dX11_seat_12 rfl ?_
    refine v_iload_n (j := 2) dX11_seat_14 rfl ?_
    replace hF := bd_use hF
    obtain ⟨r4, h5, er4, hF⟩ := hF
    refine v_cV (hm := h5) (av := [zi a1]) (st := []) (stn := [zi r4]) (tX8_isSitting er4) lcX8_isSitting mlX11_344 imX8_isSitting seX8_isSitting rfl rfl rfl rfl ⟨by decide, by decide⟩ (Nat.le_of_ble_eq_true rfl) dX11_seat_15 rfl rfl ?_
    clear er4
    refine v_if_ne dX11_seat_18 (by decide : _ = ((23 : Nat) : Int)) (fun q => ?_) (fun q => ?_)
    · replace hF := brF q hF
      refine v_iload_n (j := 4) dX11_seat_23 rfl ?_
      by_cases q0 : a3 = 0
      · replace hF := brT q0 hF
        subst q0
        refine v_tblIn (tgt := 60) dX11_seat_24 (by decide) (by decide) rfl (by decide) ?_
        refine v_aload (j := 0) dX11_seat_60 rfl ?_
        refine v_getR (c := 8) (k2 := 41) rfl rfl rfl cz8 flX11_365 dX11_seat_62 ?_
        refine v_topq fun o6 eo6 => ?_
        replace hF := lb_use eo6 hF
        clear eo6
        refine v_iload_n (j := 2) dX11_seat_65 rfl ?_
        replace hF := mt_use hF
        obtain ⟨z7, ez7, hF⟩ := hF
        subst ez7
        replace hF := gd_use hF
        obtain ⟨q8, hF⟩ := hF
        refine v_iald rfl q8 dX11_seat_66 ?_
        refine v_bipush (v := 32) dX11_seat_67 (by decide) ?_
        refine v_idiv dX11_seat_69 (by decide) ?_
        obtain ⟨rfl, rfl⟩ := ret_use hF
        exact v_iret rfl dX11_seat_70
      replace hF := brF q0 hF
      by_cases q1 : a3 = 1
      · replace hF := brT q1 hF
        subst q1
        refine v_tblIn (tgt := 71) dX11_seat_24 (by decide) (by decide) rfl (by decide) ?_
        refine v_aload (j := 0) dX11_seat_71 rfl ?_
        refine v_getR (c := 8) (k2 := 41) rfl rfl rfl cz8 flX11_365 dX11_seat_73 ?_
        refine v_topq fun o9 eo9 => ?_
        replace hF := lb_use eo9 hF
        clear eo9
        refine v_iload_n (j := 2) dX11_seat_76 rfl ?_
        replace hF := mt_use hF
        obtain ⟨z10, ez10, hF⟩ := hF
        subst ez10
        replace hF := gd_use hF
        obtain ⟨q11, hF⟩ := hF
        refine v_iald rfl q11 dX11_seat_77 ?_
        refine v_bipush (v := 32) dX11_seat_78 (by decide) ?_
        refine v_irem dX11_seat_80 (by decide) ?_
        obtain ⟨rfl, rfl⟩ := ret_use hF
        exact v_iret rfl dX11_seat_81
      replace hF := brF q1 hF
      by_cases q2 : a3 = 2
      · replace hF := brT q2 hF
        subst q2
        refine v_tblIn (tgt := 82) dX11_seat_24 (by decide) (by decide) rfl (by decide) ?_
        refine v_aload (j := 0) dX11_seat_82 rfl ?_
        refine v_getR (c := 8) (k2 := 42) rfl rfl rfl cz8 flX11_368 dX11_seat_84 ?_
        refine v_topq fun o12 eo12 => ?_
        replace hF := lb_use eo12 hF
        clear eo12
        refine v_iload_n (j := 2) dX11_seat_87 rfl ?_
        replace hF := mt_use hF
        obtain ⟨z13, ez13, hF⟩ := hF
        subst ez13
        replace hF := gd_use hF
        obtain ⟨q14, hF⟩ := hF
        refine v_iald rfl q14 dX11_seat_88 ?_
        obtain ⟨rfl, rfl⟩ := ret_use hF
        exact v_iret rfl dX11_seat_89
      replace hF := brF q2 hF
      by_cases q3 : a3 = 3
      · replace hF := brT q3 hF
        subst q3
        refine v_tblIn (tgt := 90) dX11_seat_24 (by decide) (by decide) rfl (by decide) ?_
        refine v_aload (j := 0) dX11_seat_90 rfl ?_
        refine v_getR (c := 8) (k2 := 44) rfl rfl rfl cz8 flX11_370 dX11_seat_92 ?_
        refine v_topq fun o15 eo15 => ?_
        replace hF := lb_use eo15 hF
        clear eo15
        refine v_iload_n (j := 2) dX11_seat_95 rfl ?_
        replace hF := mt_use hF
        obtain ⟨z16, ez16, hF⟩ := hF
        subst ez16
        replace hF := gd_use hF
        obtain ⟨q17, hF⟩ := hF
        refine v_zald rfl q17 dX11_seat_96 ?_
        refine v_if_eq dX11_seat_97 (by decide : _ = ((104 : Nat) : Int)) (fun q => ?_) (fun q => ?_)
        · replace hF := brT q hF
          refine v_iconst (v := 0) dX11_seat_104 (by decide) ?_
          obtain ⟨rfl, rfl⟩ := ret_use hF
          exact v_iret rfl dX11_seat_105
        · replace hF := brF q hF
          refine v_iconst (v := 1) dX11_seat_100 (by decide) ?_
          refine v_goto (tgt := 105) dX11_seat_101 (by decide) ?_
          obtain ⟨rfl, rfl⟩ := ret_use hF
          exact v_iret rfl dX11_seat_105
      replace hF := brF q3 hF
      by_cases q4 : a3 = 4
      · replace hF := brT q4 hF
        subst q4
        refine v_tblIn (tgt := 106) dX11_seat_24 (by decide) (by decide) rfl (by decide) ?_
        refine v_aload (j := 0) dX11_seat_106 rfl ?_
        refine v_getR (c := 8) (k2 := 43) rfl rfl rfl cz8 flX11_374 dX11_seat_108 ?_
        refine v_topq fun o18 eo18 => ?_
        replace hF := lb_use eo18 hF
        clear eo18
        refine v_iload_n (j := 2) dX11_seat_111 rfl ?_
        replace hF := mt_use hF
        obtain ⟨z19, ez19, hF⟩ := hF
        subst ez19
        replace hF := gd_use hF
        obtain ⟨q20, hF⟩ := hF
        refine v_iald rfl q20 dX11_seat_112 ?_
        obtain ⟨rfl, rfl⟩ := ret_use hF
        exact v_iret rfl dX11_seat_113
      replace hF := brF q4 hF
      have nq0 := lv_neT (a := 0) q0 rfl
      have nq1 := lv_neT (a := 1) q1 rfl
      have nq2 := lv_neT (a := 2) q2 rfl
      have nq3 := lv_neT (a := 3) q3 rfl
      have nq4 := lv_neT (a := 4) q4 rfl
      refine v_tblOut (tgt := 114) dX11_seat_24 (by omega) (by decide) ?_
      refine v_iconst (v := (-1)) dX11_seat_114 (by decide) ?_
      obtain ⟨rfl, rfl⟩ := ret_use hF
      exact v_iret rfl dX11_seat_115
    · replace hF := brT (Decidable.not_not.mp q) hF
      refine v_iconst (v := (-1)) dX11_seat_21 (by decide) ?_
      obtain ⟨rfl, rfl⟩ := ret_use hF
      exact v_iret rfl dX11_seat_22
theorem dX11_moved_0 : decode cX11_moved 0 = .ok (.aload_n 0, 1) := by decide +kernel
theorem dX11_moved_1 : decode cX11_moved 1 = .ok (.iload_n 1, 1) := by decide +kernel
theorem dX11_moved_2 : decode cX11_moved 2 = .ok (.invokevirtual 361, 3) := by decide +kernel
theorem dX11_moved_5 : decode cX11_moved 5 = .ok (.astore_n 3, 1) := by decide +kernel
theorem dX11_moved_6 : decode cX11_moved 6 = .ok (.aload_n 0, 1) := by decide +kernel
theorem dX11_moved_7 : decode cX11_moved 7 = .ok (.iload_n 2, 1) := by decide +kernel
theorem dX11_moved_8 : decode cX11_moved 8 = .ok (.invokevirtual 361, 3) := by decide +kernel
theorem dX11_moved_11 : decode cX11_moved 11 = .ok (.astore 4, 2) := by decide +kernel
theorem dX11_moved_13 : decode cX11_moved 13 = .ok (.aload_n 3, 1) := by decide +kernel
theorem dX11_moved_14 : decode cX11_moved 14 = .ok (.ifnull 8, 3) := by decide +kernel
theorem dX11_moved_17 : decode cX11_moved 17 = .ok (.aload 4, 2) := by decide +kernel
theorem dX11_moved_19 : decode cX11_moved 19 = .ok (.ifnonnull 6, 3) := by decide +kernel
theorem dX11_moved_22 : decode cX11_moved 22 = .ok (.bipush (-2), 2) := by decide +kernel
theorem dX11_moved_24 : decode cX11_moved 24 = .ok (.ireturn, 1) := by decide +kernel
theorem dX11_moved_25 : decode cX11_moved 25 = .ok (.iconst 0, 1) := by decide +kernel
theorem dX11_moved_26 : decode cX11_moved 26 = .ok (.istore 5, 2) := by decide +kernel
theorem dX11_moved_28 : decode cX11_moved 28 = .ok (.iconst 0, 1) := by decide +kernel
theorem dX11_moved_29 : decode cX11_moved 29 = .ok (.istore 6, 2) := by decide +kernel
theorem dX11_moved_31 : decode cX11_moved 31 = .ok (.iload 6, 2) := by decide +kernel
theorem dX11_moved_33 : decode cX11_moved 33 = .ok (.aload_n 0, 1) := by decide +kernel
theorem dX11_moved_34 : decode cX11_moved 34 = .ok (.getfield 19, 3) := by decide +kernel
theorem dX11_moved_37 : decode cX11_moved 37 = .ok (.getfield 304, 3) := by decide +kernel
theorem dX11_moved_40 : decode cX11_moved 40 = .ok (.if_icmp .ge 42, 3) := by decide +kernel
theorem dX11_moved_43 : decode cX11_moved 43 = .ok (.aload_n 3, 1) := by decide +kernel
theorem dX11_moved_44 : decode cX11_moved 44 = .ok (.iload 6, 2) := by decide +kernel
theorem dX11_moved_46 : decode cX11_moved 46 = .ok (.invokevirtual 344, 3) := by decide +kernel
theorem dX11_moved_49 : decode cX11_moved 49 = .ok (.ifCond .eq 27, 3) := by decide +kernel
theorem dX11_moved_52 : decode cX11_moved 52 = .ok (.aload 4, 2) := by decide +kernel
theorem dX11_moved_54 : decode cX11_moved 54 = .ok (.iload 6, 2) := by decide +kernel
theorem dX11_moved_56 : decode cX11_moved 56 = .ok (.invokevirtual 344, 3) := by decide +kernel
theorem dX11_moved_59 : decode cX11_moved 59 = .ok (.ifCond .eq 17, 3) := by decide +kernel
theorem dX11_moved_62 : decode cX11_moved 62 = .ok (.aload_n 3, 1) := by decide +kernel
theorem dX11_moved_63 : decode cX11_moved 63 = .ok (.aload 4, 2) := by decide +kernel
theorem dX11_moved_65 : decode cX11_moved 65 = .ok (.iload 6, 2) := by decide +kernel
theorem dX11_moved_67 : decode cX11_moved 67 = .ok (.invokevirtual 377, 3) := by decide +kernel
theorem dX11_moved_70 : decode cX11_moved 70 = .ok (.ifCond .ne 6, 3) := by decide +kernel
theorem dX11_moved_73 : decode cX11_moved 73 = .ok (.iinc 5 1, 3) := by decide +kernel
theorem dX11_moved_76 : decode cX11_moved 76 = .ok (.iinc 6 1, 3) := by decide +kernel
theorem dX11_moved_79 : decode cX11_moved 79 = .ok (.goto (-48), 3) := by decide +kernel
theorem dX11_moved_82 : decode cX11_moved 82 = .ok (.iload 5, 2) := by decide +kernel
theorem dX11_moved_84 : decode cX11_moved 84 = .ok (.ireturn, 1) := by decide +kernel
def fX11_moved_L31 : Nat → Nat → Nat → Int32 → Int32 → Hp → Option ((Int32 × Int32) × Hp)
  | 0, _, _, _, _, _ => none
  | n + 1, a3, a4, a5, a6, h => br ((gI h 4 0 1) ≤ a6) (some ((a5, a6), h)) (bd (fX8_isSitting a3 a6 h) (fun r7 h8 => br (r7 = 0) (lb (a6 + 1) (fun v9 => fX11_moved_L31 n a3 a4 a5 v9 h8)) (bd (fX8_isSitting a4 a6 h8) (fun r10 h11 => br (r10 = 0) (lb (a6 + 1) (fun v12 => fX11_moved_L31 n a3 a4 a5 v12 h11)) (bd (fX8_isSameRun a3 a4 a6 h11) (fun r13 h14 => br (r13 = 0) (lb (a5 + 1) (fun v16 => lb (a6 + 1) (fun v17 => fX11_moved_L31 n a3 a4 v16 v17 h14))) (lb (a6 + 1) (fun v15 => fX11_moved_L31 n a3 a4 a5 v15 h14))))))))
def fX11_moved (a1 : Int32) (a2 : Int32) (h : Hp) : Option (Int32 × Hp) := bd (fX11_seatingOf a1 h) (fun r1 h2 => bd (fX11_seatingOf a2 h2) (fun r3 h4 => mt r1 (some ((-2), h4)) (fun z5 => mt r3 (some ((-2), h4)) (fun z6 => bd (fX11_moved_L31 FU z5 z6 0 0 h4) (fun t19 h18 => lb t19.1 (fun v20 => lb t19.2 (fun v21 => some (v20, h18))))))))
set_option maxRecDepth 20000 in
theorem tX11_moved_L31 {X : Cz} {h0 : Hp} {r : Option AV} {hE : Hp} : ∀ (n : Nat) (a3 : Nat) (a4 : Nat) (a5 : Int32) (a6 : Int32) (h : Hp) (z : (Int32 × Int32) × Hp), fX11_moved_L31 n a3 a4 a5 a6 h = some z → V X mX11_moved true h0 82 [(0, zr 11 0), (3, zr 8 a3), (4, zr 8 a4), (5, zi z.1.1), (6, zi z.1.2)] [] z.2 r hE → V X mX11_moved true h0 31 [(0, zr 11 0), (3, zr 8 a3), (4, zr 8 a4), (5, zi a5), (6, zi a6)] [] h r hE := by
  intro n
  induction n with
  | zero => intro a3 a4 a5 a6 h z hF k; cases hF
  | succ n ih =>
    intro a3 a4 a5 a6 h z hF k
    rw [fX11_moved_L31] at hF
    refine v_iload (j := 4) dX11_moved_31 rfl ?_
    refine v_aload_n (j := 0) dX11_moved_33 rfl ?_
    refine v_getL (c := 11) rfl rfl rfl ly11_1 cz11 flX11_19 dX11_moved_34 ?_
    refine v_getI (c := 4) rfl (Or.inl rfl) cz4 flX11_304 dX11_moved_37 ?_
    refine v_icmp_ge dX11_moved_40 (by decide : _ = ((82 : Nat) : Int)) (fun q => ?_) (fun q => ?_)
    · replace hF := brT q hF
      cases hF
      exact k
    · replace hF := brF q hF
      refine v_aload_n (j := 1) dX11_moved_43 rfl ?_
      refine v_iload (j := 4) dX11_moved_44 rfl ?_
      replace hF := bd_use hF
      obtain ⟨r7, h8, er7, hF⟩ := hF
      refine v_cV (hm := h8) (av := [zi a6]) (st := []) (stn := [zi r7]) (tX8_isSitting er7) lcX8_isSitting mlX11_344 imX8_isSitting seX8_isSitting rfl rfl rfl rfl ⟨by decide, by decide⟩ (Nat.le_of_ble_eq_true rfl) dX11_moved_46 rfl rfl ?_
      clear er7
      refine v_if_eq dX11_moved_49 (by decide : _ = ((76 : Nat) : Int)) (fun q => ?_) (fun q => ?_)
      · replace hF := brT q hF
        obtain ⟨v9, ev9⟩ : ∃ y : Int32, y = a6 + 1 := ⟨_, rfl⟩
        replace hF := lb_use ev9 hF
        refine v_iinc (j := 4) (v := v9) (ls' := [(6, zi v9), (0, zr 11 0), (3, zr 8 a3), (4, zr 8 a4), (5, zi a5)]) dX11_moved_76 rfl (by rw [ev9]; rfl) (by decide) rfl ?_
        clear ev9
        refine v_goto (tgt := 31) dX11_moved_79 (by decide) ?_
        refine v_sub [1, 2, 3, 4, 0] rfl ?_
        exact ih a3 a4 a5 v9 h8 _ hF k
      · replace hF := brF q hF
        refine v_aload (j := 2) dX11_moved_52 rfl ?_
        refine v_iload (j := 4) dX11_moved_54 rfl ?_
        replace hF := bd_use hF
        obtain ⟨r10, h11, er10, hF⟩ := hF
        refine v_cV (hm := h11) (av := [zi a6]) (st := []) (stn := [zi r10]) (tX8_isSitting er10) lcX8_isSitting mlX11_344 imX8_isSitting seX8_isSitting rfl rfl rfl rfl ⟨by decide, by decide⟩ (Nat.le_of_ble_eq_true rfl) dX11_moved_56 rfl rfl ?_
        clear er10
        refine v_if_eq dX11_moved_59 (by decide : _ = ((76 : Nat) : Int)) (fun q => ?_) (fun q => ?_)
        · replace hF := brT q hF
          obtain ⟨v12, ev12⟩ : ∃ y : Int32, y = a6 + 1 := ⟨_, rfl⟩
          replace hF := lb_use ev12 hF
          refine v_iinc (j := 4) (v := v12) (ls' := [(6, zi v12), (0, zr 11 0), (3, zr 8 a3), (4, zr 8 a4), (5, zi a5)]) dX11_moved_76 rfl (by rw [ev12]; rfl) (by decide) rfl ?_
          clear ev12
          refine v_goto (tgt := 31) dX11_moved_79 (by decide) ?_
          refine v_sub [1, 2, 3, 4, 0] rfl ?_
          exact ih a3 a4 a5 v12 h11 _ hF k
        · replace hF := brF q hF
          refine v_aload_n (j := 1) dX11_moved_62 rfl ?_
          refine v_aload (j := 2) dX11_moved_63 rfl ?_
          refine v_iload (j := 4) dX11_moved_65 rfl ?_
          replace hF := bd_use hF
          obtain ⟨r13, h14, er13, hF⟩ := hF
          refine v_cV (hm := h14) (av := [zr 8 a4, zi a6]) (st := []) (stn := [zi r13]) (tX8_isSameRun er13) lcX8_isSameRun mlX11_377 imX8_isSameRun seX8_isSameRun rfl rfl rfl rfl ⟨by decide, by decide⟩ (Nat.le_of_ble_eq_true rfl) dX11_moved_67 rfl rfl ?_
          clear er13
          refine v_if_ne dX11_moved_70 (by decide : _ = ((76 : Nat) : Int)) (fun q => ?_) (fun q => ?_)
          · replace hF := brF q hF
            obtain ⟨v15, ev15⟩ : ∃ y : Int32, y = a6 + 1 := ⟨_, rfl⟩
            replace hF := lb_use ev15 hF
            refine v_iinc (j := 4) (v := v15) (ls' := [(6, zi v15), (0, zr 11 0), (3, zr 8 a3), (4, zr 8 a4), (5, zi a5)]) dX11_moved_76 rfl (by rw [ev15]; rfl) (by decide) rfl ?_
            clear ev15
            refine v_goto (tgt := 31) dX11_moved_79 (by decide) ?_
            refine v_sub [1, 2, 3, 4, 0] rfl ?_
            exact ih a3 a4 a5 v15 h14 _ hF k
          · replace hF := brT (Decidable.not_not.mp q) hF
            obtain ⟨v16, ev16⟩ : ∃ y : Int32, y = a5 + 1 := ⟨_, rfl⟩
            replace hF := lb_use ev16 hF
            refine v_iinc (j := 3) (v := v16) (ls' := [(5, zi v16), (0, zr 11 0), (3, zr 8 a3), (4, zr 8 a4), (6, zi a6)]) dX11_moved_73 rfl (by rw [ev16]; rfl) (by decide) rfl ?_
            clear ev16
            obtain ⟨v17, ev17⟩ : ∃ y : Int32, y = a6 + 1 := ⟨_, rfl⟩
            replace hF := lb_use ev17 hF
            refine v_iinc (j := 4) (v := v17) (ls' := [(6, zi v17), (5, zi v16), (0, zr 11 0), (3, zr 8 a3), (4, zr 8 a4)]) dX11_moved_76 rfl (by rw [ev17]; rfl) (by decide) rfl ?_
            clear ev17
            refine v_goto (tgt := 31) dX11_moved_79 (by decide) ?_
            refine v_sub [2, 3, 4, 1, 0] rfl ?_
            exact ih a3 a4 v16 v17 h14 _ hF k
set_option maxRecDepth 20000 in
theorem tX11_moved {X : Cz} {a1 : Int32} {a2 : Int32} {h hE : Hp} {rE : Int32} (hF : fX11_moved a1 a2 h = some (rE, hE)) : Ct X mX11_moved true [zr 11 0, zi a1, zi a2] h (some (zi rE)) hE := by
  refine Ct_of (by decide) (Nat.le_of_ble_eq_true rfl) (ls := [(0, zr 11 0), (1, zi a1), (2, zi a2)]) rfl ?_
  unfold fX11_moved at hF
  refine v_aload_n (j := 0) dX11_moved_0 rfl ?_
  refine v_iload_n (j := 1) dX11_moved_1 rfl ?_
  replace hF := bd_use hF
  obtain ⟨r1, h2, er1, hF⟩ := hF
  refine v_cV (hm := h2) (av := [zi a1]) (st := []) (stn := [zq 8 r1]) (tX11_seatingOf er1) lcX11_seatingOf mlX11_361 imX11_seatingOf seX11_seatingOf rfl rfl rfl rfl ⟨by decide, by decide⟩ (Nat.le_of_ble_eq_true rfl) dX11_moved_2 rfl rfl ?_
  clear er1
  refine v_astore_n (ls' := [(3, zq 8 r1), (0, zr 11 0), (1, zi a1), (2, zi a2)]) dX11_moved_5 (by decide) rfl ?_
  refine v_aload_n (j := 1) dX11_moved_6 rfl ?_
  refine v_iload_n (j := 3) dX11_moved_7 rfl ?_
  replace hF := bd_use hF
  obtain ⟨r3, h4, er3, hF⟩ := hF
  refine v_cV (hm := h4) (av := [zi a2]) (st := []) (stn := [zq 8 r3]) (tX11_seatingOf er3) lcX11_seatingOf mlX11_361 imX11_seatingOf seX11_seatingOf rfl rfl rfl rfl ⟨by decide, by decide⟩ (Nat.le_of_ble_eq_true rfl) dX11_moved_8 rfl rfl ?_
  clear er3
  refine v_astore (ls' := [(4, zq 8 r3), (3, zq 8 r1), (0, zr 11 0), (1, zi a1), (2, zi a2)]) dX11_moved_11 (by decide) rfl ?_
  refine v_aload_n (j := 1) dX11_moved_13 rfl ?_
  cases r1 with
  | none =>
    replace hF := mtN hF
    refine v_ifnullN (tgt := 22) dX11_moved_14 (by decide) ?_
    refine v_bipush (v := (-2)) dX11_moved_22 (by decide) ?_
    obtain ⟨rfl, rfl⟩ := ret_use hF
    exact v_iret rfl dX11_moved_24
  | some z5 =>
    replace hF := mtS hF
    refine v_ifnullS (q := (8, z5)) (tgt := 22) dX11_moved_14 (by decide) ?_
    refine v_aload (j := 0) dX11_moved_17 rfl ?_
    cases r3 with
    | none =>
      replace hF := mtN hF
      refine v_ifnonnullN (tgt := 25) dX11_moved_19 (by decide) ?_
      refine v_bipush (v := (-2)) dX11_moved_22 (by decide) ?_
      obtain ⟨rfl, rfl⟩ := ret_use hF
      exact v_iret rfl dX11_moved_24
    | some z6 =>
      replace hF := mtS hF
      refine v_ifnonnullS (q := (8, z6)) (tgt := 25) dX11_moved_19 (by decide) ?_
      refine v_iconst (v := 0) dX11_moved_25 (by decide) ?_
      refine v_istore (ls' := [(5, zi 0), (4, zr 8 z6), (3, zr 8 z5), (0, zr 11 0), (1, zi a1), (2, zi a2)]) dX11_moved_26 (by decide) rfl ?_
      refine v_iconst (v := 0) dX11_moved_28 (by decide) ?_
      refine v_istore (ls' := [(6, zi 0), (5, zi 0), (4, zr 8 z6), (3, zr 8 z5), (0, zr 11 0), (1, zi a1), (2, zi a2)]) dX11_moved_29 (by decide) rfl ?_
      refine v_sub [4, 3, 2, 1, 0] rfl ?_
      replace hF := bd_use hF
      obtain ⟨t19, h18, et19, hF⟩ := hF
      refine tX11_moved_L31 _ z5 z6 0 0 h4 _ et19 ?_
      clear et19
      obtain ⟨v20, v21⟩ := t19
      replace hF := lb_use (x := v20) rfl hF
      replace hF := lb_use (x := v21) rfl hF
      refine v_iload (j := 3) dX11_moved_82 rfl ?_
      obtain ⟨rfl, rfl⟩ := ret_use hF
      exact v_iret rfl dX11_moved_84
theorem dX11_beside_0 : decode cX11_beside 0 = .ok (.iload_n 1, 1) := by decide +kernel
theorem dX11_beside_1 : decode cX11_beside 1 = .ok (.iconst 0, 1) := by decide +kernel
theorem dX11_beside_2 : decode cX11_beside 2 = .ok (.iconst 5, 1) := by decide +kernel
theorem dX11_beside_3 : decode cX11_beside 3 = .ok (.invokestatic 96, 3) := by decide +kernel
theorem dX11_beside_6 : decode cX11_beside 6 = .ok (.ifCond .ne 7, 3) := by decide +kernel
theorem dX11_beside_9 : decode cX11_beside 9 = .ok (.ldc2_w 293, 3) := by decide +kernel
theorem dX11_beside_12 : decode cX11_beside 12 = .ok (.lreturn, 1) := by decide +kernel
theorem dX11_beside_13 : decode cX11_beside 13 = .ok (.iload_n 1, 1) := by decide +kernel
theorem dX11_beside_14 : decode cX11_beside 14 = .ok (.iconst 3, 1) := by decide +kernel
theorem dX11_beside_15 : decode cX11_beside 15 = .ok (.if_icmp .ge 21, 3) := by decide +kernel
theorem dX11_beside_18 : decode cX11_beside 18 = .ok (.aload_n 0, 1) := by decide +kernel
theorem dX11_beside_19 : decode cX11_beside 19 = .ok (.getfield 26, 3) := by decide +kernel
theorem dX11_beside_22 : decode cX11_beside 22 = .ok (.aload_n 0, 1) := by decide +kernel
theorem dX11_beside_23 : decode cX11_beside 23 = .ok (.getfield 111, 3) := by decide +kernel
theorem dX11_beside_26 : decode cX11_beside 26 = .ok (.aload_n 0, 1) := by decide +kernel
theorem dX11_beside_27 : decode cX11_beside 27 = .ok (.getfield 80, 3) := by decide +kernel
theorem dX11_beside_30 : decode cX11_beside 30 = .ok (.invokevirtual 322, 3) := by decide +kernel
theorem dX11_beside_33 : decode cX11_beside 33 = .ok (.goto 11, 3) := by decide +kernel
theorem dX11_beside_36 : decode cX11_beside 36 = .ok (.aload_n 0, 1) := by decide +kernel
theorem dX11_beside_37 : decode cX11_beside 37 = .ok (.getfield 80, 3) := by decide +kernel
theorem dX11_beside_40 : decode cX11_beside 40 = .ok (.iconst (-1), 1) := by decide +kernel
theorem dX11_beside_41 : decode cX11_beside 41 = .ok (.invokestatic 381, 3) := by decide +kernel
theorem dX11_beside_44 : decode cX11_beside 44 = .ok (.aload_n 0, 1) := by decide +kernel
theorem dX11_beside_45 : decode cX11_beside 45 = .ok (.getfield 35, 3) := by decide +kernel
theorem dX11_beside_48 : decode cX11_beside 48 = .ok (.aload_n 0, 1) := by decide +kernel
theorem dX11_beside_49 : decode cX11_beside 49 = .ok (.getfield 76, 3) := by decide +kernel
theorem dX11_beside_52 : decode cX11_beside 52 = .ok (.aload_n 0, 1) := by decide +kernel
theorem dX11_beside_53 : decode cX11_beside 53 = .ok (.getfield 80, 3) := by decide +kernel
theorem dX11_beside_56 : decode cX11_beside 56 = .ok (.aload_n 0, 1) := by decide +kernel
theorem dX11_beside_57 : decode cX11_beside 57 = .ok (.getfield 88, 3) := by decide +kernel
theorem dX11_beside_60 : decode cX11_beside 60 = .ok (.invokevirtual 340, 3) := by decide +kernel
theorem dX11_beside_63 : decode cX11_beside 63 = .ok (.iload_n 1, 1) := by decide +kernel
theorem dX11_beside_64 : decode cX11_beside 64 = .ok (.iconst 3, 1) := by decide +kernel
theorem dX11_beside_65 : decode cX11_beside 65 = .ok (.irem, 1) := by decide +kernel
theorem dX11_beside_66 : decode cX11_beside 66 = .ok (.lookupswitch 47 #[(0, 26), (1, 38)], 26) := by decide +kernel
theorem dX11_beside_92 : decode cX11_beside 92 = .ok (.aload_n 0, 1) := by decide +kernel
theorem dX11_beside_93 : decode cX11_beside 93 = .ok (.getfield 19, 3) := by decide +kernel
theorem dX11_beside_96 : decode cX11_beside 96 = .ok (.aload_n 0, 1) := by decide +kernel
theorem dX11_beside_97 : decode cX11_beside 97 = .ok (.getfield 76, 3) := by decide +kernel
theorem dX11_beside_100 : decode cX11_beside 100 = .ok (.invokevirtual 387, 3) := by decide +kernel
theorem dX11_beside_103 : decode cX11_beside 103 = .ok (.lreturn, 1) := by decide +kernel
theorem dX11_beside_104 : decode cX11_beside 104 = .ok (.aload_n 0, 1) := by decide +kernel
theorem dX11_beside_105 : decode cX11_beside 105 = .ok (.getfield 76, 3) := by decide +kernel
theorem dX11_beside_108 : decode cX11_beside 108 = .ok (.getfield 358, 3) := by decide +kernel
theorem dX11_beside_111 : decode cX11_beside 111 = .ok (.i2l, 1) := by decide +kernel
theorem dX11_beside_112 : decode cX11_beside 112 = .ok (.lreturn, 1) := by decide +kernel
theorem dX11_beside_113 : decode cX11_beside 113 = .ok (.aload_n 0, 1) := by decide +kernel
theorem dX11_beside_114 : decode cX11_beside 114 = .ok (.getfield 76, 3) := by decide +kernel
theorem dX11_beside_117 : decode cX11_beside 117 = .ok (.invokevirtual 391, 3) := by decide +kernel
theorem dX11_beside_120 : decode cX11_beside 120 = .ok (.i2l, 1) := by decide +kernel
theorem dX11_beside_121 : decode cX11_beside 121 = .ok (.lreturn, 1) := by decide +kernel
def fX11_beside (a1 : Int32) (h : Hp) : Option (Int64 × Hp) := br ((fX11_isWithin a1 0 5 h) = 0) (some ((-2), h)) (lb (fun (h2 : Hp) => bd (fX10_seatAll 0 (gI h2 11 0 13) h2) (fun r3 h4 => lb (a1 - a1 / 3 * 3) (fun v5 => br (v5 = 0) (bd (fX4_worthOfAll h4) (fun r6 h7 => some (r6, h7))) (br (v5 = 1) (some ((gI h4 8 0 4).toInt64, h4)) (bd (fX8_unitsSatOn h4) (fun r8 h9 => some (r8.toInt64, h9))))))) (fun j1 => br (3 ≤ a1) (lb (flI h 53 0 0 256 (-1)) (fun h10 => j1 h10)) (bd (fX3_fillOwners (gI h 11 0 11) h) (fun r11 h12 => j1 h12))))
set_option maxRecDepth 20000 in
theorem tX11_beside {X : Cz} {a1 : Int32} {h hE : Hp} {rE : Int64} (hF : fX11_beside a1 h = some (rE, hE)) : Ct X mX11_beside true [zr 11 0, zi a1] h (some (zj rE)) hE := by
  refine Ct_of (by decide) (Nat.le_of_ble_eq_true rfl) (ls := [(0, zr 11 0), (1, zi a1)]) rfl ?_
  unfold fX11_beside at hF
  refine v_iload_n (j := 1) dX11_beside_0 rfl ?_
  refine v_iconst (v := 0) dX11_beside_1 (by decide) ?_
  refine v_iconst (v := 5) dX11_beside_2 (by decide) ?_
  refine v_cS (hm := h) (av := [zi a1, zi 0, zi 5]) (st := []) (stn := [zi (fX11_isWithin a1 0 5 h)]) (tX11_isWithin a1 0 5 h) lcX11_isWithin mlX11_96 sxX11_isWithin rfl ⟨by decide, by decide⟩ (Nat.le_of_ble_eq_true rfl) dX11_beside_3 rfl rfl ?_
  refine v_if_ne dX11_beside_6 (by decide : _ = ((13 : Nat) : Int)) (fun q => ?_) (fun q => ?_)
  · replace hF := brF q hF
    refine v_iload_n (j := 1) dX11_beside_13 rfl ?_
    refine v_iconst (v := 3) dX11_beside_14 (by decide) ?_
    replace hF := lb_ex hF
    obtain ⟨j1, ej1, hF⟩ := hF
    have j1V : ∀ (h2 : Hp), j1 h2 = some (rE, hE) → V X mX11_beside true h 44 [(0, zr 11 0), (1, zi a1)] [] h2 (some (zj rE)) hE := by
      intro h2 hF
      subst ej1
      refine v_aload_n (j := 0) dX11_beside_44 rfl ?_
      refine v_getL (c := 11) rfl rfl rfl ly11_3 cz11 flX11_35 dX11_beside_45 ?_
      refine v_aload_n (j := 0) dX11_beside_48 rfl ?_
      refine v_getL (c := 11) rfl rfl rfl ly11_9 cz11 flX11_76 dX11_beside_49 ?_
      refine v_aload_n (j := 0) dX11_beside_52 rfl ?_
      refine v_getL (c := 11) rfl rfl rfl ly11_10 cz11 flX11_80 dX11_beside_53 ?_
      refine v_aload_n (j := 0) dX11_beside_56 rfl ?_
      refine v_getI (c := 11) rfl (Or.inl rfl) cz11 flX11_88 dX11_beside_57 ?_
      replace hF := bd_use hF
      obtain ⟨r3, h4, er3, hF⟩ := hF
      refine v_cV (hm := h4) (av := [zr 8 0, zr 53 0, zi (gI h2 11 0 13)]) (st := []) (stn := []) (tX10_seatAll er3) lcX10_seatAll mlX11_340 imX10_seatAll seX10_seatAll rfl rfl rfl rfl ⟨by decide, by decide⟩ (Nat.le_of_ble_eq_true rfl) dX11_beside_60 rfl rfl ?_
      clear er3
      refine v_iload_n (j := 1) dX11_beside_63 rfl ?_
      refine v_iconst (v := 3) dX11_beside_64 (by decide) ?_
      refine v_irem dX11_beside_65 (by decide) ?_
      refine v_topi fun v5 ev5 => ?_
      replace hF := lb_use ev5 hF
      clear ev5
      by_cases q0 : v5 = 0
      · replace hF := brT q0 hF
        subst q0
        refine v_lookup (tgt := 92) dX11_beside_66 (by decide) rfl (by decide) ?_
        refine v_aload_n (j := 0) dX11_beside_92 rfl ?_
        refine v_getL (c := 11) rfl rfl rfl ly11_1 cz11 flX11_19 dX11_beside_93 ?_
        refine v_aload_n (j := 0) dX11_beside_96 rfl ?_
        refine v_getL (c := 11) rfl rfl rfl ly11_9 cz11 flX11_76 dX11_beside_97 ?_
        replace hF := bd_use hF
        obtain ⟨r6, h7, er6, hF⟩ := hF
        refine v_cV (hm := h7) (av := [zr 8 0]) (st := []) (stn := [zj r6]) (tX4_worthOfAll er6) lcX4_worthOfAll mlX11_387 imX4_worthOfAll seX4_worthOfAll rfl rfl rfl rfl ⟨by decide, by decide⟩ (Nat.le_of_ble_eq_true rfl) dX11_beside_100 rfl rfl ?_
        clear er6
        obtain ⟨rfl, rfl⟩ := ret_use hF
        exact v_lret rfl dX11_beside_103
      replace hF := brF q0 hF
      by_cases q1 : v5 = 1
      · replace hF := brT q1 hF
        subst q1
        refine v_lookup (tgt := 104) dX11_beside_66 (by decide) rfl (by decide) ?_
        refine v_aload_n (j := 0) dX11_beside_104 rfl ?_
        refine v_getL (c := 11) rfl rfl rfl ly11_9 cz11 flX11_76 dX11_beside_105 ?_
        refine v_getI (c := 8) rfl (Or.inl rfl) cz8 flX11_358 dX11_beside_108 ?_
        refine v_i2l dX11_beside_111 ?_
        obtain ⟨rfl, rfl⟩ := ret_use hF
        exact v_lret rfl dX11_beside_112
      replace hF := brF q1 hF
      refine v_lookup (off := 47) (tgt := 113) dX11_beside_66 (by decide) ((lv_osw (a := 0) (k := 0) q0 (by decide)).trans ((lv_osw (a := 1) (k := 1) q1 (by decide)).trans (rfl))) (by decide) ?_
      refine v_aload_n (j := 0) dX11_beside_113 rfl ?_
      refine v_getL (c := 11) rfl rfl rfl ly11_9 cz11 flX11_76 dX11_beside_114 ?_
      replace hF := bd_use hF
      obtain ⟨r8, h9, er8, hF⟩ := hF
      refine v_cV (hm := h9) (av := []) (st := []) (stn := [zi r8]) (tX8_unitsSatOn er8) lcX8_unitsSatOn mlX11_391 imX8_unitsSatOn seX8_unitsSatOn rfl rfl rfl rfl ⟨by decide, by decide⟩ (Nat.le_of_ble_eq_true rfl) dX11_beside_117 rfl rfl ?_
      clear er8
      refine v_i2l dX11_beside_120 ?_
      obtain ⟨rfl, rfl⟩ := ret_use hF
      exact v_lret rfl dX11_beside_121
    clear ej1
    refine v_icmp_ge dX11_beside_15 (by decide : _ = ((36 : Nat) : Int)) (fun q => ?_) (fun q => ?_)
    · replace hF := brT q hF
      refine v_aload_n (j := 0) dX11_beside_36 rfl ?_
      refine v_getL (c := 11) rfl rfl rfl ly11_10 cz11 flX11_80 dX11_beside_37 ?_
      refine v_iconst (v := (-1)) dX11_beside_40 (by decide) ?_
      refine v_cS (av := [zr 53 0, zi (-1)]) (st := []) (stn := []) (tJ7_fill_53178 (n := 0) (k := 53) rfl (by decide) (-1) h) lcJ7_fill_53178 mlX11_381 sxJ7_fill_53178 rfl ⟨by decide, by decide⟩ (Nat.le_of_ble_eq_true rfl) dX11_beside_41 rfl rfl ?_
      refine v_toph fun h10 eh10 => ?_
      replace hF := lb_use eh10 hF
      clear eh10
      exact j1V h10 hF
    · replace hF := brF q hF
      refine v_aload_n (j := 0) dX11_beside_18 rfl ?_
      refine v_getL (c := 11) rfl rfl rfl ly11_2 cz11 flX11_26 dX11_beside_19 ?_
      refine v_aload_n (j := 0) dX11_beside_22 rfl ?_
      refine v_getI (c := 11) rfl (Or.inl rfl) cz11 flX11_111 dX11_beside_23 ?_
      refine v_aload_n (j := 0) dX11_beside_26 rfl ?_
      refine v_getL (c := 11) rfl rfl rfl ly11_10 cz11 flX11_80 dX11_beside_27 ?_
      replace hF := bd_use hF
      obtain ⟨r11, h12, er11, hF⟩ := hF
      refine v_cV (hm := h12) (av := [zi (gI h 11 0 11), zr 53 0]) (st := []) (stn := []) (tX3_fillOwners er11) lcX3_fillOwners mlX11_322 imX3_fillOwners seX3_fillOwners rfl rfl rfl rfl ⟨by decide, by decide⟩ (Nat.le_of_ble_eq_true rfl) dX11_beside_30 rfl rfl ?_
      clear er11
      refine v_goto (tgt := 44) dX11_beside_33 (by decide) ?_
      exact j1V h12 hF
  · replace hF := brT (Decidable.not_not.mp q) hF
    refine v_ldc2 dX11_beside_9 kcX11_293 ?_
    obtain ⟨rfl, rfl⟩ := ret_use hF
    exact v_lret rfl dX11_beside_12
