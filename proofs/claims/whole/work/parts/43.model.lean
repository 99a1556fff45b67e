/-! functions and ties, printed by program (wip/gen/dec.py) -/
theorem dX12_sell_0 : decode cX12_sell 0 = .ok (.aload_n 0, 1) := by decide +kernel
theorem dX12_sell_1 : decode cX12_sell 1 = .ok (.iconst 0, 1) := by decide +kernel
theorem dX12_sell_2 : decode cX12_sell 2 = .ok (.putfield 208, 3) := by decide +kernel
theorem dX12_sell_5 : decode cX12_sell 5 = .ok (.iload_n 1, 1) := by decide +kernel
theorem dX12_sell_6 : decode cX12_sell 6 = .ok (.i2l, 1) := by decide +kernel
theorem dX12_sell_7 : decode cX12_sell 7 = .ok (.lconst 0, 1) := by decide +kernel
theorem dX12_sell_8 : decode cX12_sell 8 = .ok (.ldc2_w 319, 3) := by decide +kernel
theorem dX12_sell_11 : decode cX12_sell 11 = .ok (.invokestatic 213, 3) := by decide +kernel
theorem dX12_sell_14 : decode cX12_sell 14 = .ok (.ifCond .eq 16, 3) := by decide +kernel
theorem dX12_sell_17 : decode cX12_sell 17 = .ok (.iload_n 2, 1) := by decide +kernel
theorem dX12_sell_18 : decode cX12_sell 18 = .ok (.iconst (-1), 1) := by decide +kernel
theorem dX12_sell_19 : decode cX12_sell 19 = .ok (.if_icmp .eq 14, 3) := by decide +kernel
theorem dX12_sell_22 : decode cX12_sell 22 = .ok (.aload_n 0, 1) := by decide +kernel
theorem dX12_sell_23 : decode cX12_sell 23 = .ok (.iload_n 2, 1) := by decide +kernel
theorem dX12_sell_24 : decode cX12_sell 24 = .ok (.invokevirtual 304, 3) := by decide +kernel
theorem dX12_sell_27 : decode cX12_sell 27 = .ok (.ifCond .ne 6, 3) := by decide +kernel
theorem dX12_sell_30 : decode cX12_sell 30 = .ok (.bipush (-2), 2) := by decide +kernel
theorem dX12_sell_32 : decode cX12_sell 32 = .ok (.ireturn, 1) := by decide +kernel
theorem dX12_sell_33 : decode cX12_sell 33 = .ok (.aload_n 0, 1) := by decide +kernel
theorem dX12_sell_34 : decode cX12_sell 34 = .ok (.getfield 355, 3) := by decide +kernel
theorem dX12_sell_37 : decode cX12_sell 37 = .ok (.bipush 100, 2) := by decide +kernel
theorem dX12_sell_39 : decode cX12_sell 39 = .ok (.if_icmp .ne 6, 3) := by decide +kernel
theorem dX12_sell_42 : decode cX12_sell 42 = .ok (.bipush (-3), 2) := by decide +kernel
theorem dX12_sell_44 : decode cX12_sell 44 = .ok (.ireturn, 1) := by decide +kernel
theorem dX12_sell_45 : decode cX12_sell 45 = .ok (.aload_n 0, 1) := by decide +kernel
theorem dX12_sell_46 : decode cX12_sell 46 = .ok (.getfield 73, 3) := by decide +kernel
theorem dX12_sell_49 : decode cX12_sell 49 = .ok (.sipush 200, 3) := by decide +kernel
theorem dX12_sell_52 : decode cX12_sell 52 = .ok (.iload_n 1, 1) := by decide +kernel
theorem dX12_sell_53 : decode cX12_sell 53 = .ok (.imul, 1) := by decide +kernel
theorem dX12_sell_54 : decode cX12_sell 54 = .ok (.aload_n 0, 1) := by decide +kernel
theorem dX12_sell_55 : decode cX12_sell 55 = .ok (.getfield 251, 3) := by decide +kernel
theorem dX12_sell_58 : decode cX12_sell 58 = .ok (.iadd, 1) := by decide +kernel
theorem dX12_sell_59 : decode cX12_sell 59 = .ok (.iaload, 1) := by decide +kernel
theorem dX12_sell_60 : decode cX12_sell 60 = .ok (.istore_n 3, 1) := by decide +kernel
theorem dX12_sell_61 : decode cX12_sell 61 = .ok (.aload_n 0, 1) := by decide +kernel
theorem dX12_sell_62 : decode cX12_sell 62 = .ok (.iload_n 1, 1) := by decide +kernel
theorem dX12_sell_63 : decode cX12_sell 63 = .ok (.iload_n 2, 1) := by decide +kernel
theorem dX12_sell_64 : decode cX12_sell 64 = .ok (.invokevirtual 351, 3) := by decide +kernel
theorem dX12_sell_67 : decode cX12_sell 67 = .ok (.aload_n 0, 1) := by decide +kernel
theorem dX12_sell_68 : decode cX12_sell 68 = .ok (.dup, 1) := by decide +kernel
theorem dX12_sell_69 : decode cX12_sell 69 = .ok (.getfield 355, 3) := by decide +kernel
theorem dX12_sell_72 : decode cX12_sell 72 = .ok (.iconst 1, 1) := by decide +kernel
theorem dX12_sell_73 : decode cX12_sell 73 = .ok (.iadd, 1) := by decide +kernel
theorem dX12_sell_74 : decode cX12_sell 74 = .ok (.putfield 355, 3) := by decide +kernel
theorem dX12_sell_77 : decode cX12_sell 77 = .ok (.iload_n 3, 1) := by decide +kernel
theorem dX12_sell_78 : decode cX12_sell 78 = .ok (.ireturn, 1) := by decide +kernel
def fX12_sell (a1 : Int32) (a2 : Int32) (h : Hp) : Option (Int32 × Hp) := lb (sI h 12 0 0 0) (fun h1 => br ((fX12_in a1.toInt64 0 7 h1) = 0) (some ((-2), h1)) (lb (fun (h3 : Hp) => br ((gI h3 12 0 11) = 100) (some ((-3), h3)) (gd (ib (((200 : Int32) * a1) + (gI h3 12 0 5)) 1600) (lb (gI h3 69 0 (ix (((200 : Int32) * a1) + (gI h3 12 0 5)))) (fun v5 => bd (fX12_owns a1 a2 h3) (fun r6 h7 => lb (sI h7 12 0 11 ((gI h7 12 0 11) + 1)) (fun h8 => some (v5, h8))))))) (fun j2 => br (a2 = (-1)) (j2 h1) (bd (fX12_isThere a2 h1) (fun r9 h10 => br (r9 = 0) (some ((-2), h10)) (j2 h10))))))
set_option maxRecDepth 20000 in
theorem tX12_sell {X : Cz} {a1 : Int32} {a2 : Int32} {h hE : Hp} {rE : Int32} (hF : fX12_sell a1 a2 h = some (rE, hE)) : Ct X mX12_sell true [zr 12 0, zi a1, zi a2] h (some (zi rE)) hE := by
  refine Ct_of (by decide) (Nat.le_of_ble_eq_true rfl) (ls := [(0, zr 12 0), (1, zi a1), (2, zi a2)]) rfl ?_
  unfold fX12_sell at hF
  refine v_aload_n (j := 0) dX12_sell_0 rfl ?_
  refine v_iconst (v := 0) dX12_sell_1 (by decide) ?_
  refine v_putI (c := 12) rfl rfl (Nat.le_of_ble_eq_true rfl) cz12 flX12_208 dX12_sell_2 ?_
  refine v_toph fun h1 eh1 => ?_
  replace hF := lb_use eh1 hF
  clear eh1
  refine v_iload_n (j := 1) dX12_sell_5 rfl ?_
  refine v_i2l dX12_sell_6 ?_
  refine v_lconst (v := 0) dX12_sell_7 (by decide) ?_
  refine v_ldc2 dX12_sell_8 kcX12_319 ?_
  refine v_cS (hm := h1) (av := [zj a1.toInt64, zj 0, zj 7]) (st := []) (stn := [zi (fX12_in a1.toInt64 0 7 h1)]) (tX12_in a1.toInt64 0 7 h1) lcX12_in mlX12_213 sxX12_in rfl ⟨by decide, by decide⟩ (Nat.le_of_ble_eq_true rfl) dX12_sell_11 rfl rfl ?_
  refine v_if_eq dX12_sell_14 (by decide : _ = ((30 : Nat) : Int)) (fun q => ?_) (fun q => ?_)
  · replace hF := brT q hF
    refine v_bipush (v := (-2)) dX12_sell_30 (by decide) ?_
    obtain ⟨rfl, rfl⟩ := ret_use hF
    exact v_iret rfl dX12_sell_32
  · replace hF := brF q hF
    refine v_iload_n (j := 2) dX12_sell_17 rfl ?_
    refine v_iconst (v := (-1)) dX12_sell_18 (by decide) ?_
    replace hF := lb_ex hF
    obtain ⟨j2, ej2, hF⟩ := hF
    have j2V : ∀ (h3 : Hp), j2 h3 = some (rE, hE) → V X mX12_sell true h 33 [(0, zr 12 0), (1, zi a1), (2, zi a2)] [] h3 (some (zi rE)) hE := by
      intro h3 hF
      subst ej2
      refine v_aload_n (j := 0) dX12_sell_33 rfl ?_
      refine v_getI (c := 12) rfl (Or.inl rfl) cz12 flX12_355 dX12_sell_34 ?_
      refine v_bipush (v := 100) dX12_sell_37 (by decide) ?_
      refine v_icmp_ne dX12_sell_39 (by decide : _ = ((45 : Nat) : Int)) (fun q => ?_) (fun q => ?_)
      · replace hF := brF q hF
        refine v_aload_n (j := 0) dX12_sell_45 rfl ?_
        refine v_getL (c := 12) rfl rfl rfl ly12_29 cz12 flX12_73 dX12_sell_46 ?_
        refine v_sipush (v := 200) dX12_sell_49 (by decide) ?_
        refine v_iload_n (j := 1) dX12_sell_52 rfl ?_
        refine v_imul dX12_sell_53 ?_
        refine v_aload_n (j := 0) dX12_sell_54 rfl ?_
        refine v_getI (c := 12) rfl (Or.inl rfl) cz12 flX12_251 dX12_sell_55 ?_
        refine v_iadd dX12_sell_58 ?_
        replace hF := gd_use hF
        obtain ⟨q4, hF⟩ := hF
        refine v_iald rfl q4 dX12_sell_59 ?_
        refine v_topi fun v5 ev5 => ?_
        replace hF := lb_use ev5 hF
        clear ev5
        refine v_istore_n (ls' := [(3, zi v5), (0, zr 12 0), (1, zi a1), (2, zi a2)]) dX12_sell_60 (by decide) rfl ?_
        refine v_aload_n (j := 1) dX12_sell_61 rfl ?_
        refine v_iload_n (j := 2) dX12_sell_62 rfl ?_
        refine v_iload_n (j := 3) dX12_sell_63 rfl ?_
        replace hF := bd_use hF
        obtain ⟨r6, h7, er6, hF⟩ := hF
        refine v_cV (hm := h7) (av := [zi a1, zi a2]) (st := []) (stn := []) (tX12_owns er6) lcX12_owns mlX12_351 imX12_owns seX12_owns rfl rfl rfl rfl ⟨by decide, by decide⟩ (Nat.le_of_ble_eq_true rfl) dX12_sell_64 rfl rfl ?_
        clear er6
        refine v_aload_n (j := 1) dX12_sell_67 rfl ?_
        refine v_dup dX12_sell_68 rfl ?_
        refine v_getI (c := 12) rfl (Or.inl rfl) cz12 flX12_355 dX12_sell_69 ?_
        refine v_iconst (v := 1) dX12_sell_72 (by decide) ?_
        refine v_iadd dX12_sell_73 ?_
        refine v_putI (c := 12) rfl rfl (Nat.le_of_ble_eq_true rfl) cz12 flX12_355 dX12_sell_74 ?_
        refine v_toph fun h8 eh8 => ?_
        replace hF := lb_use eh8 hF
        clear eh8
        refine v_iload_n (j := 0) dX12_sell_77 rfl ?_
        obtain ⟨rfl, rfl⟩ := ret_use hF
        exact v_iret rfl dX12_sell_78
      · replace hF := brT (Decidable.not_not.mp q) hF
        refine v_bipush (v := (-3)) dX12_sell_42 (by decide) ?_
        obtain ⟨rfl, rfl⟩ := ret_use hF
        exact v_iret rfl dX12_sell_44
    clear ej2
    refine v_icmp_eq dX12_sell_19 (by decide : _ = ((33 : Nat) : Int)) (fun q => ?_) (fun q => ?_)
    · replace hF := brT q hF
      exact j2V h1 hF
    · replace hF := brF q hF
      refine v_aload_n (j := 0) dX12_sell_22 rfl ?_
      refine v_iload_n (j := 2) dX12_sell_23 rfl ?_
      replace hF := bd_use hF
      obtain ⟨r9, h10, er9, hF⟩ := hF
      refine v_cV (hm := h10) (av := [zi a2]) (st := []) (stn := [zi r9]) (tX12_isThere er9) lcX12_isThere mlX12_304 imX12_isThere seX12_isThere rfl rfl rfl rfl ⟨by decide, by decide⟩ (Nat.le_of_ble_eq_true rfl) dX12_sell_24 rfl rfl ?_
      clear er9
      refine v_if_ne dX12_sell_27 (by decide : _ = ((33 : Nat) : Int)) (fun q => ?_) (fun q => ?_)
      · replace hF := brF q hF
        exact j2V h10 hF
      · replace hF := brT (Decidable.not_not.mp q) hF
        refine v_bipush (v := (-2)) dX12_sell_30 (by decide) ?_
        obtain ⟨rfl, rfl⟩ := ret_use hF
        exact v_iret rfl dX12_sell_32
theorem dX12_plotOf_0 : decode cX12_plotOf 0 = .ok (.aload_n 0, 1) := by decide +kernel
theorem dX12_plotOf_1 : decode cX12_plotOf 1 = .ok (.iconst 0, 1) := by decide +kernel
theorem dX12_plotOf_2 : decode cX12_plotOf 2 = .ok (.putfield 208, 3) := by decide +kernel
theorem dX12_plotOf_5 : decode cX12_plotOf 5 = .ok (.iload_n 1, 1) := by decide +kernel
theorem dX12_plotOf_6 : decode cX12_plotOf 6 = .ok (.i2l, 1) := by decide +kernel
theorem dX12_plotOf_7 : decode cX12_plotOf 7 = .ok (.lconst 0, 1) := by decide +kernel
theorem dX12_plotOf_8 : decode cX12_plotOf 8 = .ok (.ldc2_w 319, 3) := by decide +kernel
theorem dX12_plotOf_11 : decode cX12_plotOf 11 = .ok (.invokestatic 213, 3) := by decide +kernel
theorem dX12_plotOf_14 : decode cX12_plotOf 14 = .ok (.ifCond .eq 30, 3) := by decide +kernel
theorem dX12_plotOf_17 : decode cX12_plotOf 17 = .ok (.iload_n 2, 1) := by decide +kernel
theorem dX12_plotOf_18 : decode cX12_plotOf 18 = .ok (.i2l, 1) := by decide +kernel
theorem dX12_plotOf_19 : decode cX12_plotOf 19 = .ok (.lconst 0, 1) := by decide +kernel
theorem dX12_plotOf_20 : decode cX12_plotOf 20 = .ok (.ldc2_w 321, 3) := by decide +kernel
theorem dX12_plotOf_23 : decode cX12_plotOf 23 = .ok (.invokestatic 213, 3) := by decide +kernel
theorem dX12_plotOf_26 : decode cX12_plotOf 26 = .ok (.ifCond .eq 18, 3) := by decide +kernel
theorem dX12_plotOf_29 : decode cX12_plotOf 29 = .ok (.aload_n 0, 1) := by decide +kernel
theorem dX12_plotOf_30 : decode cX12_plotOf 30 = .ok (.getfield 73, 3) := by decide +kernel
theorem dX12_plotOf_33 : decode cX12_plotOf 33 = .ok (.sipush 200, 3) := by decide +kernel
theorem dX12_plotOf_36 : decode cX12_plotOf 36 = .ok (.iload_n 1, 1) := by decide +kernel
theorem dX12_plotOf_37 : decode cX12_plotOf 37 = .ok (.imul, 1) := by decide +kernel
theorem dX12_plotOf_38 : decode cX12_plotOf 38 = .ok (.iload_n 2, 1) := by decide +kernel
theorem dX12_plotOf_39 : decode cX12_plotOf 39 = .ok (.iadd, 1) := by decide +kernel
theorem dX12_plotOf_40 : decode cX12_plotOf 40 = .ok (.iaload, 1) := by decide +kernel
theorem dX12_plotOf_41 : decode cX12_plotOf 41 = .ok (.goto 5, 3) := by decide +kernel
theorem dX12_plotOf_44 : decode cX12_plotOf 44 = .ok (.bipush (-2), 2) := by decide +kernel
theorem dX12_plotOf_46 : decode cX12_plotOf 46 = .ok (.ireturn, 1) := by decide +kernel
def fX12_plotOf (a1 : Int32) (a2 : Int32) (h : Hp) : Option (Int32 × Hp) := lb (sI h 12 0 0 0) (fun h1 => br ((fX12_in a1.toInt64 0 7 h1) = 0) (some ((-2), h1)) (br ((fX12_in a2.toInt64 0 199 h1) = 0) (some ((-2), h1)) (gd (ib (((200 : Int32) * a1) + a2) 1600) (some (gI h1 69 0 (ix (((200 : Int32) * a1) + a2)), h1)))))
set_option maxRecDepth 20000 in
theorem tX12_plotOf {X : Cz} {a1 : Int32} {a2 : Int32} {h hE : Hp} {rE : Int32} (hF : fX12_plotOf a1 a2 h = some (rE, hE)) : Ct X mX12_plotOf true [zr 12 0, zi a1, zi a2] h (some (zi rE)) hE := by
  refine Ct_of (by decide) (Nat.le_of_ble_eq_true rfl) (ls := [(0, zr 12 0), (1, zi a1), (2, zi a2)]) rfl ?_
  unfold fX12_plotOf at hF
  refine v_aload_n (j := 0) dX12_plotOf_0 rfl ?_
  refine v_iconst (v := 0) dX12_plotOf_1 (by decide) ?_
  refine v_putI (c := 12) rfl rfl (Nat.le_of_ble_eq_true rfl) cz12 flX12_208 dX12_plotOf_2 ?_
  refine v_toph fun h1 eh1 => ?_
  replace hF := lb_use eh1 hF
  clear eh1
  refine v_iload_n (j := 1) dX12_plotOf_5 rfl ?_
  refine v_i2l dX12_plotOf_6 ?_
  refine v_lconst (v := 0) dX12_plotOf_7 (by decide) ?_
  refine v_ldc2 dX12_plotOf_8 kcX12_319 ?_
  refine v_cS (hm := h1) (av := [zj a1.toInt64, zj 0, zj 7]) (st := []) (stn := [zi (fX12_in a1.toInt64 0 7 h1)]) (tX12_in a1.toInt64 0 7 h1) lcX12_in mlX12_213 sxX12_in rfl ⟨by decide, by decide⟩ (Nat.le_of_ble_eq_true rfl) dX12_plotOf_11 rfl rfl ?_
  refine v_if_eq dX12_plotOf_14 (by decide : _ = ((44 : Nat) : Int)) (fun q => ?_) (fun q => ?_)
  · replace hF := brT q hF
    refine v_bipush (v := (-2)) dX12_plotOf_44 (by decide) ?_
    obtain ⟨rfl, rfl⟩ := ret_use hF
    exact v_iret rfl dX12_plotOf_46
  · replace hF := brF q hF
    refine v_iload_n (j := 2) dX12_plotOf_17 rfl ?_
    refine v_i2l dX12_plotOf_18 ?_
    refine v_lconst (v := 0) dX12_plotOf_19 (by decide) ?_
    refine v_ldc2 dX12_plotOf_20 kcX12_321 ?_
    refine v_cS (hm := h1) (av := [zj a2.toInt64, zj 0, zj 199]) (st := []) (stn := [zi (fX12_in a2.toInt64 0 199 h1)]) (tX12_in a2.toInt64 0 199 h1) lcX12_in mlX12_213 sxX12_in rfl ⟨by decide, by decide⟩ (Nat.le_of_ble_eq_true rfl) dX12_plotOf_23 rfl rfl ?_
    refine v_if_eq dX12_plotOf_26 (by decide : _ = ((44 : Nat) : Int)) (fun q => ?_) (fun q => ?_)
    · replace hF := brT q hF
      refine v_bipush (v := (-2)) dX12_plotOf_44 (by decide) ?_
      obtain ⟨rfl, rfl⟩ := ret_use hF
      exact v_iret rfl dX12_plotOf_46
    · replace hF := brF q hF
      refine v_aload_n (j := 0) dX12_plotOf_29 rfl ?_
      refine v_getL (c := 12) rfl rfl rfl ly12_29 cz12 flX12_73 dX12_plotOf_30 ?_
      refine v_sipush (v := 200) dX12_plotOf_33 (by decide) ?_
      refine v_iload_n (j := 1) dX12_plotOf_36 rfl ?_
      refine v_imul dX12_plotOf_37 ?_
      refine v_iload_n (j := 2) dX12_plotOf_38 rfl ?_
      refine v_iadd dX12_plotOf_39 ?_
      replace hF := gd_use hF
      obtain ⟨q2, hF⟩ := hF
      refine v_iald rfl q2 dX12_plotOf_40 ?_
      refine v_goto (tgt := 46) dX12_plotOf_41 (by decide) ?_
      obtain ⟨rfl, rfl⟩ := ret_use hF
      exact v_iret rfl dX12_plotOf_46
theorem dX12_lot_0 : decode cX12_lot 0 = .ok (.aload_n 0, 1) := by decide +kernel
theorem dX12_lot_1 : decode cX12_lot 1 = .ok (.iconst 0, 1) := by decide +kernel
theorem dX12_lot_2 : decode cX12_lot 2 = .ok (.putfield 208, 3) := by decide +kernel
theorem dX12_lot_5 : decode cX12_lot 5 = .ok (.aload_n 0, 1) := by decide +kernel
theorem dX12_lot_6 : decode cX12_lot 6 = .ok (.iload_n 1, 1) := by decide +kernel
theorem dX12_lot_7 : decode cX12_lot 7 = .ok (.iload_n 2, 1) := by decide +kernel
theorem dX12_lot_8 : decode cX12_lot 8 = .ok (.iload_n 3, 1) := by decide +kernel
theorem dX12_lot_9 : decode cX12_lot 9 = .ok (.invokevirtual 307, 3) := by decide +kernel
theorem dX12_lot_12 : decode cX12_lot 12 = .ok (.ifCond .eq 16, 3) := by decide +kernel
theorem dX12_lot_15 : decode cX12_lot 15 = .ok (.iload 4, 2) := by decide +kernel
theorem dX12_lot_17 : decode cX12_lot 17 = .ok (.i2l, 1) := by decide +kernel
theorem dX12_lot_18 : decode cX12_lot 18 = .ok (.lconst 1, 1) := by decide +kernel
theorem dX12_lot_19 : decode cX12_lot 19 = .ok (.ldc2_w 235, 3) := by decide +kernel
theorem dX12_lot_22 : decode cX12_lot 22 = .ok (.invokestatic 213, 3) := by decide +kernel
theorem dX12_lot_25 : decode cX12_lot 25 = .ok (.ifCond .ne 6, 3) := by decide +kernel
theorem dX12_lot_28 : decode cX12_lot 28 = .ok (.bipush (-2), 2) := by decide +kernel
theorem dX12_lot_30 : decode cX12_lot 30 = .ok (.ireturn, 1) := by decide +kernel
theorem dX12_lot_31 : decode cX12_lot 31 = .ok (.aload_n 0, 1) := by decide +kernel
theorem dX12_lot_32 : decode cX12_lot 32 = .ok (.getfield 358, 3) := by decide +kernel
theorem dX12_lot_35 : decode cX12_lot 35 = .ok (.bipush 8, 2) := by decide +kernel
theorem dX12_lot_37 : decode cX12_lot 37 = .ok (.if_icmp .ne 6, 3) := by decide +kernel
theorem dX12_lot_40 : decode cX12_lot 40 = .ok (.bipush (-3), 2) := by decide +kernel
theorem dX12_lot_42 : decode cX12_lot 42 = .ok (.ireturn, 1) := by decide +kernel
theorem dX12_lot_43 : decode cX12_lot 43 = .ok (.aload_n 0, 1) := by decide +kernel
theorem dX12_lot_44 : decode cX12_lot 44 = .ok (.getfield 115, 3) := by decide +kernel
theorem dX12_lot_47 : decode cX12_lot 47 = .ok (.aload_n 0, 1) := by decide +kernel
theorem dX12_lot_48 : decode cX12_lot 48 = .ok (.getfield 358, 3) := by decide +kernel
theorem dX12_lot_51 : decode cX12_lot 51 = .ok (.iload_n 1, 1) := by decide +kernel
theorem dX12_lot_52 : decode cX12_lot 52 = .ok (.iastore, 1) := by decide +kernel
theorem dX12_lot_53 : decode cX12_lot 53 = .ok (.aload_n 0, 1) := by decide +kernel
theorem dX12_lot_54 : decode cX12_lot 54 = .ok (.getfield 118, 3) := by decide +kernel
theorem dX12_lot_57 : decode cX12_lot 57 = .ok (.aload_n 0, 1) := by decide +kernel
theorem dX12_lot_58 : decode cX12_lot 58 = .ok (.getfield 358, 3) := by decide +kernel
theorem dX12_lot_61 : decode cX12_lot 61 = .ok (.iload_n 2, 1) := by decide +kernel
theorem dX12_lot_62 : decode cX12_lot 62 = .ok (.iastore, 1) := by decide +kernel
theorem dX12_lot_63 : decode cX12_lot 63 = .ok (.aload_n 0, 1) := by decide +kernel
theorem dX12_lot_64 : decode cX12_lot 64 = .ok (.getfield 121, 3) := by decide +kernel
theorem dX12_lot_67 : decode cX12_lot 67 = .ok (.aload_n 0, 1) := by decide +kernel
theorem dX12_lot_68 : decode cX12_lot 68 = .ok (.getfield 358, 3) := by decide +kernel
theorem dX12_lot_71 : decode cX12_lot 71 = .ok (.iload_n 3, 1) := by decide +kernel
theorem dX12_lot_72 : decode cX12_lot 72 = .ok (.iastore, 1) := by decide +kernel
theorem dX12_lot_73 : decode cX12_lot 73 = .ok (.aload_n 0, 1) := by decide +kernel
theorem dX12_lot_74 : decode cX12_lot 74 = .ok (.getfield 124, 3) := by decide +kernel
theorem dX12_lot_77 : decode cX12_lot 77 = .ok (.aload_n 0, 1) := by decide +kernel
theorem dX12_lot_78 : decode cX12_lot 78 = .ok (.getfield 358, 3) := by decide +kernel
theorem dX12_lot_81 : decode cX12_lot 81 = .ok (.iload 4, 2) := by decide +kernel
theorem dX12_lot_83 : decode cX12_lot 83 = .ok (.iastore, 1) := by decide +kernel
theorem dX12_lot_84 : decode cX12_lot 84 = .ok (.iconst 0, 1) := by decide +kernel
theorem dX12_lot_85 : decode cX12_lot 85 = .ok (.istore 5, 2) := by decide +kernel
theorem dX12_lot_87 : decode cX12_lot 87 = .ok (.iload 5, 2) := by decide +kernel
theorem dX12_lot_89 : decode cX12_lot 89 = .ok (.bipush 12, 2) := by decide +kernel
theorem dX12_lot_91 : decode cX12_lot 91 = .ok (.if_icmp .ge 25, 3) := by decide +kernel
theorem dX12_lot_94 : decode cX12_lot 94 = .ok (.aload_n 0, 1) := by decide +kernel
theorem dX12_lot_95 : decode cX12_lot 95 = .ok (.getfield 127, 3) := by decide +kernel
theorem dX12_lot_98 : decode cX12_lot 98 = .ok (.bipush 12, 2) := by decide +kernel
theorem dX12_lot_100 : decode cX12_lot 100 = .ok (.aload_n 0, 1) := by decide +kernel
theorem dX12_lot_101 : decode cX12_lot 101 = .ok (.getfield 358, 3) := by decide +kernel
theorem dX12_lot_104 : decode cX12_lot 104 = .ok (.imul, 1) := by decide +kernel
theorem dX12_lot_105 : decode cX12_lot 105 = .ok (.iload 5, 2) := by decide +kernel
theorem dX12_lot_107 : decode cX12_lot 107 = .ok (.iadd, 1) := by decide +kernel
theorem dX12_lot_108 : decode cX12_lot 108 = .ok (.iconst 0, 1) := by decide +kernel
theorem dX12_lot_109 : decode cX12_lot 109 = .ok (.iastore, 1) := by decide +kernel
theorem dX12_lot_110 : decode cX12_lot 110 = .ok (.iinc 5 1, 3) := by decide +kernel
theorem dX12_lot_113 : decode cX12_lot 113 = .ok (.goto (-26), 3) := by decide +kernel
theorem dX12_lot_116 : decode cX12_lot 116 = .ok (.aload_n 0, 1) := by decide +kernel
theorem dX12_lot_117 : decode cX12_lot 117 = .ok (.dup, 1) := by decide +kernel
theorem dX12_lot_118 : decode cX12_lot 118 = .ok (.getfield 358, 3) := by decide +kernel
theorem dX12_lot_121 : decode cX12_lot 121 = .ok (.iconst 1, 1) := by decide +kernel
theorem dX12_lot_122 : decode cX12_lot 122 = .ok (.iadd, 1) := by decide +kernel
theorem dX12_lot_123 : decode cX12_lot 123 = .ok (.putfield 358, 3) := by decide +kernel
theorem dX12_lot_126 : decode cX12_lot 126 = .ok (.aload_n 0, 1) := by decide +kernel
theorem dX12_lot_127 : decode cX12_lot 127 = .ok (.getfield 358, 3) := by decide +kernel
theorem dX12_lot_130 : decode cX12_lot 130 = .ok (.iconst 1, 1) := by decide +kernel
theorem dX12_lot_131 : decode cX12_lot 131 = .ok (.isub, 1) := by decide +kernel
theorem dX12_lot_132 : decode cX12_lot 132 = .ok (.ireturn, 1) := by decide +kernel
def fX12_lot_L87 : Nat → Int32 → Hp → Option ((Int32) × Hp)
  | 0, _, _ => none
  | n + 1, a5, h => br (12 ≤ a5) (some ((a5), h)) (gd (ib (((12 : Int32) * (gI h 12 0 10)) + a5) 96) (lb (sI h 87 0 (ix (((12 : Int32) * (gI h 12 0 10)) + a5)) 0) (fun h13 => lb (a5 + 1) (fun v14 => fX12_lot_L87 n v14 h13))))
def fX12_lot (a1 : Int32) (a2 : Int32) (a3 : Int32) (a4 : Int32) (h : Hp) : Option (Int32 × Hp) := lb (sI h 12 0 0 0) (fun h1 => bd (fX12_isRun a1 a2 a3 h1) (fun r2 h3 => br (r2 = 0) (some ((-2), h3)) (br ((fX12_in a4.toInt64 1 30 h3) = 0) (some ((-2), h3)) (br ((gI h3 12 0 10) = 8) (some ((-3), h3)) (gd (ib (gI h3 12 0 10) 8) (lb (sI h3 83 0 (ix (gI h3 12 0 10)) a1) (fun h5 => gd (ib (gI h5 12 0 10) 8) (lb (sI h5 84 0 (ix (gI h5 12 0 10)) a2) (fun h7 => gd (ib (gI h7 12 0 10) 8) (lb (sI h7 85 0 (ix (gI h7 12 0 10)) a3) (fun h9 => gd (ib (gI h9 12 0 10) 8) (lb (sI h9 86 0 (ix (gI h9 12 0 10)) a4) (fun h11 => bd (fX12_lot_L87 FU 0 h11) (fun v17 h15 => lb (sI h15 12 0 10 ((gI h15 12 0 10) + 1)) (fun h18 => some ((gI h18 12 0 10) - 1, h18))))))))))))))))
set_option maxRecDepth 20000 in
theorem tX12_lot_L87 {X : Cz} {h0 : Hp} {r : Option AV} {hE : Hp} : ∀ (n : Nat) (a5 : Int32) (h : Hp) (z : (Int32) × Hp), fX12_lot_L87 n a5 h = some z → V X mX12_lot true h0 116 [(0, zr 12 0), (5, zi z.1)] [] z.2 r hE → V X mX12_lot true h0 87 [(0, zr 12 0), (5, zi a5)] [] h r hE := by
  intro n
  induction n with
  | zero => intro a5 h z hF k; cases hF
  | succ n ih =>
    intro a5 h z hF k
    rw [fX12_lot_L87] at hF
    refine v_iload (j := 1) dX12_lot_87 rfl ?_
    refine v_bipush (v := 12) dX12_lot_89 (by decide) ?_
    refine v_icmp_ge dX12_lot_91 (by decide : _ = ((116 : Nat) : Int)) (fun q => ?_) (fun q => ?_)
    · replace hF := brT q hF
      cases hF
      exact k
    · replace hF := brF q hF
      refine v_aload_n (j := 0) dX12_lot_94 rfl ?_
      refine v_getL (c := 12) rfl rfl rfl ly12_47 cz12 flX12_127 dX12_lot_95 ?_
      refine v_bipush (v := 12) dX12_lot_98 (by decide) ?_
      refine v_aload_n (j := 0) dX12_lot_100 rfl ?_
      refine v_getI (c := 12) rfl (Or.inl rfl) cz12 flX12_358 dX12_lot_101 ?_
      refine v_imul dX12_lot_104 ?_
      refine v_iload (j := 1) dX12_lot_105 rfl ?_
      refine v_iadd dX12_lot_107 ?_
      refine v_iconst (v := 0) dX12_lot_108 (by decide) ?_
      replace hF := gd_use hF
      obtain ⟨q12, hF⟩ := hF
      refine v_iast rfl q12 dX12_lot_109 ?_
      refine v_toph fun h13 eh13 => ?_
      replace hF := lb_use eh13 hF
      clear eh13
      obtain ⟨v14, ev14⟩ : ∃ y : Int32, y = a5 + 1 := ⟨_, rfl⟩
      replace hF := lb_use ev14 hF
      refine v_iinc (j := 1) (v := v14) (ls' := [(5, zi v14), (0, zr 12 0)]) dX12_lot_110 rfl (by rw [ev14]; rfl) (by decide) rfl ?_
      clear ev14
      refine v_goto (tgt := 87) dX12_lot_113 (by decide) ?_
      refine v_sub [1, 0] rfl ?_
      exact ih v14 h13 _ hF k
set_option maxRecDepth 20000 in
theorem tX12_lot {X : Cz} {a1 : Int32} {a2 : Int32} {a3 : Int32} {a4 : Int32} {h hE : Hp} {rE : Int32} (hF : fX12_lot a1 a2 a3 a4 h = some (rE, hE)) : Ct X mX12_lot true [zr 12 0, zi a1, zi a2, zi a3, zi a4] h (some (zi rE)) hE := by
  refine Ct_of (by decide) (Nat.le_of_ble_eq_true rfl) (ls := [(0, zr 12 0), (1, zi a1), (2, zi a2), (3, zi a3), (4, zi a4)]) rfl ?_
  unfold fX12_lot at hF
  refine v_aload_n (j := 0) dX12_lot_0 rfl ?_
  refine v_iconst (v := 0) dX12_lot_1 (by decide) ?_
  refine v_putI (c := 12) rfl rfl (Nat.le_of_ble_eq_true rfl) cz12 flX12_208 dX12_lot_2 ?_
  refine v_toph fun h1 eh1 => ?_
  replace hF := lb_use eh1 hF
  clear eh1
  refine v_aload_n (j := 0) dX12_lot_5 rfl ?_
  refine v_iload_n (j := 1) dX12_lot_6 rfl ?_
  refine v_iload_n (j := 2) dX12_lot_7 rfl ?_
  refine v_iload_n (j := 3) dX12_lot_8 rfl ?_
  replace hF := bd_use hF
  obtain ⟨r2, h3, er2, hF⟩ := hF
  refine v_cV (hm := h3) (av := [zi a1, zi a2, zi a3]) (st := []) (stn := [zi r2]) (tX12_isRun er2) lcX12_isRun mlX12_307 imX12_isRun seX12_isRun rfl rfl rfl rfl ⟨by decide, by decide⟩ (Nat.le_of_ble_eq_true rfl) dX12_lot_9 rfl rfl ?_
  clear er2
  refine v_if_eq dX12_lot_12 (by decide : _ = ((28 : Nat) : Int)) (fun q => ?_) (fun q => ?_)
  · replace hF := brT q hF
    refine v_bipush (v := (-2)) dX12_lot_28 (by decide) ?_
    obtain ⟨rfl, rfl⟩ := ret_use hF
    exact v_iret rfl dX12_lot_30
  · replace hF := brF q hF
    refine v_iload (j := 4) dX12_lot_15 rfl ?_
    refine v_i2l dX12_lot_17 ?_
    refine v_lconst (v := 1) dX12_lot_18 (by decide) ?_
    refine v_ldc2 dX12_lot_19 kcX12_235 ?_
    refine v_cS (hm := h3) (av := [zj a4.toInt64, zj 1, zj 30]) (st := []) (stn := [zi (fX12_in a4.toInt64 1 30 h3)]) (tX12_in a4.toInt64 1 30 h3) lcX12_in mlX12_213 sxX12_in rfl ⟨by decide, by decide⟩ (Nat.le_of_ble_eq_true rfl) dX12_lot_22 rfl rfl ?_
    refine v_if_ne dX12_lot_25 (by decide : _ = ((31 : Nat) : Int)) (fun q => ?_) (fun q => ?_)
    · replace hF := brF q hF
      refine v_aload_n (j := 0) dX12_lot_31 rfl ?_
      refine v_getI (c := 12) rfl (Or.inl rfl) cz12 flX12_358 dX12_lot_32 ?_
      refine v_bipush (v := 8) dX12_lot_35 (by decide) ?_
      refine v_icmp_ne dX12_lot_37 (by decide : _ = ((43 : Nat) : Int)) (fun q => ?_) (fun q => ?_)
      · replace hF := brF q hF
        refine v_aload_n (j := 0) dX12_lot_43 rfl ?_
        refine v_getL (c := 12) rfl rfl rfl ly12_43 cz12 flX12_115 dX12_lot_44 ?_
        refine v_aload_n (j := 0) dX12_lot_47 rfl ?_
        refine v_getI (c := 12) rfl (Or.inl rfl) cz12 flX12_358 dX12_lot_48 ?_
        refine v_iload_n (j := 1) dX12_lot_51 rfl ?_
        replace hF := gd_use hF
        obtain ⟨q4, hF⟩ := hF
        refine v_iast rfl q4 dX12_lot_52 ?_
        refine v_toph fun h5 eh5 => ?_
        replace hF := lb_use eh5 hF
        clear eh5
        refine v_aload_n (j := 0) dX12_lot_53 rfl ?_
        refine v_getL (c := 12) rfl rfl rfl ly12_44 cz12 flX12_118 dX12_lot_54 ?_
        refine v_aload_n (j := 0) dX12_lot_57 rfl ?_
        refine v_getI (c := 12) rfl (Or.inl rfl) cz12 flX12_358 dX12_lot_58 ?_
        refine v_iload_n (j := 2) dX12_lot_61 rfl ?_
        replace hF := gd_use hF
        obtain ⟨q6, hF⟩ := hF
        refine v_iast rfl q6 dX12_lot_62 ?_
        refine v_toph fun h7 eh7 => ?_
        replace hF := lb_use eh7 hF
        clear eh7
        refine v_aload_n (j := 0) dX12_lot_63 rfl ?_
        refine v_getL (c := 12) rfl rfl rfl ly12_45 cz12 flX12_121 dX12_lot_64 ?_
        refine v_aload_n (j := 0) dX12_lot_67 rfl ?_
        refine v_getI (c := 12) rfl (Or.inl rfl) cz12 flX12_358 dX12_lot_68 ?_
        refine v_iload_n (j := 3) dX12_lot_71 rfl ?_
        replace hF := gd_use hF
        obtain ⟨q8, hF⟩ := hF
        refine v_iast rfl q8 dX12_lot_72 ?_
        refine v_toph fun h9 eh9 => ?_
        replace hF := lb_use eh9 hF
        clear eh9
        refine v_aload_n (j := 0) dX12_lot_73 rfl ?_
        refine v_getL (c := 12) rfl rfl rfl ly12_46 cz12 flX12_124 dX12_lot_74 ?_
        refine v_aload_n (j := 0) dX12_lot_77 rfl ?_
        refine v_getI (c := 12) rfl (Or.inl rfl) cz12 flX12_358 dX12_lot_78 ?_
        refine v_iload (j := 4) dX12_lot_81 rfl ?_
        replace hF := gd_use hF
        obtain ⟨q10, hF⟩ := hF
        refine v_iast rfl q10 dX12_lot_83 ?_
        refine v_toph fun h11 eh11 => ?_
        replace hF := lb_use eh11 hF
        clear eh11
        refine v_iconst (v := 0) dX12_lot_84 (by decide) ?_
        refine v_istore (ls' := [(5, zi 0), (0, zr 12 0), (1, zi a1), (2, zi a2), (3, zi a3), (4, zi a4)]) dX12_lot_85 (by decide) rfl ?_
        refine v_sub [1, 0] rfl ?_
        replace hF := bd_use hF
        obtain ⟨v17, h15, ev17, hF⟩ := hF
        refine tX12_lot_L87 _ 0 h11 _ ev17 ?_
        clear ev17
        refine v_aload_n (j := 0) dX12_lot_116 rfl ?_
        refine v_dup dX12_lot_117 rfl ?_
        refine v_getI (c := 12) rfl (Or.inl rfl) cz12 flX12_358 dX12_lot_118 ?_
        refine v_iconst (v := 1) dX12_lot_121 (by decide) ?_
        refine v_iadd dX12_lot_122 ?_
        refine v_putI (c := 12) rfl rfl (Nat.le_of_ble_eq_true rfl) cz12 flX12_358 dX12_lot_123 ?_
        refine v_toph fun h18 eh18 => ?_
        replace hF := lb_use eh18 hF
        clear eh18
        refine v_aload_n (j := 0) dX12_lot_126 rfl ?_
        refine v_getI (c := 12) rfl (Or.inl rfl) cz12 flX12_358 dX12_lot_127 ?_
        refine v_iconst (v := 1) dX12_lot_130 (by decide) ?_
        refine v_isub dX12_lot_131 ?_
        obtain ⟨rfl, rfl⟩ := ret_use hF
        exact v_iret rfl dX12_lot_132
      · replace hF := brT (Decidable.not_not.mp q) hF
        refine v_bipush (v := (-3)) dX12_lot_40 (by decide) ?_
        obtain ⟨rfl, rfl⟩ := ret_use hF
        exact v_iret rfl dX12_lot_42
    · replace hF := brT (Decidable.not_not.mp q) hF
      refine v_bipush (v := (-2)) dX12_lot_28 (by decide) ?_
      obtain ⟨rfl, rfl⟩ := ret_use hF
      exact v_iret rfl dX12_lot_30
theorem dX12_offers_0 : decode cX12_offers 0 = .ok (.aload_n 0, 1) := by decide +kernel
theorem dX12_offers_1 : decode cX12_offers 1 = .ok (.iconst 0, 1) := by decide +kernel
theorem dX12_offers_2 : decode cX12_offers 2 = .ok (.putfield 208, 3) := by decide +kernel
theorem dX12_offers_5 : decode cX12_offers 5 = .ok (.iload_n 1, 1) := by decide +kernel
theorem dX12_offers_6 : decode cX12_offers 6 = .ok (.i2l, 1) := by decide +kernel
theorem dX12_offers_7 : decode cX12_offers 7 = .ok (.lconst 0, 1) := by decide +kernel
theorem dX12_offers_8 : decode cX12_offers 8 = .ok (.aload_n 0, 1) := by decide +kernel
theorem dX12_offers_9 : decode cX12_offers 9 = .ok (.getfield 358, 3) := by decide +kernel
theorem dX12_offers_12 : decode cX12_offers 12 = .ok (.iconst 1, 1) := by decide +kernel
theorem dX12_offers_13 : decode cX12_offers 13 = .ok (.isub, 1) := by decide +kernel
theorem dX12_offers_14 : decode cX12_offers 14 = .ok (.i2l, 1) := by decide +kernel
theorem dX12_offers_15 : decode cX12_offers 15 = .ok (.invokestatic 213, 3) := by decide +kernel
theorem dX12_offers_18 : decode cX12_offers 18 = .ok (.ifCond .eq 10, 3) := by decide +kernel
theorem dX12_offers_21 : decode cX12_offers 21 = .ok (.iload_n 2, 1) := by decide +kernel
theorem dX12_offers_22 : decode cX12_offers 22 = .ok (.invokestatic 217, 3) := by decide +kernel
theorem dX12_offers_25 : decode cX12_offers 25 = .ok (.ifCond .ne 6, 3) := by decide +kernel
theorem dX12_offers_28 : decode cX12_offers 28 = .ok (.bipush (-2), 2) := by decide +kernel
theorem dX12_offers_30 : decode cX12_offers 30 = .ok (.ireturn, 1) := by decide +kernel
theorem dX12_offers_31 : decode cX12_offers 31 = .ok (.aload_n 0, 1) := by decide +kernel
theorem dX12_offers_32 : decode cX12_offers 32 = .ok (.getfield 9, 3) := by decide +kernel
theorem dX12_offers_35 : decode cX12_offers 35 = .ok (.iload_n 2, 1) := by decide +kernel
theorem dX12_offers_36 : decode cX12_offers 36 = .ok (.iaload, 1) := by decide +kernel
theorem dX12_offers_37 : decode cX12_offers 37 = .ok (.ifCond .ge 6, 3) := by decide +kernel
theorem dX12_offers_40 : decode cX12_offers 40 = .ok (.bipush (-5), 2) := by decide +kernel
theorem dX12_offers_42 : decode cX12_offers 42 = .ok (.ireturn, 1) := by decide +kernel
theorem dX12_offers_43 : decode cX12_offers 43 = .ok (.iconst 0, 1) := by decide +kernel
theorem dX12_offers_44 : decode cX12_offers 44 = .ok (.istore_n 3, 1) := by decide +kernel
theorem dX12_offers_45 : decode cX12_offers 45 = .ok (.iload_n 3, 1) := by decide +kernel
theorem dX12_offers_46 : decode cX12_offers 46 = .ok (.aload_n 0, 1) := by decide +kernel
theorem dX12_offers_47 : decode cX12_offers 47 = .ok (.getfield 13, 3) := by decide +kernel
theorem dX12_offers_50 : decode cX12_offers 50 = .ok (.iload_n 2, 1) := by decide +kernel
theorem dX12_offers_51 : decode cX12_offers 51 = .ok (.iaload, 1) := by decide +kernel
theorem dX12_offers_52 : decode cX12_offers 52 = .ok (.if_icmp .ge 33, 3) := by decide +kernel
theorem dX12_offers_55 : decode cX12_offers 55 = .ok (.aload_n 0, 1) := by decide +kernel
theorem dX12_offers_56 : decode cX12_offers 56 = .ok (.getfield 16, 3) := by decide +kernel
theorem dX12_offers_59 : decode cX12_offers 59 = .ok (.bipush 60, 2) := by decide +kernel
theorem dX12_offers_61 : decode cX12_offers 61 = .ok (.iload_n 2, 1) := by decide +kernel
theorem dX12_offers_62 : decode cX12_offers 62 = .ok (.imul, 1) := by decide +kernel
theorem dX12_offers_63 : decode cX12_offers 63 = .ok (.iload_n 3, 1) := by decide +kernel
theorem dX12_offers_64 : decode cX12_offers 64 = .ok (.iadd, 1) := by decide +kernel
theorem dX12_offers_65 : decode cX12_offers 65 = .ok (.laload, 1) := by decide +kernel
theorem dX12_offers_66 : decode cX12_offers 66 = .ok (.lconst 0, 1) := by decide +kernel
theorem dX12_offers_67 : decode cX12_offers 67 = .ok (.ldc2_w 361, 3) := by decide +kernel
theorem dX12_offers_70 : decode cX12_offers 70 = .ok (.invokestatic 213, 3) := by decide +kernel
theorem dX12_offers_73 : decode cX12_offers 73 = .ok (.ifCond .ne 6, 3) := by decide +kernel
theorem dX12_offers_76 : decode cX12_offers 76 = .ok (.bipush (-4), 2) := by decide +kernel
theorem dX12_offers_78 : decode cX12_offers 78 = .ok (.ireturn, 1) := by decide +kernel
theorem dX12_offers_79 : decode cX12_offers 79 = .ok (.iinc 3 1, 3) := by decide +kernel
theorem dX12_offers_82 : decode cX12_offers 82 = .ok (.goto (-37), 3) := by decide +kernel
theorem dX12_offers_85 : decode cX12_offers 85 = .ok (.iconst 0, 1) := by decide +kernel
theorem dX12_offers_86 : decode cX12_offers 86 = .ok (.istore_n 3, 1) := by decide +kernel
theorem dX12_offers_87 : decode cX12_offers 87 = .ok (.iconst 0, 1) := by decide +kernel
theorem dX12_offers_88 : decode cX12_offers 88 = .ok (.istore 4, 2) := by decide +kernel
theorem dX12_offers_90 : decode cX12_offers 90 = .ok (.iload 4, 2) := by decide +kernel
theorem dX12_offers_92 : decode cX12_offers 92 = .ok (.bipush 12, 2) := by decide +kernel
theorem dX12_offers_94 : decode cX12_offers 94 = .ok (.if_icmp .ge 85, 3) := by decide +kernel
theorem dX12_offers_97 : decode cX12_offers 97 = .ok (.iload 4, 2) := by decide +kernel
theorem dX12_offers_99 : decode cX12_offers 99 = .ok (.aload_n 0, 1) := by decide +kernel
theorem dX12_offers_100 : decode cX12_offers 100 = .ok (.getfield 295, 3) := by decide +kernel
theorem dX12_offers_103 : decode cX12_offers 103 = .ok (.if_icmp .ge 40, 3) := by decide +kernel
theorem dX12_offers_106 : decode cX12_offers 106 = .ok (.iload 4, 2) := by decide +kernel
theorem dX12_offers_108 : decode cX12_offers 108 = .ok (.aload_n 0, 1) := by decide +kernel
theorem dX12_offers_109 : decode cX12_offers 109 = .ok (.getfield 13, 3) := by decide +kernel
theorem dX12_offers_112 : decode cX12_offers 112 = .ok (.iload_n 2, 1) := by decide +kernel
theorem dX12_offers_113 : decode cX12_offers 113 = .ok (.iaload, 1) := by decide +kernel
theorem dX12_offers_114 : decode cX12_offers 114 = .ok (.if_icmp .ge 29, 3) := by decide +kernel
theorem dX12_offers_117 : decode cX12_offers 117 = .ok (.aload_n 0, 1) := by decide +kernel
theorem dX12_offers_118 : decode cX12_offers 118 = .ok (.getfield 70, 3) := by decide +kernel
theorem dX12_offers_121 : decode cX12_offers 121 = .ok (.iload 4, 2) := by decide +kernel
theorem dX12_offers_123 : decode cX12_offers 123 = .ok (.baload, 1) := by decide +kernel
theorem dX12_offers_124 : decode cX12_offers 124 = .ok (.ifCond .ne 19, 3) := by decide +kernel
theorem dX12_offers_127 : decode cX12_offers 127 = .ok (.aload_n 0, 1) := by decide +kernel
theorem dX12_offers_128 : decode cX12_offers 128 = .ok (.getfield 16, 3) := by decide +kernel
theorem dX12_offers_131 : decode cX12_offers 131 = .ok (.bipush 60, 2) := by decide +kernel
theorem dX12_offers_133 : decode cX12_offers 133 = .ok (.iload_n 2, 1) := by decide +kernel
theorem dX12_offers_134 : decode cX12_offers 134 = .ok (.imul, 1) := by decide +kernel
theorem dX12_offers_135 : decode cX12_offers 135 = .ok (.iload 4, 2) := by decide +kernel
theorem dX12_offers_137 : decode cX12_offers 137 = .ok (.iadd, 1) := by decide +kernel
theorem dX12_offers_138 : decode cX12_offers 138 = .ok (.laload, 1) := by decide +kernel
theorem dX12_offers_139 : decode cX12_offers 139 = .ok (.l2i, 1) := by decide +kernel
theorem dX12_offers_140 : decode cX12_offers 140 = .ok (.goto 4, 3) := by decide +kernel
theorem dX12_offers_143 : decode cX12_offers 143 = .ok (.iconst 0, 1) := by decide +kernel
theorem dX12_offers_144 : decode cX12_offers 144 = .ok (.istore 5, 2) := by decide +kernel
theorem dX12_offers_146 : decode cX12_offers 146 = .ok (.aload_n 0, 1) := by decide +kernel
theorem dX12_offers_147 : decode cX12_offers 147 = .ok (.getfield 127, 3) := by decide +kernel
theorem dX12_offers_150 : decode cX12_offers 150 = .ok (.bipush 12, 2) := by decide +kernel
theorem dX12_offers_152 : decode cX12_offers 152 = .ok (.iload_n 1, 1) := by decide +kernel
theorem dX12_offers_153 : decode cX12_offers 153 = .ok (.imul, 1) := by decide +kernel
theorem dX12_offers_154 : decode cX12_offers 154 = .ok (.iload 4, 2) := by decide +kernel
theorem dX12_offers_156 : decode cX12_offers 156 = .ok (.iadd, 1) := by decide +kernel
theorem dX12_offers_157 : decode cX12_offers 157 = .ok (.iload 5, 2) := by decide +kernel
theorem dX12_offers_159 : decode cX12_offers 159 = .ok (.iastore, 1) := by decide +kernel
theorem dX12_offers_160 : decode cX12_offers 160 = .ok (.iload_n 3, 1) := by decide +kernel
theorem dX12_offers_161 : decode cX12_offers 161 = .ok (.iload 5, 2) := by decide +kernel
theorem dX12_offers_163 : decode cX12_offers 163 = .ok (.ifCond .le 7, 3) := by decide +kernel
theorem dX12_offers_166 : decode cX12_offers 166 = .ok (.iconst 1, 1) := by decide +kernel
theorem dX12_offers_167 : decode cX12_offers 167 = .ok (.goto 4, 3) := by decide +kernel
theorem dX12_offers_170 : decode cX12_offers 170 = .ok (.iconst 0, 1) := by decide +kernel
theorem dX12_offers_171 : decode cX12_offers 171 = .ok (.iadd, 1) := by decide +kernel
theorem dX12_offers_172 : decode cX12_offers 172 = .ok (.istore_n 3, 1) := by decide +kernel
theorem dX12_offers_173 : decode cX12_offers 173 = .ok (.iinc 4 1, 3) := by decide +kernel
theorem dX12_offers_176 : decode cX12_offers 176 = .ok (.goto (-86), 3) := by decide +kernel
theorem dX12_offers_179 : decode cX12_offers 179 = .ok (.iload_n 3, 1) := by decide +kernel
theorem dX12_offers_180 : decode cX12_offers 180 = .ok (.ireturn, 1) := by decide +kernel
def fX12_offers_L45 : Nat → Int32 → Int32 → Int32 → Hp → Option ((Int32 ⊕ Int32) × Hp)
  | 0, _, _, _, _ => none
  | n + 1, a1, a2, a3, h => gd (ib a2 4) (br ((gI h 55 0 (ix a2)) ≤ a3) (some (.inr (a3), h)) (gd (ib (((60 : Int32) * a2) + a3) 240) (br ((fX12_in (gJ h 56 0 (ix (((60 : Int32) * a2) + a3))) 0 10000 h) = 0) (some (.inl (-4), h)) (lb (a3 + 1) (fun v5 => fX12_offers_L45 n a1 a2 v5 h)))))
def fX12_offers_L90 : Nat → Int32 → Int32 → Int32 → Int32 → Hp → Option ((Int32 × Int32) × Hp)
  | 0, _, _, _, _, _ => none
  | n + 1, a1, a2, a3, a4, h => br (12 ≤ a4) (some ((a3, a4), h)) (lb (fun (x12 : Int32) (h13 : Hp) => gd (ib (((12 : Int32) * a1) + a4) 96) (lb (sI h13 87 0 (ix (((12 : Int32) * a1) + a4)) x12) (fun h15 => br (x12 ≤ 0) (lb (a3 + 0) (fun v16 => lb (a4 + 1) (fun v17 => fX12_offers_L90 n a1 a2 v16 v17 h15))) (lb (a3 + 1) (fun v18 => lb (a4 + 1) (fun v19 => fX12_offers_L90 n a1 a2 v18 v19 h15)))))) (fun j11 => lb (fun (h21 : Hp) => j11 0 h21) (fun j20 => br ((gI h 12 0 8) ≤ a4) (j20 h) (gd (ib a2 4) (br ((gI h 55 0 (ix a2)) ≤ a4) (j20 h) (gd (ib a4 12) (br ((gI h 68 0 (ix a4)) = 0) (gd (ib (((60 : Int32) * a2) + a4) 240) (j11 ((gJ h 56 0 (ix (((60 : Int32) * a2) + a4))).toInt32) h)) (j20 h))))))))
def fX12_offers (a1 : Int32) (a2 : Int32) (h : Hp) : Option (Int32 × Hp) := lb (sI h 12 0 0 0) (fun h1 => br ((fX12_in a1.toInt64 0 (((gI h1 12 0 10) - 1).toInt64) h1) = 0) (some ((-2), h1)) (br ((fX12_isPlace a2 h1) = 0) (some ((-2), h1)) (gd (ib a2 4) (br (0 ≤ (gI h1 54 0 (ix a2))) (bd (fX12_offers_L45 FU a1 a2 0 h1) (fun u9 h6 => ms u9 (fun r10 => some (r10, h6)) (fun v8 => bd (fX12_offers_L90 FU a1 a2 0 0 h6) (fun t26 h25 => lb t26.1 (fun v27 => lb t26.2 (fun v28 => some (v27, h25))))))) (some ((-5), h1))))))
set_option maxRecDepth 20000 in
theorem tX12_offers_L45 {X : Cz} {h0 : Hp} {r : Option AV} {hE : Hp} : ∀ (n : Nat) (a1 : Int32) (a2 : Int32) (a3 : Int32) (h : Hp) (z : (Int32 ⊕ Int32) × Hp), fX12_offers_L45 n a1 a2 a3 h = some z → lk z r hE (fun v => some (zi v)) (fun t hx => V X mX12_offers true h0 85 [(0, zr 12 0), (1, zi a1), (2, zi a2), (3, zi t)] [] hx r hE) → V X mX12_offers true h0 45 [(0, zr 12 0), (1, zi a1), (2, zi a2), (3, zi a3)] [] h r hE := by
  intro n
  induction n with
  | zero => intro a1 a2 a3 h z hF k; cases hF
  | succ n ih =>
    intro a1 a2 a3 h z hF k
    rw [fX12_offers_L45] at hF
    refine v_iload_n (j := 3) dX12_offers_45 rfl ?_
    refine v_aload_n (j := 0) dX12_offers_46 rfl ?_
    refine v_getL (c := 12) rfl rfl rfl ly12_2 cz12 flX12_13 dX12_offers_47 ?_
    refine v_iload_n (j := 2) dX12_offers_50 rfl ?_
    replace hF := gd_use hF
    obtain ⟨q3, hF⟩ := hF
    refine v_iald rfl q3 dX12_offers_51 ?_
    refine v_icmp_ge dX12_offers_52 (by decide : _ = ((85 : Nat) : Int)) (fun q => ?_) (fun q => ?_)
    · replace hF := brT q hF
      cases hF
      exact k
    · replace hF := brF q hF
      refine v_aload_n (j := 0) dX12_offers_55 rfl ?_
      refine v_getL (c := 12) rfl rfl rfl ly12_3 cz12 flX12_16 dX12_offers_56 ?_
      refine v_bipush (v := 60) dX12_offers_59 (by decide) ?_
      refine v_iload_n (j := 2) dX12_offers_61 rfl ?_
      refine v_imul dX12_offers_62 ?_
      refine v_iload_n (j := 3) dX12_offers_63 rfl ?_
      refine v_iadd dX12_offers_64 ?_
      replace hF := gd_use hF
      obtain ⟨q4, hF⟩ := hF
      refine v_lald rfl q4 dX12_offers_65 ?_
      refine v_lconst (v := 0) dX12_offers_66 (by decide) ?_
      refine v_ldc2 dX12_offers_67 kcX12_361 ?_
      refine v_cS (hm := h) (av := [zj (gJ h 56 0 (ix (((60 : Int32) * a2) + a3))), zj 0, zj 10000]) (st := []) (stn := [zi (fX12_in (gJ h 56 0 (ix (((60 : Int32) * a2) + a3))) 0 10000 h)]) (tX12_in (gJ h 56 0 (ix (((60 : Int32) * a2) + a3))) 0 10000 h) lcX12_in mlX12_213 sxX12_in rfl ⟨by decide, by decide⟩ (Nat.le_of_ble_eq_true rfl) dX12_offers_70 rfl rfl ?_
      refine v_if_ne dX12_offers_73 (by decide : _ = ((79 : Nat) : Int)) (fun q => ?_) (fun q => ?_)
      · replace hF := brF q hF
        obtain ⟨v5, ev5⟩ : ∃ y : Int32, y = a3 + 1 := ⟨_, rfl⟩
        replace hF := lb_use ev5 hF
        refine v_iinc (j := 3) (v := v5) (ls' := [(3, zi v5), (0, zr 12 0), (1, zi a1), (2, zi a2)]) dX12_offers_79 rfl (by rw [ev5]; rfl) (by decide) rfl ?_
        clear ev5
        refine v_goto (tgt := 45) dX12_offers_82 (by decide) ?_
        refine v_sub [1, 2, 3, 0] rfl ?_
        exact ih a1 a2 v5 h _ hF k
      · replace hF := brT (Decidable.not_not.mp q) hF
        refine v_bipush (v := (-4)) dX12_offers_76 (by decide) ?_
        cases hF
        obtain ⟨rfl, rfl⟩ := (k : _ ∧ _)
        exact v_iret rfl dX12_offers_78
set_option maxRecDepth 20000 in
theorem tX12_offers_L90 {X : Cz} {h0 : Hp} {r : Option AV} {hE : Hp} : ∀ (n : Nat) (a1 : Int32) (a2 : Int32) (a3 : Int32) (a4 : Int32) (h : Hp) (z : (Int32 × Int32) × Hp), fX12_offers_L90 n a1 a2 a3 a4 h = some z → V X mX12_offers true h0 179 [(0, zr 12 0), (1, zi a1), (2, zi a2), (3, zi z.1.1), (4, zi z.1.2)] [] z.2 r hE → V X mX12_offers true h0 90 [(0, zr 12 0), (1, zi a1), (2, zi a2), (3, zi a3), (4, zi a4)] [] h r hE := by
  intro n
  induction n with
  | zero => intro a1 a2 a3 a4 h z hF k; cases hF
  | succ n ih =>
    intro a1 a2 a3 a4 h z hF k
    rw [fX12_offers_L90] at hF
    refine v_iload (j := 4) dX12_offers_90 rfl ?_
    refine v_bipush (v := 12) dX12_offers_92 (by decide) ?_
    refine v_icmp_ge dX12_offers_94 (by decide : _ = ((179 : Nat) : Int)) (fun q => ?_) (fun q => ?_)
    · replace hF := brT q hF
      cases hF
      exact k
    · replace hF := brF q hF
      refine v_iload (j := 4) dX12_offers_97 rfl ?_
      refine v_aload_n (j := 0) dX12_offers_99 rfl ?_
      refine v_getI (c := 12) rfl (Or.inl rfl) cz12 flX12_295 dX12_offers_100 ?_
      replace hF := lb_ex hF
      obtain ⟨j11, ej11, hF⟩ := hF
      have j11V : ∀ (x12 : Int32) (h13 : Hp), j11 x12 h13 = some z → V X mX12_offers true h0 144 [(0, zr 12 0), (1, zi a1), (2, zi a2), (3, zi a3), (4, zi a4)] [zi x12] h13 r hE := by
        intro x12 h13 hF
        subst ej11
        refine v_istore (ls' := [(5, zi x12), (0, zr 12 0), (1, zi a1), (2, zi a2), (3, zi a3), (4, zi a4)]) dX12_offers_144 (by decide) rfl ?_
        refine v_aload_n (j := 1) dX12_offers_146 rfl ?_
        refine v_getL (c := 12) rfl rfl rfl ly12_47 cz12 flX12_127 dX12_offers_147 ?_
        refine v_bipush (v := 12) dX12_offers_150 (by decide) ?_
        refine v_iload_n (j := 2) dX12_offers_152 rfl ?_
        refine v_imul dX12_offers_153 ?_
        refine v_iload (j := 5) dX12_offers_154 rfl ?_
        refine v_iadd dX12_offers_156 ?_
        refine v_iload (j := 0) dX12_offers_157 rfl ?_
        replace hF := gd_use hF
        obtain ⟨q14, hF⟩ := hF
        refine v_iast rfl q14 dX12_offers_159 ?_
        refine v_toph fun h15 eh15 => ?_
        replace hF := lb_use eh15 hF
        clear eh15
        refine v_iload_n (j := 4) dX12_offers_160 rfl ?_
        refine v_iload (j := 0) dX12_offers_161 rfl ?_
        refine v_if_le dX12_offers_163 (by decide : _ = ((170 : Nat) : Int)) (fun q => ?_) (fun q => ?_)
        · replace hF := brT q hF
          refine v_iconst (v := 0) dX12_offers_170 (by decide) ?_
          refine v_iadd dX12_offers_171 ?_
          refine v_topi fun v16 ev16 => ?_
          replace hF := lb_use ev16 hF
          clear ev16
          refine v_istore_n (ls' := [(3, zi v16), (5, zi x12), (0, zr 12 0), (1, zi a1), (2, zi a2), (4, zi a4)]) dX12_offers_172 (by decide) rfl ?_
          obtain ⟨v17, ev17⟩ : ∃ y : Int32, y = a4 + 1 := ⟨_, rfl⟩
          replace hF := lb_use ev17 hF
          refine v_iinc (j := 5) (v := v17) (ls' := [(4, zi v17), (3, zi v16), (5, zi x12), (0, zr 12 0), (1, zi a1), (2, zi a2)]) dX12_offers_173 rfl (by rw [ev17]; rfl) (by decide) rfl ?_
          clear ev17
          refine v_goto (tgt := 90) dX12_offers_176 (by decide) ?_
          refine v_sub [3, 4, 5, 1, 0] rfl ?_
          exact ih a1 a2 v16 v17 h15 _ hF k
        · replace hF := brF q hF
          refine v_iconst (v := 1) dX12_offers_166 (by decide) ?_
          refine v_goto (tgt := 171) dX12_offers_167 (by decide) ?_
          refine v_iadd dX12_offers_171 ?_
          refine v_topi fun v18 ev18 => ?_
          replace hF := lb_use ev18 hF
          clear ev18
          refine v_istore_n (ls' := [(3, zi v18), (5, zi x12), (0, zr 12 0), (1, zi a1), (2, zi a2), (4, zi a4)]) dX12_offers_172 (by decide) rfl ?_
          obtain ⟨v19, ev19⟩ : ∃ y : Int32, y = a4 + 1 := ⟨_, rfl⟩
          replace hF := lb_use ev19 hF
          refine v_iinc (j := 5) (v := v19) (ls' := [(4, zi v19), (3, zi v18), (5, zi x12), (0, zr 12 0), (1, zi a1), (2, zi a2)]) dX12_offers_173 rfl (by rw [ev19]; rfl) (by decide) rfl ?_
          clear ev19
          refine v_goto (tgt := 90) dX12_offers_176 (by decide) ?_
          refine v_sub [3, 4, 5, 1, 0] rfl ?_
          exact ih a1 a2 v18 v19 h15 _ hF k
      clear ej11
      replace hF := lb_ex hF
      obtain ⟨j20, ej20, hF⟩ := hF
      have j20V : ∀ (h21 : Hp), j20 h21 = some z → V X mX12_offers true h0 143 [(0, zr 12 0), (1, zi a1), (2, zi a2), (3, zi a3), (4, zi a4)] [] h21 r hE := by
        intro h21 hF
        subst ej20
        refine v_iconst (v := 0) dX12_offers_143 (by decide) ?_
        exact j11V 0 h21 hF
      clear ej20
      refine v_icmp_ge dX12_offers_103 (by decide : _ = ((143 : Nat) : Int)) (fun q => ?_) (fun q => ?_)
      · replace hF := brT q hF
        exact j20V h hF
      · replace hF := brF q hF
        refine v_iload (j := 4) dX12_offers_106 rfl ?_
        refine v_aload_n (j := 0) dX12_offers_108 rfl ?_
        refine v_getL (c := 12) rfl rfl rfl ly12_2 cz12 flX12_13 dX12_offers_109 ?_
        refine v_iload_n (j := 2) dX12_offers_112 rfl ?_
        replace hF := gd_use hF
        obtain ⟨q22, hF⟩ := hF
        refine v_iald rfl q22 dX12_offers_113 ?_
        refine v_icmp_ge dX12_offers_114 (by decide : _ = ((143 : Nat) : Int)) (fun q => ?_) (fun q => ?_)
        · replace hF := brT q hF
          exact j20V h hF
        · replace hF := brF q hF
          refine v_aload_n (j := 0) dX12_offers_117 rfl ?_
          refine v_getL (c := 12) rfl rfl rfl ly12_28 cz12 flX12_70 dX12_offers_118 ?_
          refine v_iload (j := 4) dX12_offers_121 rfl ?_
          replace hF := gd_use hF
          obtain ⟨q23, hF⟩ := hF
          refine v_zald rfl q23 dX12_offers_123 ?_
          refine v_if_ne dX12_offers_124 (by decide : _ = ((143 : Nat) : Int)) (fun q => ?_) (fun q => ?_)
          · replace hF := brF q hF
            exact j20V h hF
          · replace hF := brT (Decidable.not_not.mp q) hF
            refine v_aload_n (j := 0) dX12_offers_127 rfl ?_
            refine v_getL (c := 12) rfl rfl rfl ly12_3 cz12 flX12_16 dX12_offers_128 ?_
            refine v_bipush (v := 60) dX12_offers_131 (by decide) ?_
            refine v_iload_n (j := 2) dX12_offers_133 rfl ?_
            refine v_imul dX12_offers_134 ?_
            refine v_iload (j := 4) dX12_offers_135 rfl ?_
            refine v_iadd dX12_offers_137 ?_
            replace hF := gd_use hF
            obtain ⟨q24, hF⟩ := hF
            refine v_lald rfl q24 dX12_offers_138 ?_
            refine v_l2i dX12_offers_139 ?_
            refine v_goto (tgt := 144) dX12_offers_140 (by decide) ?_
            exact j11V ((gJ h 56 0 (ix (((60 : Int32) * a2) + a4))).toInt32) h hF
set_option maxRecDepth 20000 in
theorem tX12_offers {X : Cz} {a1 : Int32} {a2 : Int32} {h hE : Hp} {rE : Int32} (hF : fX12_offers a1 a2 h = some (rE, hE)) : Ct X mX12_offers true [zr 12 0, zi a1, zi a2] h (some (zi rE)) hE := by
  refine Ct_of (by decide) (Nat.le_of_ble_eq_true rfl) (ls := [(0, zr 12 0), (1, zi a1), (2, zi a2)]) rfl ?_
  unfold fX12_offers at hF
  refine v_aload_n (j := 0) dX12_offers_0 rfl ?_
  refine v_iconst (v := 0) dX12_offers_1 (by decide) ?_
  refine v_putI (c := 12) rfl rfl (Nat.le_of_ble_eq_true rfl) cz12 flX12_208 dX12_offers_2 ?_
  refine v_toph fun h1 eh1 => ?_
  replace hF := lb_use eh1 hF
  clear eh1
  refine v_iload_n (j := 1) dX12_offers_5 rfl ?_
  refine v_i2l dX12_offers_6 ?_
  refine v_lconst (v := 0) dX12_offers_7 (by decide) ?_
  refine v_aload_n (j := 0) dX12_offers_8 rfl ?_
  refine v_getI (c := 12) rfl (Or.inl rfl) cz12 flX12_358 dX12_offers_9 ?_
  refine v_iconst (v := 1) dX12_offers_12 (by decide) ?_
  refine v_isub dX12_offers_13 ?_
  refine v_i2l dX12_offers_14 ?_
  refine v_cS (hm := h1) (av := [zj a1.toInt64, zj 0, zj (((gI h1 12 0 10) - 1).toInt64)]) (st := []) (stn := [zi (fX12_in a1.toInt64 0 (((gI h1 12 0 10) - 1).toInt64) h1)]) (tX12_in a1.toInt64 0 (((gI h1 12 0 10) - 1).toInt64) h1) lcX12_in mlX12_213 sxX12_in rfl ⟨by decide, by decide⟩ (Nat.le_of_ble_eq_true rfl) dX12_offers_15 rfl rfl ?_
  refine v_if_eq dX12_offers_18 (by decide : _ = ((28 : Nat) : Int)) (fun q => ?_) (fun q => ?_)
  · replace hF := brT q hF
    refine v_bipush (v := (-2)) dX12_offers_28 (by decide) ?_
    obtain ⟨rfl, rfl⟩ := ret_use hF
    exact v_iret rfl dX12_offers_30
  · replace hF := brF q hF
    refine v_iload_n (j := 2) dX12_offers_21 rfl ?_
    refine v_cS (hm := h1) (av := [zi a2]) (st := []) (stn := [zi (fX12_isPlace a2 h1)]) (tX12_isPlace a2 h1) lcX12_isPlace mlX12_217 sxX12_isPlace rfl ⟨by decide, by decide⟩ (Nat.le_of_ble_eq_true rfl) dX12_offers_22 rfl rfl ?_
    refine v_if_ne dX12_offers_25 (by decide : _ = ((31 : Nat) : Int)) (fun q => ?_) (fun q => ?_)
    · replace hF := brF q hF
      refine v_aload_n (j := 0) dX12_offers_31 rfl ?_
      refine v_getL (c := 12) rfl rfl rfl ly12_1 cz12 flX12_9 dX12_offers_32 ?_
      refine v_iload_n (j := 2) dX12_offers_35 rfl ?_
      replace hF := gd_use hF
      obtain ⟨q2, hF⟩ := hF
      refine v_iald rfl q2 dX12_offers_36 ?_
      refine v_if_ge dX12_offers_37 (by decide : _ = ((43 : Nat) : Int)) (fun q => ?_) (fun q => ?_)
      · replace hF := brT q hF
        refine v_iconst (v := 0) dX12_offers_43 (by decide) ?_
        refine v_istore_n (ls' := [(3, zi 0), (0, zr 12 0), (1, zi a1), (2, zi a2)]) dX12_offers_44 (by decide) rfl ?_
        refine v_sub [1, 2, 3, 0] rfl ?_
        replace hF := bd_use hF
        obtain ⟨u9, h6, ev8, hF⟩ := hF
        rcases u9 with r10 | v8
        · obtain ⟨rfl, rfl⟩ := ret_use hF
          exact tX12_offers_L45 _ a1 a2 0 h1 _ ev8 ⟨rfl, rfl⟩
        replace hF := msR hF
        refine tX12_offers_L45 _ a1 a2 0 h1 _ ev8 ?_
        clear ev8
        refine v_iconst (v := 0) dX12_offers_85 (by decide) ?_
        refine v_istore_n (ls' := [(3, zi 0), (0, zr 12 0), (1, zi a1), (2, zi a2)]) dX12_offers_86 (by decide) rfl ?_
        refine v_iconst (v := 0) dX12_offers_87 (by decide) ?_
        refine v_istore (ls' := [(4, zi 0), (3, zi 0), (0, zr 12 0), (1, zi a1), (2, zi a2)]) dX12_offers_88 (by decide) rfl ?_
        refine v_sub [2, 3, 4, 1, 0] rfl ?_
        replace hF := bd_use hF
        obtain ⟨t26, h25, et26, hF⟩ := hF
        refine tX12_offers_L90 _ a1 a2 0 0 h6 _ et26 ?_
        clear et26
        obtain ⟨v27, v28⟩ := t26
        replace hF := lb_use (x := v27) rfl hF
        replace hF := lb_use (x := v28) rfl hF
        refine v_iload_n (j := 3) dX12_offers_179 rfl ?_
        obtain ⟨rfl, rfl⟩ := ret_use hF
        exact v_iret rfl dX12_offers_180
      · replace hF := brF q hF
        refine v_bipush (v := (-5)) dX12_offers_40 (by decide) ?_
        obtain ⟨rfl, rfl⟩ := ret_use hF
        exact v_iret rfl dX12_offers_42
    · replace hF := brT (Decidable.not_not.mp q) hF
      refine v_bipush (v := (-2)) dX12_offers_28 (by decide) ?_
      obtain ⟨rfl, rfl⟩ := ret_use hF
      exact v_iret rfl dX12_offers_30
theorem dX12_offered_0 : decode cX12_offered 0 = .ok (.aload_n 0, 1) := by decide +kernel
theorem dX12_offered_1 : decode cX12_offered 1 = .ok (.getfield 70, 3) := by decide +kernel
theorem dX12_offered_4 : decode cX12_offered 4 = .ok (.iload_n 2, 1) := by decide +kernel
theorem dX12_offered_5 : decode cX12_offered 5 = .ok (.baload, 1) := by decide +kernel
theorem dX12_offered_6 : decode cX12_offered 6 = .ok (.ifCond .eq 7, 3) := by decide +kernel
theorem dX12_offered_9 : decode cX12_offered 9 = .ok (.lconst 0, 1) := by decide +kernel
theorem dX12_offered_10 : decode cX12_offered 10 = .ok (.goto 15, 3) := by decide +kernel
theorem dX12_offered_13 : decode cX12_offered 13 = .ok (.aload_n 0, 1) := by decide +kernel
theorem dX12_offered_14 : decode cX12_offered 14 = .ok (.getfield 127, 3) := by decide +kernel
theorem dX12_offered_17 : decode cX12_offered 17 = .ok (.bipush 12, 2) := by decide +kernel
theorem dX12_offered_19 : decode cX12_offered 19 = .ok (.iload_n 1, 1) := by decide +kernel
theorem dX12_offered_20 : decode cX12_offered 20 = .ok (.imul, 1) := by decide +kernel
theorem dX12_offered_21 : decode cX12_offered 21 = .ok (.iload_n 2, 1) := by decide +kernel
theorem dX12_offered_22 : decode cX12_offered 22 = .ok (.iadd, 1) := by decide +kernel
theorem dX12_offered_23 : decode cX12_offered 23 = .ok (.iaload, 1) := by decide +kernel
theorem dX12_offered_24 : decode cX12_offered 24 = .ok (.i2l, 1) := by decide +kernel
theorem dX12_offered_25 : decode cX12_offered 25 = .ok (.lreturn, 1) := by decide +kernel
def fX12_offered (a1 : Int32) (a2 : Int32) (h : Hp) : Option (Int64 × Hp) := gd (ib a2 12) (br ((gI h 68 0 (ix a2)) = 0) (gd (ib (((12 : Int32) * a1) + a2) 96) (some ((gI h 87 0 (ix (((12 : Int32) * a1) + a2))).toInt64, h))) (some (0, h)))
set_option maxRecDepth 20000 in
theorem tX12_offered {X : Cz} {a1 : Int32} {a2 : Int32} {h hE : Hp} {rE : Int64} (hF : fX12_offered a1 a2 h = some (rE, hE)) : Ct X mX12_offered true [zr 12 0, zi a1, zi a2] h (some (zj rE)) hE := by
  refine Ct_of (by decide) (Nat.le_of_ble_eq_true rfl) (ls := [(0, zr 12 0), (1, zi a1), (2, zi a2)]) rfl ?_
  unfold fX12_offered at hF
  refine v_aload_n (j := 0) dX12_offered_0 rfl ?_
  refine v_getL (c := 12) rfl rfl rfl ly12_28 cz12 flX12_70 dX12_offered_1 ?_
  refine v_iload_n (j := 2) dX12_offered_4 rfl ?_
  replace hF := gd_use hF
  obtain ⟨q1, hF⟩ := hF
  refine v_zald rfl q1 dX12_offered_5 ?_
  refine v_if_eq dX12_offered_6 (by decide : _ = ((13 : Nat) : Int)) (fun q => ?_) (fun q => ?_)
  · replace hF := brT q hF
    refine v_aload_n (j := 0) dX12_offered_13 rfl ?_
    refine v_getL (c := 12) rfl rfl rfl ly12_47 cz12 flX12_127 dX12_offered_14 ?_
    refine v_bipush (v := 12) dX12_offered_17 (by decide) ?_
    refine v_iload_n (j := 1) dX12_offered_19 rfl ?_
    refine v_imul dX12_offered_20 ?_
    refine v_iload_n (j := 2) dX12_offered_21 rfl ?_
    refine v_iadd dX12_offered_22 ?_
    replace hF := gd_use hF
    obtain ⟨q2, hF⟩ := hF
    refine v_iald rfl q2 dX12_offered_23 ?_
    refine v_i2l dX12_offered_24 ?_
    obtain ⟨rfl, rfl⟩ := ret_use hF
    exact v_lret rfl dX12_offered_25
  · replace hF := brF q hF
    refine v_lconst (v := 0) dX12_offered_9 (by decide) ?_
    refine v_goto (tgt := 25) dX12_offered_10 (by decide) ?_
    obtain ⟨rfl, rfl⟩ := ret_use hF
    exact v_lret rfl dX12_offered_25
theorem dX12_sumsBut_0 : decode cX12_sumsBut 0 = .ok (.iconst 0, 1) := by decide +kernel
theorem dX12_sumsBut_1 : decode cX12_sumsBut 1 = .ok (.istore_n 2, 1) := by decide +kernel
theorem dX12_sumsBut_2 : decode cX12_sumsBut 2 = .ok (.iload_n 2, 1) := by decide +kernel
theorem dX12_sumsBut_3 : decode cX12_sumsBut 3 = .ok (.sipush 256, 3) := by decide +kernel
theorem dX12_sumsBut_6 : decode cX12_sumsBut 6 = .ok (.if_icmp .ge 25, 3) := by decide +kernel
theorem dX12_sumsBut_9 : decode cX12_sumsBut 9 = .ok (.aload_n 0, 1) := by decide +kernel
theorem dX12_sumsBut_10 : decode cX12_sumsBut 10 = .ok (.getfield 151, 3) := by decide +kernel
theorem dX12_sumsBut_13 : decode cX12_sumsBut 13 = .ok (.sipush 256, 3) := by decide +kernel
theorem dX12_sumsBut_16 : decode cX12_sumsBut 16 = .ok (.aload_n 0, 1) := by decide +kernel
theorem dX12_sumsBut_17 : decode cX12_sumsBut 17 = .ok (.getfield 295, 3) := by decide +kernel
theorem dX12_sumsBut_20 : decode cX12_sumsBut 20 = .ok (.imul, 1) := by decide +kernel
theorem dX12_sumsBut_21 : decode cX12_sumsBut 21 = .ok (.iload_n 2, 1) := by decide +kernel
theorem dX12_sumsBut_22 : decode cX12_sumsBut 22 = .ok (.iadd, 1) := by decide +kernel
theorem dX12_sumsBut_23 : decode cX12_sumsBut 23 = .ok (.lconst 0, 1) := by decide +kernel
theorem dX12_sumsBut_24 : decode cX12_sumsBut 24 = .ok (.lastore, 1) := by decide +kernel
theorem dX12_sumsBut_25 : decode cX12_sumsBut 25 = .ok (.iinc 2 1, 3) := by decide +kernel
theorem dX12_sumsBut_28 : decode cX12_sumsBut 28 = .ok (.goto (-26), 3) := by decide +kernel
theorem dX12_sumsBut_31 : decode cX12_sumsBut 31 = .ok (.aload_n 0, 1) := by decide +kernel
theorem dX12_sumsBut_32 : decode cX12_sumsBut 32 = .ok (.getfield 295, 3) := by decide +kernel
theorem dX12_sumsBut_35 : decode cX12_sumsBut 35 = .ok (.iconst 1, 1) := by decide +kernel
theorem dX12_sumsBut_36 : decode cX12_sumsBut 36 = .ok (.isub, 1) := by decide +kernel
theorem dX12_sumsBut_37 : decode cX12_sumsBut 37 = .ok (.istore_n 2, 1) := by decide +kernel
theorem dX12_sumsBut_38 : decode cX12_sumsBut 38 = .ok (.iload_n 2, 1) := by decide +kernel
theorem dX12_sumsBut_39 : decode cX12_sumsBut 39 = .ok (.ifCond .lt 135, 3) := by decide +kernel
theorem dX12_sumsBut_42 : decode cX12_sumsBut 42 = .ok (.iconst 0, 1) := by decide +kernel
theorem dX12_sumsBut_43 : decode cX12_sumsBut 43 = .ok (.istore_n 3, 1) := by decide +kernel
theorem dX12_sumsBut_44 : decode cX12_sumsBut 44 = .ok (.iload_n 3, 1) := by decide +kernel
theorem dX12_sumsBut_45 : decode cX12_sumsBut 45 = .ok (.iconst 1, 1) := by decide +kernel
theorem dX12_sumsBut_46 : decode cX12_sumsBut 46 = .ok (.aload_n 0, 1) := by decide +kernel
theorem dX12_sumsBut_47 : decode cX12_sumsBut 47 = .ok (.getfield 358, 3) := by decide +kernel
theorem dX12_sumsBut_50 : decode cX12_sumsBut 50 = .ok (.ishl, 1) := by decide +kernel
theorem dX12_sumsBut_51 : decode cX12_sumsBut 51 = .ok (.if_icmp .ge 117, 3) := by decide +kernel
theorem dX12_sumsBut_54 : decode cX12_sumsBut 54 = .ok (.aload_n 0, 1) := by decide +kernel
theorem dX12_sumsBut_55 : decode cX12_sumsBut 55 = .ok (.getfield 151, 3) := by decide +kernel
theorem dX12_sumsBut_58 : decode cX12_sumsBut 58 = .ok (.sipush 256, 3) := by decide +kernel
theorem dX12_sumsBut_61 : decode cX12_sumsBut 61 = .ok (.iload_n 2, 1) := by decide +kernel
theorem dX12_sumsBut_62 : decode cX12_sumsBut 62 = .ok (.iconst 1, 1) := by decide +kernel
theorem dX12_sumsBut_63 : decode cX12_sumsBut 63 = .ok (.iadd, 1) := by decide +kernel
theorem dX12_sumsBut_64 : decode cX12_sumsBut 64 = .ok (.imul, 1) := by decide +kernel
theorem dX12_sumsBut_65 : decode cX12_sumsBut 65 = .ok (.iload_n 3, 1) := by decide +kernel
theorem dX12_sumsBut_66 : decode cX12_sumsBut 66 = .ok (.iadd, 1) := by decide +kernel
theorem dX12_sumsBut_67 : decode cX12_sumsBut 67 = .ok (.laload, 1) := by decide +kernel
theorem dX12_sumsBut_68 : decode cX12_sumsBut 68 = .ok (.lstore 4, 2) := by decide +kernel
theorem dX12_sumsBut_70 : decode cX12_sumsBut 70 = .ok (.iconst 0, 1) := by decide +kernel
theorem dX12_sumsBut_71 : decode cX12_sumsBut 71 = .ok (.istore 6, 2) := by decide +kernel
theorem dX12_sumsBut_73 : decode cX12_sumsBut 73 = .ok (.iload 6, 2) := by decide +kernel
theorem dX12_sumsBut_75 : decode cX12_sumsBut 75 = .ok (.aload_n 0, 1) := by decide +kernel
theorem dX12_sumsBut_76 : decode cX12_sumsBut 76 = .ok (.getfield 358, 3) := by decide +kernel
theorem dX12_sumsBut_79 : decode cX12_sumsBut 79 = .ok (.if_icmp .ge 69, 3) := by decide +kernel
theorem dX12_sumsBut_82 : decode cX12_sumsBut 82 = .ok (.iload_n 2, 1) := by decide +kernel
theorem dX12_sumsBut_83 : decode cX12_sumsBut 83 = .ok (.iload_n 1, 1) := by decide +kernel
theorem dX12_sumsBut_84 : decode cX12_sumsBut 84 = .ok (.if_icmp .eq 64, 3) := by decide +kernel
theorem dX12_sumsBut_87 : decode cX12_sumsBut 87 = .ok (.iload_n 3, 1) := by decide +kernel
theorem dX12_sumsBut_88 : decode cX12_sumsBut 88 = .ok (.iload 6, 2) := by decide +kernel
theorem dX12_sumsBut_90 : decode cX12_sumsBut 90 = .ok (.ishr, 1) := by decide +kernel
theorem dX12_sumsBut_91 : decode cX12_sumsBut 91 = .ok (.iconst 1, 1) := by decide +kernel
theorem dX12_sumsBut_92 : decode cX12_sumsBut 92 = .ok (.iand, 1) := by decide +kernel
theorem dX12_sumsBut_93 : decode cX12_sumsBut 93 = .ok (.ifCond .ne 49, 3) := by decide +kernel
theorem dX12_sumsBut_96 : decode cX12_sumsBut 96 = .ok (.aload_n 0, 1) := by decide +kernel
theorem dX12_sumsBut_97 : decode cX12_sumsBut 97 = .ok (.iload 6, 2) := by decide +kernel
theorem dX12_sumsBut_99 : decode cX12_sumsBut 99 = .ok (.iload_n 2, 1) := by decide +kernel
theorem dX12_sumsBut_100 : decode cX12_sumsBut 100 = .ok (.invokevirtual 363, 3) := by decide +kernel
theorem dX12_sumsBut_103 : decode cX12_sumsBut 103 = .ok (.lconst 0, 1) := by decide +kernel
theorem dX12_sumsBut_104 : decode cX12_sumsBut 104 = .ok (.lcmp, 1) := by decide +kernel
theorem dX12_sumsBut_105 : decode cX12_sumsBut 105 = .ok (.ifCond .le 37, 3) := by decide +kernel
theorem dX12_sumsBut_108 : decode cX12_sumsBut 108 = .ok (.lload 4, 2) := by decide +kernel
theorem dX12_sumsBut_110 : decode cX12_sumsBut 110 = .ok (.aload_n 0, 1) := by decide +kernel
theorem dX12_sumsBut_111 : decode cX12_sumsBut 111 = .ok (.iload 6, 2) := by decide +kernel
theorem dX12_sumsBut_113 : decode cX12_sumsBut 113 = .ok (.iload_n 2, 1) := by decide +kernel
theorem dX12_sumsBut_114 : decode cX12_sumsBut 114 = .ok (.invokevirtual 363, 3) := by decide +kernel
theorem dX12_sumsBut_117 : decode cX12_sumsBut 117 = .ok (.aload_n 0, 1) := by decide +kernel
theorem dX12_sumsBut_118 : decode cX12_sumsBut 118 = .ok (.getfield 151, 3) := by decide +kernel
theorem dX12_sumsBut_121 : decode cX12_sumsBut 121 = .ok (.sipush 256, 3) := by decide +kernel
theorem dX12_sumsBut_124 : decode cX12_sumsBut 124 = .ok (.iload_n 2, 1) := by decide +kernel
theorem dX12_sumsBut_125 : decode cX12_sumsBut 125 = .ok (.iconst 1, 1) := by decide +kernel
theorem dX12_sumsBut_126 : decode cX12_sumsBut 126 = .ok (.iadd, 1) := by decide +kernel
theorem dX12_sumsBut_127 : decode cX12_sumsBut 127 = .ok (.imul, 1) := by decide +kernel
theorem dX12_sumsBut_128 : decode cX12_sumsBut 128 = .ok (.iload_n 3, 1) := by decide +kernel
theorem dX12_sumsBut_129 : decode cX12_sumsBut 129 = .ok (.iconst 1, 1) := by decide +kernel
theorem dX12_sumsBut_130 : decode cX12_sumsBut 130 = .ok (.iload 6, 2) := by decide +kernel
theorem dX12_sumsBut_132 : decode cX12_sumsBut 132 = .ok (.ishl, 1) := by decide +kernel
theorem dX12_sumsBut_133 : decode cX12_sumsBut 133 = .ok (.ior, 1) := by decide +kernel
theorem dX12_sumsBut_134 : decode cX12_sumsBut 134 = .ok (.iadd, 1) := by decide +kernel
theorem dX12_sumsBut_135 : decode cX12_sumsBut 135 = .ok (.laload, 1) := by decide +kernel
theorem dX12_sumsBut_136 : decode cX12_sumsBut 136 = .ok (.ladd, 1) := by decide +kernel
theorem dX12_sumsBut_137 : decode cX12_sumsBut 137 = .ok (.invokestatic 367, 3) := by decide +kernel
theorem dX12_sumsBut_140 : decode cX12_sumsBut 140 = .ok (.lstore 4, 2) := by decide +kernel
theorem dX12_sumsBut_142 : decode cX12_sumsBut 142 = .ok (.iinc 6 1, 3) := by decide +kernel
theorem dX12_sumsBut_145 : decode cX12_sumsBut 145 = .ok (.goto (-72), 3) := by decide +kernel
theorem dX12_sumsBut_148 : decode cX12_sumsBut 148 = .ok (.aload_n 0, 1) := by decide +kernel
theorem dX12_sumsBut_149 : decode cX12_sumsBut 149 = .ok (.getfield 151, 3) := by decide +kernel
theorem dX12_sumsBut_152 : decode cX12_sumsBut 152 = .ok (.sipush 256, 3) := by decide +kernel
theorem dX12_sumsBut_155 : decode cX12_sumsBut 155 = .ok (.iload_n 2, 1) := by decide +kernel
theorem dX12_sumsBut_156 : decode cX12_sumsBut 156 = .ok (.imul, 1) := by decide +kernel
theorem dX12_sumsBut_157 : decode cX12_sumsBut 157 = .ok (.iload_n 3, 1) := by decide +kernel
theorem dX12_sumsBut_158 : decode cX12_sumsBut 158 = .ok (.iadd, 1) := by decide +kernel
theorem dX12_sumsBut_159 : decode cX12_sumsBut 159 = .ok (.lload 4, 2) := by decide +kernel
theorem dX12_sumsBut_161 : decode cX12_sumsBut 161 = .ok (.lastore, 1) := by decide +kernel
theorem dX12_sumsBut_162 : decode cX12_sumsBut 162 = .ok (.iinc 3 1, 3) := by decide +kernel
theorem dX12_sumsBut_165 : decode cX12_sumsBut 165 = .ok (.goto (-121), 3) := by decide +kernel
theorem dX12_sumsBut_168 : decode cX12_sumsBut 168 = .ok (.iinc 2 (-1), 3) := by decide +kernel
theorem dX12_sumsBut_171 : decode cX12_sumsBut 171 = .ok (.goto (-133), 3) := by decide +kernel
theorem dX12_sumsBut_174 : decode cX12_sumsBut 174 = .ok (.aload_n 0, 1) := by decide +kernel
theorem dX12_sumsBut_175 : decode cX12_sumsBut 175 = .ok (.getfield 151, 3) := by decide +kernel
theorem dX12_sumsBut_178 : decode cX12_sumsBut 178 = .ok (.iconst 0, 1) := by decide +kernel
theorem dX12_sumsBut_179 : decode cX12_sumsBut 179 = .ok (.laload, 1) := by decide +kernel
theorem dX12_sumsBut_180 : decode cX12_sumsBut 180 = .ok (.lreturn, 1) := by decide +kernel
def fX12_sumsBut_L2 : Nat → Int32 → Int32 → Hp → Option ((Int32) × Hp)
  | 0, _, _, _ => none
  | n + 1, a1, a2, h => br (256 ≤ a2) (some ((a2), h)) (gd (ib (((256 : Int32) * (gI h 12 0 8)) + a2) 3328) (lb (sJ h 95 0 (ix (((256 : Int32) * (gI h 12 0 8)) + a2)) 0) (fun h2 => lb (a2 + 1) (fun v3 => fX12_sumsBut_L2 n a1 v3 h2))))
def fX12_sumsBut_L73 : Nat → Int32 → Int32 → Int32 → Int64 → Int32 → Hp → Option ((Int64 × Int32) × Hp)
  | 0, _, _, _, _, _, _ => none
  | n + 1, a1, a2, a3, a4, a6, h => br ((gI h 12 0 10) ≤ a6) (some ((a4, a6), h)) (br (a2 = a1) (some ((a4, a6), h)) (br (((a3 >>> (a6 &&& 31)) &&& 1) = 0) (bd (fX12_offered a6 a2 h) (fun r11 h12 => br (r11 ≤ (0 : Int64)) (lb (a6 + 1) (fun v13 => fX12_sumsBut_L73 n a1 a2 a3 a4 v13 h12)) (bd (fX12_offered a6 a2 h12) (fun r14 h15 => gd (ib (((256 : Int32) * (a2 + 1)) + (a3 ||| ((1 : Int32) <<< (a6 &&& 31)))) 3328) (lb (mxJ a4 (r14 + (gJ h15 95 0 (ix (((256 : Int32) * (a2 + 1)) + (a3 ||| ((1 : Int32) <<< (a6 &&& 31)))))))) (fun v17 => lb (a6 + 1) (fun v18 => fX12_sumsBut_L73 n a1 a2 a3 v17 v18 h15))))))) (lb (a6 + 1) (fun v10 => fX12_sumsBut_L73 n a1 a2 a3 a4 v10 h))))
def fX12_sumsBut_L44 : Nat → Int32 → Int32 → Int32 → Hp → Option ((Int32) × Hp)
  | 0, _, _, _, _ => none
  | n + 1, a1, a2, a3, h => br (((1 : Int32) <<< ((gI h 12 0 10) &&& 31)) ≤ a3) (some ((a3), h)) (gd (ib (((256 : Int32) * (a2 + 1)) + a3) 3328) (lb (gJ h 95 0 (ix (((256 : Int32) * (a2 + 1)) + a3))) (fun v9 => bd (fX12_sumsBut_L73 FU a1 a2 a3 v9 0 h) (fun t20 h19 => lb t20.1 (fun v21 => lb t20.2 (fun v22 => gd (ib (((256 : Int32) * a2) + a3) 3328) (lb (sJ h19 95 0 (ix (((256 : Int32) * a2) + a3)) v21) (fun h24 => lb (a3 + 1) (fun v25 => fX12_sumsBut_L44 n a1 a2 v25 h24)))))))))
def fX12_sumsBut_L38 : Nat → Int32 → Int32 → Hp → Option ((Int32) × Hp)
  | 0, _, _, _ => none
  | n + 1, a1, a2, h => br (a2 < 0) (some ((a2), h)) (bd (fX12_sumsBut_L44 FU a1 a2 0 h) (fun v28 h26 => lb (a2 + (-1)) (fun v29 => fX12_sumsBut_L38 n a1 v29 h26)))
def fX12_sumsBut (a1 : Int32) (h : Hp) : Option (Int64 × Hp) := bd (fX12_sumsBut_L2 FU a1 0 h) (fun v6 h4 => lb ((gI h4 12 0 8) - 1) (fun v7 => bd (fX12_sumsBut_L38 FU a1 v7 h4) (fun v32 h30 => some (gJ h30 95 0 (ix 0), h30))))
set_option maxRecDepth 20000 in
theorem tX12_sumsBut_L2 {X : Cz} {h0 : Hp} {r : Option AV} {hE : Hp} : ∀ (n : Nat) (a1 : Int32) (a2 : Int32) (h : Hp) (z : (Int32) × Hp), fX12_sumsBut_L2 n a1 a2 h = some z → V X mX12_sumsBut true h0 31 [(0, zr 12 0), (1, zi a1), (2, zi z.1)] [] z.2 r hE → V X mX12_sumsBut true h0 2 [(0, zr 12 0), (1, zi a1), (2, zi a2)] [] h r hE := by
  intro n
  induction n with
  | zero => intro a1 a2 h z hF k; cases hF
  | succ n ih =>
    intro a1 a2 h z hF k
    rw [fX12_sumsBut_L2] at hF
    refine v_iload_n (j := 2) dX12_sumsBut_2 rfl ?_
    refine v_sipush (v := 256) dX12_sumsBut_3 (by decide) ?_
    refine v_icmp_ge dX12_sumsBut_6 (by decide : _ = ((31 : Nat) : Int)) (fun q => ?_) (fun q => ?_)
    · replace hF := brT q hF
      cases hF
      exact k
    · replace hF := brF q hF
      refine v_aload_n (j := 0) dX12_sumsBut_9 rfl ?_
      refine v_getL (c := 12) rfl rfl rfl ly12_55 cz12 flX12_151 dX12_sumsBut_10 ?_
      refine v_sipush (v := 256) dX12_sumsBut_13 (by decide) ?_
      refine v_aload_n (j := 0) dX12_sumsBut_16 rfl ?_
      refine v_getI (c := 12) rfl (Or.inl rfl) cz12 flX12_295 dX12_sumsBut_17 ?_
      refine v_imul dX12_sumsBut_20 ?_
      refine v_iload_n (j := 2) dX12_sumsBut_21 rfl ?_
      refine v_iadd dX12_sumsBut_22 ?_
      refine v_lconst (v := 0) dX12_sumsBut_23 (by decide) ?_
      replace hF := gd_use hF
      obtain ⟨q1, hF⟩ := hF
      refine v_last rfl q1 dX12_sumsBut_24 ?_
      refine v_toph fun h2 eh2 => ?_
      replace hF := lb_use eh2 hF
      clear eh2
      obtain ⟨v3, ev3⟩ : ∃ y : Int32, y = a2 + 1 := ⟨_, rfl⟩
      replace hF := lb_use ev3 hF
      refine v_iinc (j := 2) (v := v3) (ls' := [(2, zi v3), (0, zr 12 0), (1, zi a1)]) dX12_sumsBut_25 rfl (by rw [ev3]; rfl) (by decide) rfl ?_
      clear ev3
      refine v_goto (tgt := 2) dX12_sumsBut_28 (by decide) ?_
      refine v_sub [1, 2, 0] rfl ?_
      exact ih a1 v3 h2 _ hF k
set_option maxRecDepth 20000 in
theorem tX12_sumsBut_L73 {X : Cz} {h0 : Hp} {r : Option AV} {hE : Hp} : ∀ (n : Nat) (a1 : Int32) (a2 : Int32) (a3 : Int32) (a4 : Int64) (a6 : Int32) (h : Hp) (z : (Int64 × Int32) × Hp), fX12_sumsBut_L73 n a1 a2 a3 a4 a6 h = some z → V X mX12_sumsBut true h0 148 [(0, zr 12 0), (1, zi a1), (2, zi a2), (3, zi a3), (4, zj z.1.1), (6, zi z.1.2)] [] z.2 r hE → V X mX12_sumsBut true h0 73 [(0, zr 12 0), (1, zi a1), (2, zi a2), (3, zi a3), (4, zj a4), (6, zi a6)] [] h r hE := by
  intro n
  induction n with
  | zero => intro a1 a2 a3 a4 a6 h z hF k; cases hF
  | succ n ih =>
    intro a1 a2 a3 a4 a6 h z hF k
    rw [fX12_sumsBut_L73] at hF
    refine v_iload (j := 5) dX12_sumsBut_73 rfl ?_
    refine v_aload_n (j := 0) dX12_sumsBut_75 rfl ?_
    refine v_getI (c := 12) rfl (Or.inl rfl) cz12 flX12_358 dX12_sumsBut_76 ?_
    refine v_icmp_ge dX12_sumsBut_79 (by decide : _ = ((148 : Nat) : Int)) (fun q => ?_) (fun q => ?_)
    · replace hF := brT q hF
      cases hF
      exact k
    · replace hF := brF q hF
      refine v_iload_n (j := 2) dX12_sumsBut_82 rfl ?_
      refine v_iload_n (j := 1) dX12_sumsBut_83 rfl ?_
      refine v_icmp_eq dX12_sumsBut_84 (by decide : _ = ((148 : Nat) : Int)) (fun q => ?_) (fun q => ?_)
      · replace hF := brT q hF
        cases hF
        exact k
      · replace hF := brF q hF
        refine v_iload_n (j := 3) dX12_sumsBut_87 rfl ?_
        refine v_iload (j := 5) dX12_sumsBut_88 rfl ?_
        refine v_ishr dX12_sumsBut_90 ?_
        refine v_iconst (v := 1) dX12_sumsBut_91 (by decide) ?_
        refine v_iand dX12_sumsBut_92 ?_
        refine v_if_ne dX12_sumsBut_93 (by decide : _ = ((142 : Nat) : Int)) (fun q => ?_) (fun q => ?_)
        · replace hF := brF q hF
          obtain ⟨v10, ev10⟩ : ∃ y : Int32, y = a6 + 1 := ⟨_, rfl⟩
          replace hF := lb_use ev10 hF
          refine v_iinc (j := 5) (v := v10) (ls' := [(6, zi v10), (0, zr 12 0), (1, zi a1), (2, zi a2), (3, zi a3), (4, zj a4)]) dX12_sumsBut_142 rfl (by rw [ev10]; rfl) (by decide) rfl ?_
          clear ev10
          refine v_goto (tgt := 73) dX12_sumsBut_145 (by decide) ?_
          refine v_sub [1, 2, 3, 4, 5, 0] rfl ?_
          exact ih a1 a2 a3 a4 v10 h _ hF k
        · replace hF := brT (Decidable.not_not.mp q) hF
          refine v_aload_n (j := 0) dX12_sumsBut_96 rfl ?_
          refine v_iload (j := 5) dX12_sumsBut_97 rfl ?_
          refine v_iload_n (j := 2) dX12_sumsBut_99 rfl ?_
          replace hF := bd_use hF
          obtain ⟨r11, h12, er11, hF⟩ := hF
          refine v_cV (hm := h12) (av := [zi a6, zi a2]) (st := []) (stn := [zj r11]) (tX12_offered er11) lcX12_offered mlX12_363 imX12_offered seX12_offered rfl rfl rfl rfl ⟨by decide, by decide⟩ (Nat.le_of_ble_eq_true rfl) dX12_sumsBut_100 rfl rfl ?_
          clear er11
          refine v_lconst (v := 0) dX12_sumsBut_103 (by decide) ?_
          refine v_lif_le (x := r11) (y := (0 : Int64)) dX12_sumsBut_104 dX12_sumsBut_105 (by decide : _ = ((142 : Nat) : Int)) (fun q => ?_) (fun q => ?_)
          · replace hF := brT q hF
            obtain ⟨v13, ev13⟩ : ∃ y : Int32, y = a6 + 1 := ⟨_, rfl⟩
            replace hF := lb_use ev13 hF
            refine v_iinc (j := 5) (v := v13) (ls' := [(6, zi v13), (0, zr 12 0), (1, zi a1), (2, zi a2), (3, zi a3), (4, zj a4)]) dX12_sumsBut_142 rfl (by rw [ev13]; rfl) (by decide) rfl ?_
            clear ev13
            refine v_goto (tgt := 73) dX12_sumsBut_145 (by decide) ?_
            refine v_sub [1, 2, 3, 4, 5, 0] rfl ?_
            exact ih a1 a2 a3 a4 v13 h12 _ hF k
          · replace hF := brF q hF
            refine v_lload (j := 4) dX12_sumsBut_108 rfl ?_
            refine v_aload_n (j := 0) dX12_sumsBut_110 rfl ?_
            refine v_iload (j := 5) dX12_sumsBut_111 rfl ?_
            refine v_iload_n (j := 2) dX12_sumsBut_113 rfl ?_
            replace hF := bd_use hF
            obtain ⟨r14, h15, er14, hF⟩ := hF
            refine v_cV (hm := h15) (av := [zi a6, zi a2]) (st := [zj a4]) (stn := [zj r14, zj a4]) (tX12_offered er14) lcX12_offered mlX12_363 imX12_offered seX12_offered rfl rfl rfl rfl ⟨by decide, by decide⟩ (Nat.le_of_ble_eq_true rfl) dX12_sumsBut_114 rfl rfl ?_
            clear er14
            refine v_aload_n (j := 0) dX12_sumsBut_117 rfl ?_
            refine v_getL (c := 12) rfl rfl rfl ly12_55 cz12 flX12_151 dX12_sumsBut_118 ?_
            refine v_sipush (v := 256) dX12_sumsBut_121 (by decide) ?_
            refine v_iload_n (j := 2) dX12_sumsBut_124 rfl ?_
            refine v_iconst (v := 1) dX12_sumsBut_125 (by decide) ?_
            refine v_iadd dX12_sumsBut_126 ?_
            refine v_imul dX12_sumsBut_127 ?_
            refine v_iload_n (j := 3) dX12_sumsBut_128 rfl ?_
            refine v_iconst (v := 1) dX12_sumsBut_129 (by decide) ?_
            refine v_iload (j := 5) dX12_sumsBut_130 rfl ?_
            refine v_ishl dX12_sumsBut_132 ?_
            refine v_ior dX12_sumsBut_133 ?_
            refine v_iadd dX12_sumsBut_134 ?_
            replace hF := gd_use hF
            obtain ⟨q16, hF⟩ := hF
            refine v_lald rfl q16 dX12_sumsBut_135 ?_
            refine v_ladd dX12_sumsBut_136 ?_
            refine v_J9_max_f86c9 mlX12_367 (by decide) (Nat.le_of_ble_eq_true rfl) dX12_sumsBut_137 ?_
            refine v_topj fun v17 ev17 => ?_
            replace hF := lb_use ev17 hF
            clear ev17
            refine v_lstore (ls' := [(4, zj v17), (0, zr 12 0), (1, zi a1), (2, zi a2), (3, zi a3), (6, zi a6)]) dX12_sumsBut_140 (by decide) rfl ?_
            obtain ⟨v18, ev18⟩ : ∃ y : Int32, y = a6 + 1 := ⟨_, rfl⟩
            replace hF := lb_use ev18 hF
            refine v_iinc (j := 5) (v := v18) (ls' := [(6, zi v18), (4, zj v17), (0, zr 12 0), (1, zi a1), (2, zi a2), (3, zi a3)]) dX12_sumsBut_142 rfl (by rw [ev18]; rfl) (by decide) rfl ?_
            clear ev18
            refine v_goto (tgt := 73) dX12_sumsBut_145 (by decide) ?_
            refine v_sub [2, 3, 4, 5, 1, 0] rfl ?_
            exact ih a1 a2 a3 v17 v18 h15 _ hF k
set_option maxRecDepth 20000 in
theorem tX12_sumsBut_L44 {X : Cz} {h0 : Hp} {r : Option AV} {hE : Hp} : ∀ (n : Nat) (a1 : Int32) (a2 : Int32) (a3 : Int32) (h : Hp) (z : (Int32) × Hp), fX12_sumsBut_L44 n a1 a2 a3 h = some z → V X mX12_sumsBut true h0 168 [(0, zr 12 0), (1, zi a1), (2, zi a2), (3, zi z.1)] [] z.2 r hE → V X mX12_sumsBut true h0 44 [(0, zr 12 0), (1, zi a1), (2, zi a2), (3, zi a3)] [] h r hE := by
  intro n
  induction n with
  | zero => intro a1 a2 a3 h z hF k; cases hF
  | succ n ih =>
    intro a1 a2 a3 h z hF k
    rw [fX12_sumsBut_L44] at hF
    refine v_iload_n (j := 3) dX12_sumsBut_44 rfl ?_
    refine v_iconst (v := 1) dX12_sumsBut_45 (by decide) ?_
    refine v_aload_n (j := 0) dX12_sumsBut_46 rfl ?_
    refine v_getI (c := 12) rfl (Or.inl rfl) cz12 flX12_358 dX12_sumsBut_47 ?_
    refine v_ishl dX12_sumsBut_50 ?_
    refine v_icmp_ge dX12_sumsBut_51 (by decide : _ = ((168 : Nat) : Int)) (fun q => ?_) (fun q => ?_)
    · replace hF := brT q hF
      cases hF
      exact k
    · replace hF := brF q hF
      refine v_aload_n (j := 0) dX12_sumsBut_54 rfl ?_
      refine v_getL (c := 12) rfl rfl rfl ly12_55 cz12 flX12_151 dX12_sumsBut_55 ?_
      refine v_sipush (v := 256) dX12_sumsBut_58 (by decide) ?_
      refine v_iload_n (j := 2) dX12_sumsBut_61 rfl ?_
      refine v_iconst (v := 1) dX12_sumsBut_62 (by decide) ?_
      refine v_iadd dX12_sumsBut_63 ?_
      refine v_imul dX12_sumsBut_64 ?_
      refine v_iload_n (j := 3) dX12_sumsBut_65 rfl ?_
      refine v_iadd dX12_sumsBut_66 ?_
      replace hF := gd_use hF
      obtain ⟨q8, hF⟩ := hF
      refine v_lald rfl q8 dX12_sumsBut_67 ?_
      refine v_topj fun v9 ev9 => ?_
      replace hF := lb_use ev9 hF
      clear ev9
      refine v_lstore (ls' := [(4, zj v9), (0, zr 12 0), (1, zi a1), (2, zi a2), (3, zi a3)]) dX12_sumsBut_68 (by decide) rfl ?_
      refine v_iconst (v := 0) dX12_sumsBut_70 (by decide) ?_
      refine v_istore (ls' := [(6, zi 0), (4, zj v9), (0, zr 12 0), (1, zi a1), (2, zi a2), (3, zi a3)]) dX12_sumsBut_71 (by decide) rfl ?_
      refine v_sub [2, 3, 4, 5, 1, 0] rfl ?_
      replace hF := bd_use hF
      obtain ⟨t20, h19, et20, hF⟩ := hF
      refine tX12_sumsBut_L73 _ a1 a2 a3 v9 0 h _ et20 ?_
      clear et20
      obtain ⟨v21, v22⟩ := t20
      replace hF := lb_use (x := v21) rfl hF
      replace hF := lb_use (x := v22) rfl hF
      refine v_aload_n (j := 0) dX12_sumsBut_148 rfl ?_
      refine v_getL (c := 12) rfl rfl rfl ly12_55 cz12 flX12_151 dX12_sumsBut_149 ?_
      refine v_sipush (v := 256) dX12_sumsBut_152 (by decide) ?_
      refine v_iload_n (j := 2) dX12_sumsBut_155 rfl ?_
      refine v_imul dX12_sumsBut_156 ?_
      refine v_iload_n (j := 3) dX12_sumsBut_157 rfl ?_
      refine v_iadd dX12_sumsBut_158 ?_
      refine v_lload (j := 4) dX12_sumsBut_159 rfl ?_
      replace hF := gd_use hF
      obtain ⟨q23, hF⟩ := hF
      refine v_last rfl q23 dX12_sumsBut_161 ?_
      refine v_toph fun h24 eh24 => ?_
      replace hF := lb_use eh24 hF
      clear eh24
      obtain ⟨v25, ev25⟩ : ∃ y : Int32, y = a3 + 1 := ⟨_, rfl⟩
      replace hF := lb_use ev25 hF
      refine v_iinc (j := 3) (v := v25) (ls' := [(3, zi v25), (0, zr 12 0), (1, zi a1), (2, zi a2), (4, zj v21), (6, zi v22)]) dX12_sumsBut_162 rfl (by rw [ev25]; rfl) (by decide) rfl ?_
      clear ev25
      refine v_goto (tgt := 44) dX12_sumsBut_165 (by decide) ?_
      refine v_sub [1, 2, 3, 0] rfl ?_
      exact ih a1 a2 v25 h24 _ hF k
set_option maxRecDepth 20000 in
theorem tX12_sumsBut_L38 {X : Cz} {h0 : Hp} {r : Option AV} {hE : Hp} : ∀ (n : Nat) (a1 : Int32) (a2 : Int32) (h : Hp) (z : (Int32) × Hp), fX12_sumsBut_L38 n a1 a2 h = some z → V X mX12_sumsBut true h0 174 [(0, zr 12 0), (1, zi a1), (2, zi z.1)] [] z.2 r hE → V X mX12_sumsBut true h0 38 [(0, zr 12 0), (1, zi a1), (2, zi a2)] [] h r hE := by
  intro n
  induction n with
  | zero => intro a1 a2 h z hF k; cases hF
  | succ n ih =>
    intro a1 a2 h z hF k
    rw [fX12_sumsBut_L38] at hF
    refine v_iload_n (j := 2) dX12_sumsBut_38 rfl ?_
    refine v_if_lt dX12_sumsBut_39 (by decide : _ = ((174 : Nat) : Int)) (fun q => ?_) (fun q => ?_)
    · replace hF := brT q hF
      cases hF
      exact k
    · replace hF := brF q hF
      refine v_iconst (v := 0) dX12_sumsBut_42 (by decide) ?_
      refine v_istore_n (ls' := [(3, zi 0), (0, zr 12 0), (1, zi a1), (2, zi a2)]) dX12_sumsBut_43 (by decide) rfl ?_
      refine v_sub [1, 2, 3, 0] rfl ?_
      replace hF := bd_use hF
      obtain ⟨v28, h26, ev28, hF⟩ := hF
      refine tX12_sumsBut_L44 _ a1 a2 0 h _ ev28 ?_
      clear ev28
      obtain ⟨v29, ev29⟩ : ∃ y : Int32, y = a2 + (-1) := ⟨_, rfl⟩
      replace hF := lb_use ev29 hF
      refine v_iinc (j := 2) (v := v29) (ls' := [(2, zi v29), (0, zr 12 0), (1, zi a1), (3, zi v28)]) dX12_sumsBut_168 rfl (by rw [ev29]; rfl) (by decide) rfl ?_
      clear ev29
      refine v_goto (tgt := 38) dX12_sumsBut_171 (by decide) ?_
      refine v_sub [1, 2, 0] rfl ?_
      exact ih a1 v29 h26 _ hF k
set_option maxRecDepth 20000 in
theorem tX12_sumsBut {X : Cz} {a1 : Int32} {h hE : Hp} {rE : Int64} (hF : fX12_sumsBut a1 h = some (rE, hE)) : Ct X mX12_sumsBut true [zr 12 0, zi a1] h (some (zj rE)) hE := by
  refine Ct_of (by decide) (Nat.le_of_ble_eq_true rfl) (ls := [(0, zr 12 0), (1, zi a1)]) rfl ?_
  unfold fX12_sumsBut at hF
  refine v_iconst (v := 0) dX12_sumsBut_0 (by decide) ?_
  refine v_istore_n (ls' := [(2, zi 0), (0, zr 12 0), (1, zi a1)]) dX12_sumsBut_1 (by decide) rfl ?_
  refine v_sub [1, 2, 0] rfl ?_
  replace hF := bd_use hF
  obtain ⟨v6, h4, ev6, hF⟩ := hF
  refine tX12_sumsBut_L2 _ a1 0 h _ ev6 ?_
  clear ev6
  refine v_aload_n (j := 0) dX12_sumsBut_31 rfl ?_
  refine v_getI (c := 12) rfl (Or.inl rfl) cz12 flX12_295 dX12_sumsBut_32 ?_
  refine v_iconst (v := 1) dX12_sumsBut_35 (by decide) ?_
  refine v_isub dX12_sumsBut_36 ?_
  refine v_topi fun v7 ev7 => ?_
  replace hF := lb_use ev7 hF
  clear ev7
  refine v_istore_n (ls' := [(2, zi v7), (0, zr 12 0), (1, zi a1)]) dX12_sumsBut_37 (by decide) rfl ?_
  refine v_sub [1, 2, 0] rfl ?_
  replace hF := bd_use hF
  obtain ⟨v32, h30, ev32, hF⟩ := hF
  refine tX12_sumsBut_L38 _ a1 v7 h4 _ ev32 ?_
  clear ev32
  refine v_aload_n (j := 0) dX12_sumsBut_174 rfl ?_
  refine v_getL (c := 12) rfl rfl rfl ly12_55 cz12 flX12_151 dX12_sumsBut_175 ?_
  refine v_iconst (v := 0) dX12_sumsBut_178 (by decide) ?_
  refine v_lald rfl (by decide) dX12_sumsBut_179 ?_
  obtain ⟨rfl, rfl⟩ := ret_use hF
  exact v_lret rfl dX12_sumsBut_180
theorem dX12_knock_0 : decode cX12_knock 0 = .ok (.aload_n 0, 1) := by decide +kernel
theorem dX12_knock_1 : decode cX12_knock 1 = .ok (.iconst 0, 1) := by decide +kernel
theorem dX12_knock_2 : decode cX12_knock 2 = .ok (.putfield 208, 3) := by decide +kernel
theorem dX12_knock_5 : decode cX12_knock 5 = .ok (.aload_n 0, 1) := by decide +kernel
theorem dX12_knock_6 : decode cX12_knock 6 = .ok (.getfield 358, 3) := by decide +kernel
theorem dX12_knock_9 : decode cX12_knock 9 = .ok (.ifCond .ne 7, 3) := by decide +kernel
theorem dX12_knock_12 : decode cX12_knock 12 = .ok (.ldc2_w 370, 3) := by decide +kernel
theorem dX12_knock_15 : decode cX12_knock 15 = .ok (.lreturn, 1) := by decide +kernel
theorem dX12_knock_16 : decode cX12_knock 16 = .ok (.aload_n 0, 1) := by decide +kernel
theorem dX12_knock_17 : decode cX12_knock 17 = .ok (.iconst (-1), 1) := by decide +kernel
theorem dX12_knock_18 : decode cX12_knock 18 = .ok (.invokevirtual 372, 3) := by decide +kernel
theorem dX12_knock_21 : decode cX12_knock 21 = .ok (.lstore_n 1, 1) := by decide +kernel
theorem dX12_knock_22 : decode cX12_knock 22 = .ok (.iconst 0, 1) := by decide +kernel
theorem dX12_knock_23 : decode cX12_knock 23 = .ok (.istore_n 3, 1) := by decide +kernel
theorem dX12_knock_24 : decode cX12_knock 24 = .ok (.iconst 0, 1) := by decide +kernel
theorem dX12_knock_25 : decode cX12_knock 25 = .ok (.istore 4, 2) := by decide +kernel
theorem dX12_knock_27 : decode cX12_knock 27 = .ok (.iconst 0, 1) := by decide +kernel
theorem dX12_knock_28 : decode cX12_knock 28 = .ok (.istore 5, 2) := by decide +kernel
theorem dX12_knock_30 : decode cX12_knock 30 = .ok (.iload 5, 2) := by decide +kernel
theorem dX12_knock_32 : decode cX12_knock 32 = .ok (.aload_n 0, 1) := by decide +kernel
theorem dX12_knock_33 : decode cX12_knock 33 = .ok (.getfield 295, 3) := by decide +kernel
theorem dX12_knock_36 : decode cX12_knock 36 = .ok (.if_icmp .ge 152, 3) := by decide +kernel
theorem dX12_knock_39 : decode cX12_knock 39 = .ok (.aload_n 0, 1) := by decide +kernel
theorem dX12_knock_40 : decode cX12_knock 40 = .ok (.getfield 157, 3) := by decide +kernel
theorem dX12_knock_43 : decode cX12_knock 43 = .ok (.iload 5, 2) := by decide +kernel
theorem dX12_knock_45 : decode cX12_knock 45 = .ok (.iconst (-1), 1) := by decide +kernel
theorem dX12_knock_46 : decode cX12_knock 46 = .ok (.iastore, 1) := by decide +kernel
theorem dX12_knock_47 : decode cX12_knock 47 = .ok (.iconst 0, 1) := by decide +kernel
theorem dX12_knock_48 : decode cX12_knock 48 = .ok (.istore 6, 2) := by decide +kernel
theorem dX12_knock_50 : decode cX12_knock 50 = .ok (.iload 6, 2) := by decide +kernel
theorem dX12_knock_52 : decode cX12_knock 52 = .ok (.aload_n 0, 1) := by decide +kernel
theorem dX12_knock_53 : decode cX12_knock 53 = .ok (.getfield 358, 3) := by decide +kernel
theorem dX12_knock_56 : decode cX12_knock 56 = .ok (.if_icmp .ge 97, 3) := by decide +kernel
theorem dX12_knock_59 : decode cX12_knock 59 = .ok (.aload_n 0, 1) := by decide +kernel
theorem dX12_knock_60 : decode cX12_knock 60 = .ok (.getfield 157, 3) := by decide +kernel
theorem dX12_knock_63 : decode cX12_knock 63 = .ok (.iload 5, 2) := by decide +kernel
theorem dX12_knock_65 : decode cX12_knock 65 = .ok (.iaload, 1) := by decide +kernel
theorem dX12_knock_66 : decode cX12_knock 66 = .ok (.iconst (-1), 1) := by decide +kernel
theorem dX12_knock_67 : decode cX12_knock 67 = .ok (.if_icmp .ne 86, 3) := by decide +kernel
theorem dX12_knock_70 : decode cX12_knock 70 = .ok (.iload_n 3, 1) := by decide +kernel
theorem dX12_knock_71 : decode cX12_knock 71 = .ok (.iload 6, 2) := by decide +kernel
theorem dX12_knock_73 : decode cX12_knock 73 = .ok (.ishr, 1) := by decide +kernel
theorem dX12_knock_74 : decode cX12_knock 74 = .ok (.iconst 1, 1) := by decide +kernel
theorem dX12_knock_75 : decode cX12_knock 75 = .ok (.iand, 1) := by decide +kernel
theorem dX12_knock_76 : decode cX12_knock 76 = .ok (.ifCond .ne 71, 3) := by decide +kernel
theorem dX12_knock_79 : decode cX12_knock 79 = .ok (.aload_n 0, 1) := by decide +kernel
theorem dX12_knock_80 : decode cX12_knock 80 = .ok (.iload 6, 2) := by decide +kernel
theorem dX12_knock_82 : decode cX12_knock 82 = .ok (.iload 5, 2) := by decide +kernel
theorem dX12_knock_84 : decode cX12_knock 84 = .ok (.invokevirtual 363, 3) := by decide +kernel
theorem dX12_knock_87 : decode cX12_knock 87 = .ok (.lconst 0, 1) := by decide +kernel
theorem dX12_knock_88 : decode cX12_knock 88 = .ok (.lcmp, 1) := by decide +kernel
theorem dX12_knock_89 : decode cX12_knock 89 = .ok (.ifCond .le 58, 3) := by decide +kernel
theorem dX12_knock_92 : decode cX12_knock 92 = .ok (.aload_n 0, 1) := by decide +kernel
theorem dX12_knock_93 : decode cX12_knock 93 = .ok (.iload 6, 2) := by decide +kernel
theorem dX12_knock_95 : decode cX12_knock 95 = .ok (.iload 5, 2) := by decide +kernel
theorem dX12_knock_97 : decode cX12_knock 97 = .ok (.invokevirtual 363, 3) := by decide +kernel
theorem dX12_knock_100 : decode cX12_knock 100 = .ok (.aload_n 0, 1) := by decide +kernel
theorem dX12_knock_101 : decode cX12_knock 101 = .ok (.getfield 151, 3) := by decide +kernel
theorem dX12_knock_104 : decode cX12_knock 104 = .ok (.sipush 256, 3) := by decide +kernel
theorem dX12_knock_107 : decode cX12_knock 107 = .ok (.iload 5, 2) := by decide +kernel
theorem dX12_knock_109 : decode cX12_knock 109 = .ok (.iconst 1, 1) := by decide +kernel
theorem dX12_knock_110 : decode cX12_knock 110 = .ok (.iadd, 1) := by decide +kernel
theorem dX12_knock_111 : decode cX12_knock 111 = .ok (.imul, 1) := by decide +kernel
theorem dX12_knock_112 : decode cX12_knock 112 = .ok (.iload_n 3, 1) := by decide +kernel
theorem dX12_knock_113 : decode cX12_knock 113 = .ok (.iconst 1, 1) := by decide +kernel
theorem dX12_knock_114 : decode cX12_knock 114 = .ok (.iload 6, 2) := by decide +kernel
theorem dX12_knock_116 : decode cX12_knock 116 = .ok (.ishl, 1) := by decide +kernel
theorem dX12_knock_117 : decode cX12_knock 117 = .ok (.ior, 1) := by decide +kernel
theorem dX12_knock_118 : decode cX12_knock 118 = .ok (.iadd, 1) := by decide +kernel
theorem dX12_knock_119 : decode cX12_knock 119 = .ok (.laload, 1) := by decide +kernel
theorem dX12_knock_120 : decode cX12_knock 120 = .ok (.ladd, 1) := by decide +kernel
theorem dX12_knock_121 : decode cX12_knock 121 = .ok (.aload_n 0, 1) := by decide +kernel
theorem dX12_knock_122 : decode cX12_knock 122 = .ok (.getfield 151, 3) := by decide +kernel
theorem dX12_knock_125 : decode cX12_knock 125 = .ok (.sipush 256, 3) := by decide +kernel
theorem dX12_knock_128 : decode cX12_knock 128 = .ok (.iload 5, 2) := by decide +kernel
theorem dX12_knock_130 : decode cX12_knock 130 = .ok (.imul, 1) := by decide +kernel
theorem dX12_knock_131 : decode cX12_knock 131 = .ok (.iload_n 3, 1) := by decide +kernel
theorem dX12_knock_132 : decode cX12_knock 132 = .ok (.iadd, 1) := by decide +kernel
theorem dX12_knock_133 : decode cX12_knock 133 = .ok (.laload, 1) := by decide +kernel
theorem dX12_knock_134 : decode cX12_knock 134 = .ok (.lcmp, 1) := by decide +kernel
theorem dX12_knock_135 : decode cX12_knock 135 = .ok (.ifCond .ne 12, 3) := by decide +kernel
theorem dX12_knock_138 : decode cX12_knock 138 = .ok (.aload_n 0, 1) := by decide +kernel
theorem dX12_knock_139 : decode cX12_knock 139 = .ok (.getfield 157, 3) := by decide +kernel
theorem dX12_knock_142 : decode cX12_knock 142 = .ok (.iload 5, 2) := by decide +kernel
theorem dX12_knock_144 : decode cX12_knock 144 = .ok (.iload 6, 2) := by decide +kernel
theorem dX12_knock_146 : decode cX12_knock 146 = .ok (.iastore, 1) := by decide +kernel
theorem dX12_knock_147 : decode cX12_knock 147 = .ok (.iinc 6 1, 3) := by decide +kernel
theorem dX12_knock_150 : decode cX12_knock 150 = .ok (.goto (-100), 3) := by decide +kernel
theorem dX12_knock_153 : decode cX12_knock 153 = .ok (.aload_n 0, 1) := by decide +kernel
theorem dX12_knock_154 : decode cX12_knock 154 = .ok (.getfield 157, 3) := by decide +kernel
theorem dX12_knock_157 : decode cX12_knock 157 = .ok (.iload 5, 2) := by decide +kernel
theorem dX12_knock_159 : decode cX12_knock 159 = .ok (.iaload, 1) := by decide +kernel
theorem dX12_knock_160 : decode cX12_knock 160 = .ok (.iconst (-1), 1) := by decide +kernel
theorem dX12_knock_161 : decode cX12_knock 161 = .ok (.if_icmp .ne 6, 3) := by decide +kernel
theorem dX12_knock_164 : decode cX12_knock 164 = .ok (.goto 18, 3) := by decide +kernel
theorem dX12_knock_167 : decode cX12_knock 167 = .ok (.iload_n 3, 1) := by decide +kernel
theorem dX12_knock_168 : decode cX12_knock 168 = .ok (.iconst 1, 1) := by decide +kernel
theorem dX12_knock_169 : decode cX12_knock 169 = .ok (.aload_n 0, 1) := by decide +kernel
theorem dX12_knock_170 : decode cX12_knock 170 = .ok (.getfield 157, 3) := by decide +kernel
theorem dX12_knock_173 : decode cX12_knock 173 = .ok (.iload 5, 2) := by decide +kernel
theorem dX12_knock_175 : decode cX12_knock 175 = .ok (.iaload, 1) := by decide +kernel
theorem dX12_knock_176 : decode cX12_knock 176 = .ok (.ishl, 1) := by decide +kernel
theorem dX12_knock_177 : decode cX12_knock 177 = .ok (.ior, 1) := by decide +kernel
theorem dX12_knock_178 : decode cX12_knock 178 = .ok (.istore_n 3, 1) := by decide +kernel
theorem dX12_knock_179 : decode cX12_knock 179 = .ok (.iinc 4 1, 3) := by decide +kernel
theorem dX12_knock_182 : decode cX12_knock 182 = .ok (.iinc 5 1, 3) := by decide +kernel
theorem dX12_knock_185 : decode cX12_knock 185 = .ok (.goto (-155), 3) := by decide +kernel
theorem dX12_knock_188 : decode cX12_knock 188 = .ok (.aload_n 0, 1) := by decide +kernel
theorem dX12_knock_189 : decode cX12_knock 189 = .ok (.getfield 316, 3) := by decide +kernel
theorem dX12_knock_192 : decode cX12_knock 192 = .ok (.iload 4, 2) := by decide +kernel
theorem dX12_knock_194 : decode cX12_knock 194 = .ok (.iadd, 1) := by decide +kernel
theorem dX12_knock_195 : decode cX12_knock 195 = .ok (.bipush 100, 2) := by decide +kernel
theorem dX12_knock_197 : decode cX12_knock 197 = .ok (.if_icmp .le 7, 3) := by decide +kernel
theorem dX12_knock_200 : decode cX12_knock 200 = .ok (.ldc2_w 376, 3) := by decide +kernel
theorem dX12_knock_203 : decode cX12_knock 203 = .ok (.lreturn, 1) := by decide +kernel
theorem dX12_knock_204 : decode cX12_knock 204 = .ok (.lconst 0, 1) := by decide +kernel
theorem dX12_knock_205 : decode cX12_knock 205 = .ok (.lstore 5, 2) := by decide +kernel
theorem dX12_knock_207 : decode cX12_knock 207 = .ok (.iconst 0, 1) := by decide +kernel
theorem dX12_knock_208 : decode cX12_knock 208 = .ok (.istore 7, 2) := by decide +kernel
theorem dX12_knock_210 : decode cX12_knock 210 = .ok (.iload 7, 2) := by decide +kernel
theorem dX12_knock_212 : decode cX12_knock 212 = .ok (.aload_n 0, 1) := by decide +kernel
theorem dX12_knock_213 : decode cX12_knock 213 = .ok (.getfield 295, 3) := by decide +kernel
theorem dX12_knock_216 : decode cX12_knock 216 = .ok (.if_icmp .ge 156, 3) := by decide +kernel
theorem dX12_knock_219 : decode cX12_knock 219 = .ok (.aload_n 0, 1) := by decide +kernel
theorem dX12_knock_220 : decode cX12_knock 220 = .ok (.getfield 154, 3) := by decide +kernel
theorem dX12_knock_223 : decode cX12_knock 223 = .ok (.iload 7, 2) := by decide +kernel
theorem dX12_knock_225 : decode cX12_knock 225 = .ok (.aload_n 0, 1) := by decide +kernel
theorem dX12_knock_226 : decode cX12_knock 226 = .ok (.getfield 157, 3) := by decide +kernel
theorem dX12_knock_229 : decode cX12_knock 229 = .ok (.iload 7, 2) := by decide +kernel
theorem dX12_knock_231 : decode cX12_knock 231 = .ok (.iaload, 1) := by decide +kernel
theorem dX12_knock_232 : decode cX12_knock 232 = .ok (.iastore, 1) := by decide +kernel
theorem dX12_knock_233 : decode cX12_knock 233 = .ok (.aload_n 0, 1) := by decide +kernel
theorem dX12_knock_234 : decode cX12_knock 234 = .ok (.getfield 160, 3) := by decide +kernel
theorem dX12_knock_237 : decode cX12_knock 237 = .ok (.iload 7, 2) := by decide +kernel
theorem dX12_knock_239 : decode cX12_knock 239 = .ok (.lconst 0, 1) := by decide +kernel
theorem dX12_knock_240 : decode cX12_knock 240 = .ok (.lastore, 1) := by decide +kernel
theorem dX12_knock_241 : decode cX12_knock 241 = .ok (.aload_n 0, 1) := by decide +kernel
theorem dX12_knock_242 : decode cX12_knock 242 = .ok (.getfield 157, 3) := by decide +kernel
theorem dX12_knock_245 : decode cX12_knock 245 = .ok (.iload 7, 2) := by decide +kernel
theorem dX12_knock_247 : decode cX12_knock 247 = .ok (.iaload, 1) := by decide +kernel
theorem dX12_knock_248 : decode cX12_knock 248 = .ok (.iconst (-1), 1) := by decide +kernel
theorem dX12_knock_249 : decode cX12_knock 249 = .ok (.if_icmp .ne 6, 3) := by decide +kernel
theorem dX12_knock_252 : decode cX12_knock 252 = .ok (.goto 114, 3) := by decide +kernel
theorem dX12_knock_255 : decode cX12_knock 255 = .ok (.aload_n 0, 1) := by decide +kernel
theorem dX12_knock_256 : decode cX12_knock 256 = .ok (.getfield 157, 3) := by decide +kernel
theorem dX12_knock_259 : decode cX12_knock 259 = .ok (.iload 7, 2) := by decide +kernel
theorem dX12_knock_261 : decode cX12_knock 261 = .ok (.iaload, 1) := by decide +kernel
theorem dX12_knock_262 : decode cX12_knock 262 = .ok (.istore 8, 2) := by decide +kernel
theorem dX12_knock_264 : decode cX12_knock 264 = .ok (.aload_n 0, 1) := by decide +kernel
theorem dX12_knock_265 : decode cX12_knock 265 = .ok (.getfield 160, 3) := by decide +kernel
theorem dX12_knock_268 : decode cX12_knock 268 = .ok (.iload 7, 2) := by decide +kernel
theorem dX12_knock_270 : decode cX12_knock 270 = .ok (.aload_n 0, 1) := by decide +kernel
theorem dX12_knock_271 : decode cX12_knock 271 = .ok (.iload 7, 2) := by decide +kernel
theorem dX12_knock_273 : decode cX12_knock 273 = .ok (.invokevirtual 372, 3) := by decide +kernel
theorem dX12_knock_276 : decode cX12_knock 276 = .ok (.lload_n 1, 1) := by decide +kernel
theorem dX12_knock_277 : decode cX12_knock 277 = .ok (.aload_n 0, 1) := by decide +kernel
theorem dX12_knock_278 : decode cX12_knock 278 = .ok (.iload 8, 2) := by decide +kernel
theorem dX12_knock_280 : decode cX12_knock 280 = .ok (.iload 7, 2) := by decide +kernel
theorem dX12_knock_282 : decode cX12_knock 282 = .ok (.invokevirtual 363, 3) := by decide +kernel
theorem dX12_knock_285 : decode cX12_knock 285 = .ok (.lsub, 1) := by decide +kernel
theorem dX12_knock_286 : decode cX12_knock 286 = .ok (.lsub, 1) := by decide +kernel
theorem dX12_knock_287 : decode cX12_knock 287 = .ok (.lastore, 1) := by decide +kernel
theorem dX12_knock_288 : decode cX12_knock 288 = .ok (.lload 5, 2) := by decide +kernel
theorem dX12_knock_290 : decode cX12_knock 290 = .ok (.aload_n 0, 1) := by decide +kernel
theorem dX12_knock_291 : decode cX12_knock 291 = .ok (.getfield 160, 3) := by decide +kernel
theorem dX12_knock_294 : decode cX12_knock 294 = .ok (.iload 7, 2) := by decide +kernel
theorem dX12_knock_296 : decode cX12_knock 296 = .ok (.laload, 1) := by decide +kernel
theorem dX12_knock_297 : decode cX12_knock 297 = .ok (.ladd, 1) := by decide +kernel
theorem dX12_knock_298 : decode cX12_knock 298 = .ok (.lstore 5, 2) := by decide +kernel
theorem dX12_knock_300 : decode cX12_knock 300 = .ok (.aload_n 0, 1) := by decide +kernel
theorem dX12_knock_301 : decode cX12_knock 301 = .ok (.iconst 3, 1) := by decide +kernel
theorem dX12_knock_302 : decode cX12_knock 302 = .ok (.iload 7, 2) := by decide +kernel
theorem dX12_knock_304 : decode cX12_knock 304 = .ok (.aload_n 0, 1) := by decide +kernel
theorem dX12_knock_305 : decode cX12_knock 305 = .ok (.getfield 115, 3) := by decide +kernel
theorem dX12_knock_308 : decode cX12_knock 308 = .ok (.iload 8, 2) := by decide +kernel
theorem dX12_knock_310 : decode cX12_knock 310 = .ok (.iaload, 1) := by decide +kernel
theorem dX12_knock_311 : decode cX12_knock 311 = .ok (.aload_n 0, 1) := by decide +kernel
theorem dX12_knock_312 : decode cX12_knock 312 = .ok (.getfield 118, 3) := by decide +kernel
theorem dX12_knock_315 : decode cX12_knock 315 = .ok (.iload 8, 2) := by decide +kernel
theorem dX12_knock_317 : decode cX12_knock 317 = .ok (.iaload, 1) := by decide +kernel
theorem dX12_knock_318 : decode cX12_knock 318 = .ok (.aload_n 0, 1) := by decide +kernel
theorem dX12_knock_319 : decode cX12_knock 319 = .ok (.getfield 121, 3) := by decide +kernel
theorem dX12_knock_322 : decode cX12_knock 322 = .ok (.iload 8, 2) := by decide +kernel
theorem dX12_knock_324 : decode cX12_knock 324 = .ok (.iaload, 1) := by decide +kernel
theorem dX12_knock_325 : decode cX12_knock 325 = .ok (.aload_n 0, 1) := by decide +kernel
theorem dX12_knock_326 : decode cX12_knock 326 = .ok (.getfield 251, 3) := by decide +kernel
theorem dX12_knock_329 : decode cX12_knock 329 = .ok (.aload_n 0, 1) := by decide +kernel
theorem dX12_knock_330 : decode cX12_knock 330 = .ok (.getfield 251, 3) := by decide +kernel
theorem dX12_knock_333 : decode cX12_knock 333 = .ok (.sipush 199, 3) := by decide +kernel
theorem dX12_knock_336 : decode cX12_knock 336 = .ok (.aload_n 0, 1) := by decide +kernel
theorem dX12_knock_337 : decode cX12_knock 337 = .ok (.getfield 251, 3) := by decide +kernel
theorem dX12_knock_340 : decode cX12_knock 340 = .ok (.aload_n 0, 1) := by decide +kernel
theorem dX12_knock_341 : decode cX12_knock 341 = .ok (.getfield 124, 3) := by decide +kernel
theorem dX12_knock_344 : decode cX12_knock 344 = .ok (.iload 8, 2) := by decide +kernel
theorem dX12_knock_346 : decode cX12_knock 346 = .ok (.iaload, 1) := by decide +kernel
theorem dX12_knock_347 : decode cX12_knock 347 = .ok (.iadd, 1) := by decide +kernel
theorem dX12_knock_348 : decode cX12_knock 348 = .ok (.iconst 1, 1) := by decide +kernel
theorem dX12_knock_349 : decode cX12_knock 349 = .ok (.isub, 1) := by decide +kernel
theorem dX12_knock_350 : decode cX12_knock 350 = .ok (.invokestatic 269, 3) := by decide +kernel
theorem dX12_knock_353 : decode cX12_knock 353 = .ok (.iconst 0, 1) := by decide +kernel
theorem dX12_knock_354 : decode cX12_knock 354 = .ok (.aload_n 0, 1) := by decide +kernel
theorem dX12_knock_355 : decode cX12_knock 355 = .ok (.getfield 160, 3) := by decide +kernel
theorem dX12_knock_358 : decode cX12_knock 358 = .ok (.iload 7, 2) := by decide +kernel
theorem dX12_knock_360 : decode cX12_knock 360 = .ok (.laload, 1) := by decide +kernel
theorem dX12_knock_361 : decode cX12_knock 361 = .ok (.invokevirtual 323, 3) := by decide +kernel
theorem dX12_knock_364 : decode cX12_knock 364 = .ok (.istore 9, 2) := by decide +kernel
theorem dX12_knock_366 : decode cX12_knock 366 = .ok (.iinc 7 1, 3) := by decide +kernel
theorem dX12_knock_369 : decode cX12_knock 369 = .ok (.goto (-159), 3) := by decide +kernel
theorem dX12_knock_372 : decode cX12_knock 372 = .ok (.aload_n 0, 1) := by decide +kernel
theorem dX12_knock_373 : decode cX12_knock 373 = .ok (.dup, 1) := by decide +kernel
theorem dX12_knock_374 : decode cX12_knock 374 = .ok (.getfield 378, 3) := by decide +kernel
theorem dX12_knock_377 : decode cX12_knock 377 = .ok (.lload 5, 2) := by decide +kernel
theorem dX12_knock_379 : decode cX12_knock 379 = .ok (.ladd, 1) := by decide +kernel
theorem dX12_knock_380 : decode cX12_knock 380 = .ok (.putfield 378, 3) := by decide +kernel
theorem dX12_knock_383 : decode cX12_knock 383 = .ok (.aload_n 0, 1) := by decide +kernel
theorem dX12_knock_384 : decode cX12_knock 384 = .ok (.lload_n 1, 1) := by decide +kernel
theorem dX12_knock_385 : decode cX12_knock 385 = .ok (.putfield 382, 3) := by decide +kernel
theorem dX12_knock_388 : decode cX12_knock 388 = .ok (.aload_n 0, 1) := by decide +kernel
theorem dX12_knock_389 : decode cX12_knock 389 = .ok (.aload_n 0, 1) := by decide +kernel
theorem dX12_knock_390 : decode cX12_knock 390 = .ok (.getfield 295, 3) := by decide +kernel
theorem dX12_knock_393 : decode cX12_knock 393 = .ok (.putfield 385, 3) := by decide +kernel
theorem dX12_knock_396 : decode cX12_knock 396 = .ok (.aload_n 0, 1) := by decide +kernel
theorem dX12_knock_397 : decode cX12_knock 397 = .ok (.iconst 1, 1) := by decide +kernel
theorem dX12_knock_398 : decode cX12_knock 398 = .ok (.putfield 388, 3) := by decide +kernel
theorem dX12_knock_401 : decode cX12_knock 401 = .ok (.aload_n 0, 1) := by decide +kernel
theorem dX12_knock_402 : decode cX12_knock 402 = .ok (.iconst 0, 1) := by decide +kernel
theorem dX12_knock_403 : decode cX12_knock 403 = .ok (.putfield 358, 3) := by decide +kernel
theorem dX12_knock_406 : decode cX12_knock 406 = .ok (.lload 5, 2) := by decide +kernel
theorem dX12_knock_408 : decode cX12_knock 408 = .ok (.lreturn, 1) := by decide +kernel
def fX12_knock_L50 : Nat → Int64 → Int32 → Int32 → Int32 → Int32 → Hp → Option ((Int32) × Hp)
  | 0, _, _, _, _, _, _ => none
  | n + 1, a1, a3, a4, a5, a6, h => br ((gI h 12 0 10) ≤ a6) (some ((a6), h)) (gd (ib a5 12) (br ((gI h 97 0 (ix a5)) = (-1)) (br (((a3 >>> (a6 &&& 31)) &&& 1) = 0) (bd (fX12_offered a6 a5 h) (fun r8 h9 => br (r8 ≤ (0 : Int64)) (lb (a6 + 1) (fun v10 => fX12_knock_L50 n a1 a3 a4 a5 v10 h9)) (bd (fX12_offered a6 a5 h9) (fun r11 h12 => gd (ib (((256 : Int32) * (a5 + 1)) + (a3 ||| ((1 : Int32) <<< (a6 &&& 31)))) 3328) (gd (ib (((256 : Int32) * a5) + a3) 3328) (br ((r11 + (gJ h12 95 0 (ix (((256 : Int32) * (a5 + 1)) + (a3 ||| ((1 : Int32) <<< (a6 &&& 31))))))) = (gJ h12 95 0 (ix (((256 : Int32) * a5) + a3)))) (gd (ib a5 12) (lb (sI h12 97 0 (ix a5) a6) (fun h17 => lb (a6 + 1) (fun v18 => fX12_knock_L50 n a1 a3 a4 a5 v18 h17)))) (lb (a6 + 1) (fun v15 => fX12_knock_L50 n a1 a3 a4 a5 v15 h12)))))))) (lb (a6 + 1) (fun v7 => fX12_knock_L50 n a1 a3 a4 a5 v7 h))) (some ((a6), h))))
def fX12_knock_L30 : Nat → Int64 → Int32 → Int32 → Int32 → Hp → Option ((Int32 × Int32 × Int32) × Hp)
  | 0, _, _, _, _, _ => none
  | n + 1, a1, a3, a4, a5, h => br ((gI h 12 0 8) ≤ a5) (some ((a3, a4, a5), h)) (gd (ib a5 12) (lb (sI h 97 0 (ix a5) (-1)) (fun h5 => bd (fX12_knock_L50 FU a1 a3 a4 a5 0 h5) (fun v21 h19 => gd (ib a5 12) (br ((gI h19 97 0 (ix a5)) = (-1)) (lb (a5 + 1) (fun v27 => fX12_knock_L30 n a1 a3 a4 v27 h19)) (gd (ib a5 12) (lb (a3 ||| ((1 : Int32) <<< ((gI h19 97 0 (ix a5)) &&& 31))) (fun v24 => lb (a4 + 1) (fun v25 => lb (a5 + 1) (fun v26 => fX12_knock_L30 n a1 v24 v25 v26 h19))))))))))
def fX12_knock_L210 : Nat → Int64 → Int64 → Int32 → Hp → Option ((Int64 × Int32) × Hp)
  | 0, _, _, _, _ => none
  | n + 1, a1, a5, a7, h => br ((gI h 12 0 8) ≤ a7) (some ((a5, a7), h)) (gd (ib a7 12) (gd (ib a7 12) (lb (sI h 96 0 (ix a7) (gI h 97 0 (ix a7))) (fun h35 => gd (ib a7 12) (lb (sJ h35 98 0 (ix a7) 0) (fun h37 => gd (ib a7 12) (br ((gI h37 97 0 (ix a7)) = (-1)) (lb (a7 + 1) (fun v57 => fX12_knock_L210 n a1 a5 v57 h37)) (gd (ib a7 12) (lb (gI h37 97 0 (ix a7)) (fun v40 => bd (fX12_sumsBut a7 h37) (fun r41 h42 => bd (fX12_offered v40 a7 h42) (fun r43 h44 => gd (ib a7 12) (lb (sJ h44 98 0 (ix a7) (r41 - (a1 - r43))) (fun h46 => gd (ib a7 12) (lb (a5 + (gJ h46 98 0 (ix a7))) (fun v48 => gd (ib v40 8) (gd (ib v40 8) (gd (ib v40 8) (gd (ib v40 8) (gd (ib a7 12) (bd (fX12_adds 3 a7 (gI h46 83 0 (ix v40)) (gI h46 84 0 (ix v40)) (gI h46 85 0 (ix v40)) (gI h46 12 0 5) (gI h46 12 0 5) (mnI 199 (((gI h46 12 0 5) + (gI h46 86 0 (ix v40))) - 1)) 0 (gJ h46 98 0 (ix a7)) h46) (fun r54 h55 => lb (a7 + 1) (fun v56 => fX12_knock_L210 n a1 v48 v56 h55)))))))))))))))))))))))
def fX12_knock (h : Hp) : Option (Int64 × Hp) := lb (sI h 12 0 0 0) (fun h1 => br ((gI h1 12 0 10) = 0) (some ((-1), h1)) (bd (fX12_sumsBut (-1) h1) (fun r2 h3 => bd (fX12_knock_L30 FU r2 0 0 0 h3) (fun t29 h28 => lb t29.1 (fun v30 => lb t29.2.1 (fun v31 => lb t29.2.2 (fun v32 => br (((gI h28 12 0 9) + v31) ≤ 100) (bd (fX12_knock_L210 FU r2 0 0 h28) (fun t59 h58 => lb t59.1 (fun v60 => lb t59.2 (fun v61 => lb (sJ h58 12 0 12 ((gJ h58 12 0 12) + v60)) (fun h62 => lb (sJ h62 12 0 61 r2) (fun h63 => lb (sI h63 12 0 60 (gI h63 12 0 8)) (fun h64 => lb (sI h64 12 0 56 1) (fun h65 => lb (sI h65 12 0 10 0) (fun h66 => some (v60, h66)))))))))) (some ((-3), h28)))))))))
set_option maxRecDepth 20000 in
theorem tX12_knock_L50 {X : Cz} {h0 : Hp} {r : Option AV} {hE : Hp} : ∀ (n : Nat) (a1 : Int64) (a3 : Int32) (a4 : Int32) (a5 : Int32) (a6 : Int32) (h : Hp) (z : (Int32) × Hp), fX12_knock_L50 n a1 a3 a4 a5 a6 h = some z → V X mX12_knock true h0 153 [(0, zr 12 0), (1, zj a1), (3, zi a3), (4, zi a4), (5, zi a5), (6, zi z.1)] [] z.2 r hE → V X mX12_knock true h0 50 [(0, zr 12 0), (1, zj a1), (3, zi a3), (4, zi a4), (5, zi a5), (6, zi a6)] [] h r hE := by
  intro n
  induction n with
  | zero => intro a1 a3 a4 a5 a6 h z hF k; cases hF
  | succ n ih =>
    intro a1 a3 a4 a5 a6 h z hF k
    rw [fX12_knock_L50] at hF
    refine v_iload (j := 5) dX12_knock_50 rfl ?_
    refine v_aload_n (j := 0) dX12_knock_52 rfl ?_
    refine v_getI (c := 12) rfl (Or.inl rfl) cz12 flX12_358 dX12_knock_53 ?_
    refine v_icmp_ge dX12_knock_56 (by decide : _ = ((153 : Nat) : Int)) (fun q => ?_) (fun q => ?_)
    · replace hF := brT q hF
      cases hF
      exact k
    · replace hF := brF q hF
      refine v_aload_n (j := 0) dX12_knock_59 rfl ?_
      refine v_getL (c := 12) rfl rfl rfl ly12_58 cz12 flX12_157 dX12_knock_60 ?_
      refine v_iload (j := 4) dX12_knock_63 rfl ?_
      replace hF := gd_use hF
      obtain ⟨q6, hF⟩ := hF
      refine v_iald rfl q6 dX12_knock_65 ?_
      refine v_iconst (v := (-1)) dX12_knock_66 (by decide) ?_
      refine v_icmp_ne dX12_knock_67 (by decide : _ = ((153 : Nat) : Int)) (fun q => ?_) (fun q => ?_)
      · replace hF := brF q hF
        cases hF
        exact k
      · replace hF := brT (Decidable.not_not.mp q) hF
        refine v_iload_n (j := 2) dX12_knock_70 rfl ?_
        refine v_iload (j := 5) dX12_knock_71 rfl ?_
        refine v_ishr dX12_knock_73 ?_
        refine v_iconst (v := 1) dX12_knock_74 (by decide) ?_
        refine v_iand dX12_knock_75 ?_
        refine v_if_ne dX12_knock_76 (by decide : _ = ((147 : Nat) : Int)) (fun q => ?_) (fun q => ?_)
        · replace hF := brF q hF
          obtain ⟨v7, ev7⟩ : ∃ y : Int32, y = a6 + 1 := ⟨_, rfl⟩
          replace hF := lb_use ev7 hF
          refine v_iinc (j := 5) (v := v7) (ls' := [(6, zi v7), (0, zr 12 0), (1, zj a1), (3, zi a3), (4, zi a4), (5, zi a5)]) dX12_knock_147 rfl (by rw [ev7]; rfl) (by decide) rfl ?_
          clear ev7
          refine v_goto (tgt := 50) dX12_knock_150 (by decide) ?_
          refine v_sub [1, 2, 3, 4, 5, 0] rfl ?_
          exact ih a1 a3 a4 a5 v7 h _ hF k
        · replace hF := brT (Decidable.not_not.mp q) hF
          refine v_aload_n (j := 0) dX12_knock_79 rfl ?_
          refine v_iload (j := 5) dX12_knock_80 rfl ?_
          refine v_iload (j := 4) dX12_knock_82 rfl ?_
          replace hF := bd_use hF
          obtain ⟨r8, h9, er8, hF⟩ := hF
          refine v_cV (hm := h9) (av := [zi a6, zi a5]) (st := []) (stn := [zj r8]) (tX12_offered er8) lcX12_offered mlX12_363 imX12_offered seX12_offered rfl rfl rfl rfl ⟨by decide, by decide⟩ (Nat.le_of_ble_eq_true rfl) dX12_knock_84 rfl rfl ?_
          clear er8
          refine v_lconst (v := 0) dX12_knock_87 (by decide) ?_
          refine v_lif_le (x := r8) (y := (0 : Int64)) dX12_knock_88 dX12_knock_89 (by decide : _ = ((147 : Nat) : Int)) (fun q => ?_) (fun q => ?_)
          · replace hF := brT q hF
            obtain ⟨v10, ev10⟩ : ∃ y : Int32, y = a6 + 1 := ⟨_, rfl⟩
            replace hF := lb_use ev10 hF
            refine v_iinc (j := 5) (v := v10) (ls' := [(6, zi v10), (0, zr 12 0), (1, zj a1), (3, zi a3), (4, zi a4), (5, zi a5)]) dX12_knock_147 rfl (by rw [ev10]; rfl) (by decide) rfl ?_
            clear ev10
            refine v_goto (tgt := 50) dX12_knock_150 (by decide) ?_
            refine v_sub [1, 2, 3, 4, 5, 0] rfl ?_
            exact ih a1 a3 a4 a5 v10 h9 _ hF k
          · replace hF := brF q hF
            refine v_aload_n (j := 0) dX12_knock_92 rfl ?_
            refine v_iload (j := 5) dX12_knock_93 rfl ?_
            refine v_iload (j := 4) dX12_knock_95 rfl ?_
            replace hF := bd_use hF
            obtain ⟨r11, h12, er11, hF⟩ := hF
            refine v_cV (hm := h12) (av := [zi a6, zi a5]) (st := []) (stn := [zj r11]) (tX12_offered er11) lcX12_offered mlX12_363 imX12_offered seX12_offered rfl rfl rfl rfl ⟨by decide, by decide⟩ (Nat.le_of_ble_eq_true rfl) dX12_knock_97 rfl rfl ?_
            clear er11
            refine v_aload_n (j := 0) dX12_knock_100 rfl ?_
            refine v_getL (c := 12) rfl rfl rfl ly12_55 cz12 flX12_151 dX12_knock_101 ?_
            refine v_sipush (v := 256) dX12_knock_104 (by decide) ?_
            refine v_iload (j := 4) dX12_knock_107 rfl ?_
            refine v_iconst (v := 1) dX12_knock_109 (by decide) ?_
            refine v_iadd dX12_knock_110 ?_
            refine v_imul dX12_knock_111 ?_
            refine v_iload_n (j := 2) dX12_knock_112 rfl ?_
            refine v_iconst (v := 1) dX12_knock_113 (by decide) ?_
            refine v_iload (j := 5) dX12_knock_114 rfl ?_
            refine v_ishl dX12_knock_116 ?_
            refine v_ior dX12_knock_117 ?_
            refine v_iadd dX12_knock_118 ?_
            replace hF := gd_use hF
            obtain ⟨q13, hF⟩ := hF
            refine v_lald rfl q13 dX12_knock_119 ?_
            refine v_ladd dX12_knock_120 ?_
            refine v_aload_n (j := 0) dX12_knock_121 rfl ?_
            refine v_getL (c := 12) rfl rfl rfl ly12_55 cz12 flX12_151 dX12_knock_122 ?_
            refine v_sipush (v := 256) dX12_knock_125 (by decide) ?_
            refine v_iload (j := 4) dX12_knock_128 rfl ?_
            refine v_imul dX12_knock_130 ?_
            refine v_iload_n (j := 2) dX12_knock_131 rfl ?_
            refine v_iadd dX12_knock_132 ?_
            replace hF := gd_use hF
            obtain ⟨q14, hF⟩ := hF
            refine v_lald rfl q14 dX12_knock_133 ?_
            refine v_lif_ne (x := (r11 + (gJ h12 95 0 (ix (((256 : Int32) * (a5 + 1)) + (a3 ||| ((1 : Int32) <<< (a6 &&& 31)))))))) (y := (gJ h12 95 0 (ix (((256 : Int32) * a5) + a3)))) dX12_knock_134 dX12_knock_135 (by decide : _ = ((147 : Nat) : Int)) (fun q => ?_) (fun q => ?_)
            · replace hF := brF q hF
              obtain ⟨v15, ev15⟩ : ∃ y : Int32, y = a6 + 1 := ⟨_, rfl⟩
              replace hF := lb_use ev15 hF
              refine v_iinc (j := 5) (v := v15) (ls' := [(6, zi v15), (0, zr 12 0), (1, zj a1), (3, zi a3), (4, zi a4), (5, zi a5)]) dX12_knock_147 rfl (by rw [ev15]; rfl) (by decide) rfl ?_
              clear ev15
              refine v_goto (tgt := 50) dX12_knock_150 (by decide) ?_
              refine v_sub [1, 2, 3, 4, 5, 0] rfl ?_
              exact ih a1 a3 a4 a5 v15 h12 _ hF k
            · replace hF := brT (Decidable.not_not.mp q) hF
              refine v_aload_n (j := 0) dX12_knock_138 rfl ?_
              refine v_getL (c := 12) rfl rfl rfl ly12_58 cz12 flX12_157 dX12_knock_139 ?_
              refine v_iload (j := 4) dX12_knock_142 rfl ?_
              refine v_iload (j := 5) dX12_knock_144 rfl ?_
              replace hF := gd_use hF
              obtain ⟨q16, hF⟩ := hF
              refine v_iast rfl q16 dX12_knock_146 ?_
              refine v_toph fun h17 eh17 => ?_
              replace hF := lb_use eh17 hF
              clear eh17
              obtain ⟨v18, ev18⟩ : ∃ y : Int32, y = a6 + 1 := ⟨_, rfl⟩
              replace hF := lb_use ev18 hF
              refine v_iinc (j := 5) (v := v18) (ls' := [(6, zi v18), (0, zr 12 0), (1, zj a1), (3, zi a3), (4, zi a4), (5, zi a5)]) dX12_knock_147 rfl (by rw [ev18]; rfl) (by decide) rfl ?_
              clear ev18
              refine v_goto (tgt := 50) dX12_knock_150 (by decide) ?_
              refine v_sub [1, 2, 3, 4, 5, 0] rfl ?_
              exact ih a1 a3 a4 a5 v18 h17 _ hF k
set_option maxRecDepth 20000 in
theorem tX12_knock_L30 {X : Cz} {h0 : Hp} {r : Option AV} {hE : Hp} : ∀ (n : Nat) (a1 : Int64) (a3 : Int32) (a4 : Int32) (a5 : Int32) (h : Hp) (z : (Int32 × Int32 × Int32) × Hp), fX12_knock_L30 n a1 a3 a4 a5 h = some z → V X mX12_knock true h0 188 [(0, zr 12 0), (1, zj a1), (3, zi z.1.1), (4, zi z.1.2.1), (5, zi z.1.2.2)] [] z.2 r hE → V X mX12_knock true h0 30 [(0, zr 12 0), (1, zj a1), (3, zi a3), (4, zi a4), (5, zi a5)] [] h r hE := by
  intro n
  induction n with
  | zero => intro a1 a3 a4 a5 h z hF k; cases hF
  | succ n ih =>
    intro a1 a3 a4 a5 h z hF k
    rw [fX12_knock_L30] at hF
    refine v_iload (j := 4) dX12_knock_30 rfl ?_
    refine v_aload_n (j := 0) dX12_knock_32 rfl ?_
    refine v_getI (c := 12) rfl (Or.inl rfl) cz12 flX12_295 dX12_knock_33 ?_
    refine v_icmp_ge dX12_knock_36 (by decide : _ = ((188 : Nat) : Int)) (fun q => ?_) (fun q => ?_)
    · replace hF := brT q hF
      cases hF
      exact k
    · replace hF := brF q hF
      refine v_aload_n (j := 0) dX12_knock_39 rfl ?_
      refine v_getL (c := 12) rfl rfl rfl ly12_58 cz12 flX12_157 dX12_knock_40 ?_
      refine v_iload (j := 4) dX12_knock_43 rfl ?_
      refine v_iconst (v := (-1)) dX12_knock_45 (by decide) ?_
      replace hF := gd_use hF
      obtain ⟨q4, hF⟩ := hF
      refine v_iast rfl q4 dX12_knock_46 ?_
      refine v_toph fun h5 eh5 => ?_
      replace hF := lb_use eh5 hF
      clear eh5
      refine v_iconst (v := 0) dX12_knock_47 (by decide) ?_
      refine v_istore (ls' := [(6, zi 0), (0, zr 12 0), (1, zj a1), (3, zi a3), (4, zi a4), (5, zi a5)]) dX12_knock_48 (by decide) rfl ?_
      refine v_sub [1, 2, 3, 4, 5, 0] rfl ?_
      replace hF := bd_use hF
      obtain ⟨v21, h19, ev21, hF⟩ := hF
      refine tX12_knock_L50 _ a1 a3 a4 a5 0 h5 _ ev21 ?_
      clear ev21
      refine v_aload_n (j := 0) dX12_knock_153 rfl ?_
      refine v_getL (c := 12) rfl rfl rfl ly12_58 cz12 flX12_157 dX12_knock_154 ?_
      refine v_iload (j := 4) dX12_knock_157 rfl ?_
      replace hF := gd_use hF
      obtain ⟨q22, hF⟩ := hF
      refine v_iald rfl q22 dX12_knock_159 ?_
      refine v_iconst (v := (-1)) dX12_knock_160 (by decide) ?_
      refine v_icmp_ne dX12_knock_161 (by decide : _ = ((167 : Nat) : Int)) (fun q => ?_) (fun q => ?_)
      · replace hF := brF q hF
        refine v_iload_n (j := 2) dX12_knock_167 rfl ?_
        refine v_iconst (v := 1) dX12_knock_168 (by decide) ?_
        refine v_aload_n (j := 0) dX12_knock_169 rfl ?_
        refine v_getL (c := 12) rfl rfl rfl ly12_58 cz12 flX12_157 dX12_knock_170 ?_
        refine v_iload (j := 4) dX12_knock_173 rfl ?_
        replace hF := gd_use hF
        obtain ⟨q23, hF⟩ := hF
        refine v_iald rfl q23 dX12_knock_175 ?_
        refine v_ishl dX12_knock_176 ?_
        refine v_ior dX12_knock_177 ?_
        refine v_topi fun v24 ev24 => ?_
        replace hF := lb_use ev24 hF
        clear ev24
        refine v_istore_n (ls' := [(3, zi v24), (0, zr 12 0), (1, zj a1), (4, zi a4), (5, zi a5), (6, zi v21)]) dX12_knock_178 (by decide) rfl ?_
        obtain ⟨v25, ev25⟩ : ∃ y : Int32, y = a4 + 1 := ⟨_, rfl⟩
        replace hF := lb_use ev25 hF
        refine v_iinc (j := 3) (v := v25) (ls' := [(4, zi v25), (3, zi v24), (0, zr 12 0), (1, zj a1), (5, zi a5), (6, zi v21)]) dX12_knock_179 rfl (by rw [ev25]; rfl) (by decide) rfl ?_
        clear ev25
        obtain ⟨v26, ev26⟩ : ∃ y : Int32, y = a5 + 1 := ⟨_, rfl⟩
        replace hF := lb_use ev26 hF
        refine v_iinc (j := 4) (v := v26) (ls' := [(5, zi v26), (4, zi v25), (3, zi v24), (0, zr 12 0), (1, zj a1), (6, zi v21)]) dX12_knock_182 rfl (by rw [ev26]; rfl) (by decide) rfl ?_
        clear ev26
        refine v_goto (tgt := 30) dX12_knock_185 (by decide) ?_
        refine v_sub [3, 4, 2, 1, 0] rfl ?_
        exact ih a1 v24 v25 v26 h19 _ hF k
      · replace hF := brT (Decidable.not_not.mp q) hF
        refine v_goto (tgt := 182) dX12_knock_164 (by decide) ?_
        obtain ⟨v27, ev27⟩ : ∃ y : Int32, y = a5 + 1 := ⟨_, rfl⟩
        replace hF := lb_use ev27 hF
        refine v_iinc (j := 4) (v := v27) (ls' := [(5, zi v27), (0, zr 12 0), (1, zj a1), (3, zi a3), (4, zi a4), (6, zi v21)]) dX12_knock_182 rfl (by rw [ev27]; rfl) (by decide) rfl ?_
        clear ev27
        refine v_goto (tgt := 30) dX12_knock_185 (by decide) ?_
        refine v_sub [1, 2, 3, 4, 0] rfl ?_
        exact ih a1 a3 a4 v27 h19 _ hF k
set_option maxRecDepth 20000 in
theorem tX12_knock_L210 {X : Cz} {h0 : Hp} {r : Option AV} {hE : Hp} : ∀ (n : Nat) (a1 : Int64) (a5 : Int64) (a7 : Int32) (h : Hp) (z : (Int64 × Int32) × Hp), fX12_knock_L210 n a1 a5 a7 h = some z → V X mX12_knock true h0 372 [(0, zr 12 0), (1, zj a1), (5, zj z.1.1), (7, zi z.1.2)] [] z.2 r hE → V X mX12_knock true h0 210 [(0, zr 12 0), (1, zj a1), (5, zj a5), (7, zi a7)] [] h r hE := by
  intro n
  induction n with
  | zero => intro a1 a5 a7 h z hF k; cases hF
  | succ n ih =>
    intro a1 a5 a7 h z hF k
    rw [fX12_knock_L210] at hF
    refine v_iload (j := 3) dX12_knock_210 rfl ?_
    refine v_aload_n (j := 0) dX12_knock_212 rfl ?_
    refine v_getI (c := 12) rfl (Or.inl rfl) cz12 flX12_295 dX12_knock_213 ?_
    refine v_icmp_ge dX12_knock_216 (by decide : _ = ((372 : Nat) : Int)) (fun q => ?_) (fun q => ?_)
    · replace hF := brT q hF
      cases hF
      exact k
    · replace hF := brF q hF
      refine v_aload_n (j := 0) dX12_knock_219 rfl ?_
      refine v_getL (c := 12) rfl rfl rfl ly12_57 cz12 flX12_154 dX12_knock_220 ?_
      refine v_iload (j := 3) dX12_knock_223 rfl ?_
      refine v_aload_n (j := 0) dX12_knock_225 rfl ?_
      refine v_getL (c := 12) rfl rfl rfl ly12_58 cz12 flX12_157 dX12_knock_226 ?_
      refine v_iload (j := 3) dX12_knock_229 rfl ?_
      replace hF := gd_use hF
      obtain ⟨q33, hF⟩ := hF
      refine v_iald rfl q33 dX12_knock_231 ?_
      replace hF := gd_use hF
      obtain ⟨q34, hF⟩ := hF
      refine v_iast rfl q34 dX12_knock_232 ?_
      refine v_toph fun h35 eh35 => ?_
      replace hF := lb_use eh35 hF
      clear eh35
      refine v_aload_n (j := 0) dX12_knock_233 rfl ?_
      refine v_getL (c := 12) rfl rfl rfl ly12_59 cz12 flX12_160 dX12_knock_234 ?_
      refine v_iload (j := 3) dX12_knock_237 rfl ?_
      refine v_lconst (v := 0) dX12_knock_239 (by decide) ?_
      replace hF := gd_use hF
      obtain ⟨q36, hF⟩ := hF
      refine v_last rfl q36 dX12_knock_240 ?_
      refine v_toph fun h37 eh37 => ?_
      replace hF := lb_use eh37 hF
      clear eh37
      refine v_aload_n (j := 0) dX12_knock_241 rfl ?_
      refine v_getL (c := 12) rfl rfl rfl ly12_58 cz12 flX12_157 dX12_knock_242 ?_
      refine v_iload (j := 3) dX12_knock_245 rfl ?_
      replace hF := gd_use hF
      obtain ⟨q38, hF⟩ := hF
      refine v_iald rfl q38 dX12_knock_247 ?_
      refine v_iconst (v := (-1)) dX12_knock_248 (by decide) ?_
      refine v_icmp_ne dX12_knock_249 (by decide : _ = ((255 : Nat) : Int)) (fun q => ?_) (fun q => ?_)
      · replace hF := brF q hF
        refine v_aload_n (j := 0) dX12_knock_255 rfl ?_
        refine v_getL (c := 12) rfl rfl rfl ly12_58 cz12 flX12_157 dX12_knock_256 ?_
        refine v_iload (j := 3) dX12_knock_259 rfl ?_
        replace hF := gd_use hF
        obtain ⟨q39, hF⟩ := hF
        refine v_iald rfl q39 dX12_knock_261 ?_
        refine v_topi fun v40 ev40 => ?_
        replace hF := lb_use ev40 hF
        clear ev40
        refine v_istore (ls' := [(8, zi v40), (0, zr 12 0), (1, zj a1), (5, zj a5), (7, zi a7)]) dX12_knock_262 (by decide) rfl ?_
        refine v_aload_n (j := 1) dX12_knock_264 rfl ?_
        refine v_getL (c := 12) rfl rfl rfl ly12_59 cz12 flX12_160 dX12_knock_265 ?_
        refine v_iload (j := 4) dX12_knock_268 rfl ?_
        refine v_aload_n (j := 1) dX12_knock_270 rfl ?_
        refine v_iload (j := 4) dX12_knock_271 rfl ?_
        replace hF := bd_use hF
        obtain ⟨r41, h42, er41, hF⟩ := hF
        refine v_cV (hm := h42) (av := [zi a7]) (st := [zi a7, zr 98 0]) (stn := [zj r41, zi a7, zr 98 0]) (tX12_sumsBut er41) lcX12_sumsBut mlX12_372 imX12_sumsBut seX12_sumsBut rfl rfl rfl rfl ⟨by decide, by decide⟩ (Nat.le_of_ble_eq_true rfl) dX12_knock_273 rfl rfl ?_
        clear er41
        refine v_lload_n (j := 2) dX12_knock_276 rfl ?_
        refine v_aload_n (j := 1) dX12_knock_277 rfl ?_
        refine v_iload (j := 0) dX12_knock_278 rfl ?_
        refine v_iload (j := 4) dX12_knock_280 rfl ?_
        replace hF := bd_use hF
        obtain ⟨r43, h44, er43, hF⟩ := hF
        refine v_cV (hm := h44) (av := [zi v40, zi a7]) (st := [zj a1, zj r41, zi a7, zr 98 0]) (stn := [zj r43, zj a1, zj r41, zi a7, zr 98 0]) (tX12_offered er43) lcX12_offered mlX12_363 imX12_offered seX12_offered rfl rfl rfl rfl ⟨by decide, by decide⟩ (Nat.le_of_ble_eq_true rfl) dX12_knock_282 rfl rfl ?_
        clear er43
        refine v_lsub dX12_knock_285 ?_
        refine v_lsub dX12_knock_286 ?_
        replace hF := gd_use hF
        obtain ⟨q45, hF⟩ := hF
        refine v_last rfl q45 dX12_knock_287 ?_
        refine v_toph fun h46 eh46 => ?_
        replace hF := lb_use eh46 hF
        clear eh46
        refine v_lload (j := 3) dX12_knock_288 rfl ?_
        refine v_aload_n (j := 1) dX12_knock_290 rfl ?_
        refine v_getL (c := 12) rfl rfl rfl ly12_59 cz12 flX12_160 dX12_knock_291 ?_
        refine v_iload (j := 4) dX12_knock_294 rfl ?_
        replace hF := gd_use hF
        obtain ⟨q47, hF⟩ := hF
        refine v_lald rfl q47 dX12_knock_296 ?_
        refine v_ladd dX12_knock_297 ?_
        refine v_topj fun v48 ev48 => ?_
        replace hF := lb_use ev48 hF
        clear ev48
        refine v_lstore (ls' := [(5, zj v48), (8, zi v40), (0, zr 12 0), (1, zj a1), (7, zi a7)]) dX12_knock_298 (by decide) rfl ?_
        refine v_aload_n (j := 2) dX12_knock_300 rfl ?_
        refine v_iconst (v := 3) dX12_knock_301 (by decide) ?_
        refine v_iload (j := 4) dX12_knock_302 rfl ?_
        refine v_aload_n (j := 2) dX12_knock_304 rfl ?_
        refine v_getL (c := 12) rfl rfl rfl ly12_43 cz12 flX12_115 dX12_knock_305 ?_
        refine v_iload (j := 1) dX12_knock_308 rfl ?_
        replace hF := gd_use hF
        obtain ⟨q49, hF⟩ := hF
        refine v_iald rfl q49 dX12_knock_310 ?_
        refine v_aload_n (j := 2) dX12_knock_311 rfl ?_
        refine v_getL (c := 12) rfl rfl rfl ly12_44 cz12 flX12_118 dX12_knock_312 ?_
        refine v_iload (j := 1) dX12_knock_315 rfl ?_
        replace hF := gd_use hF
        obtain ⟨q50, hF⟩ := hF
        refine v_iald rfl q50 dX12_knock_317 ?_
        refine v_aload_n (j := 2) dX12_knock_318 rfl ?_
        refine v_getL (c := 12) rfl rfl rfl ly12_45 cz12 flX12_121 dX12_knock_319 ?_
        refine v_iload (j := 1) dX12_knock_322 rfl ?_
        replace hF := gd_use hF
        obtain ⟨q51, hF⟩ := hF
        refine v_iald rfl q51 dX12_knock_324 ?_
        refine v_aload_n (j := 2) dX12_knock_325 rfl ?_
        refine v_getI (c := 12) rfl (Or.inl rfl) cz12 flX12_251 dX12_knock_326 ?_
        refine v_aload_n (j := 2) dX12_knock_329 rfl ?_
        refine v_getI (c := 12) rfl (Or.inl rfl) cz12 flX12_251 dX12_knock_330 ?_
        refine v_sipush (v := 199) dX12_knock_333 (by decide) ?_
        refine v_aload_n (j := 2) dX12_knock_336 rfl ?_
        refine v_getI (c := 12) rfl (Or.inl rfl) cz12 flX12_251 dX12_knock_337 ?_
        refine v_aload_n (j := 2) dX12_knock_340 rfl ?_
        refine v_getL (c := 12) rfl rfl rfl ly12_46 cz12 flX12_124 dX12_knock_341 ?_
        refine v_iload (j := 1) dX12_knock_344 rfl ?_
        replace hF := gd_use hF
        obtain ⟨q52, hF⟩ := hF
        refine v_iald rfl q52 dX12_knock_346 ?_
        refine v_iadd dX12_knock_347 ?_
        refine v_iconst (v := 1) dX12_knock_348 (by decide) ?_
        refine v_isub dX12_knock_349 ?_
        refine v_J9_min_7cf53 mlX12_269 (by decide) (Nat.le_of_ble_eq_true rfl) dX12_knock_350 ?_
        refine v_iconst (v := 0) dX12_knock_353 (by decide) ?_
        refine v_aload_n (j := 2) dX12_knock_354 rfl ?_
        refine v_getL (c := 12) rfl rfl rfl ly12_59 cz12 flX12_160 dX12_knock_355 ?_
        refine v_iload (j := 4) dX12_knock_358 rfl ?_
        replace hF := gd_use hF
        obtain ⟨q53, hF⟩ := hF
        refine v_lald rfl q53 dX12_knock_360 ?_
        replace hF := bd_use hF
        obtain ⟨r54, h55, er54, hF⟩ := hF
        refine v_cV (hm := h55) (av := [zi 3, zi a7, zi (gI h46 83 0 (ix v40)), zi (gI h46 84 0 (ix v40)), zi (gI h46 85 0 (ix v40)), zi (gI h46 12 0 5), zi (gI h46 12 0 5), zi (mnI 199 (((gI h46 12 0 5) + (gI h46 86 0 (ix v40))) - 1)), zi 0, zj (gJ h46 98 0 (ix a7))]) (st := []) (stn := [zi r54]) (tX12_adds er54) lcX12_adds mlX12_323 imX12_adds seX12_adds rfl rfl rfl rfl ⟨by decide, by decide⟩ (Nat.le_of_ble_eq_true rfl) dX12_knock_361 rfl rfl ?_
        clear er54
        refine v_istore (ls' := [(9, zi r54), (5, zj v48), (8, zi v40), (0, zr 12 0), (1, zj a1), (7, zi a7)]) dX12_knock_364 (by decide) rfl ?_
        obtain ⟨v56, ev56⟩ : ∃ y : Int32, y = a7 + 1 := ⟨_, rfl⟩
        replace hF := lb_use ev56 hF
        refine v_iinc (j := 5) (v := v56) (ls' := [(7, zi v56), (9, zi r54), (5, zj v48), (8, zi v40), (0, zr 12 0), (1, zj a1)]) dX12_knock_366 rfl (by rw [ev56]; rfl) (by decide) rfl ?_
        clear ev56
        refine v_goto (tgt := 210) dX12_knock_369 (by decide) ?_
        refine v_sub [4, 5, 2, 0] rfl ?_
        exact ih a1 v48 v56 h55 _ hF k
      · replace hF := brT (Decidable.not_not.mp q) hF
        refine v_goto (tgt := 366) dX12_knock_252 (by decide) ?_
        obtain ⟨v57, ev57⟩ : ∃ y : Int32, y = a7 + 1 := ⟨_, rfl⟩
        replace hF := lb_use ev57 hF
        refine v_iinc (j := 3) (v := v57) (ls' := [(7, zi v57), (0, zr 12 0), (1, zj a1), (5, zj a5)]) dX12_knock_366 rfl (by rw [ev57]; rfl) (by decide) rfl ?_
        clear ev57
        refine v_goto (tgt := 210) dX12_knock_369 (by decide) ?_
        refine v_sub [1, 2, 3, 0] rfl ?_
        exact ih a1 a5 v57 h37 _ hF k
set_option maxRecDepth 20000 in
theorem tX12_knock {X : Cz} {h hE : Hp} {rE : Int64} (hF : fX12_knock h = some (rE, hE)) : Ct X mX12_knock true [zr 12 0] h (some (zj rE)) hE := by
  refine Ct_of (by decide) (Nat.le_of_ble_eq_true rfl) (ls := [(0, zr 12 0)]) rfl ?_
  unfold fX12_knock at hF
  refine v_aload_n (j := 0) dX12_knock_0 rfl ?_
  refine v_iconst (v := 0) dX12_knock_1 (by decide) ?_
  refine v_putI (c := 12) rfl rfl (Nat.le_of_ble_eq_true rfl) cz12 flX12_208 dX12_knock_2 ?_
  refine v_toph fun h1 eh1 => ?_
  replace hF := lb_use eh1 hF
  clear eh1
  refine v_aload_n (j := 0) dX12_knock_5 rfl ?_
  refine v_getI (c := 12) rfl (Or.inl rfl) cz12 flX12_358 dX12_knock_6 ?_
  refine v_if_ne dX12_knock_9 (by decide : _ = ((16 : Nat) : Int)) (fun q => ?_) (fun q => ?_)
  · replace hF := brF q hF
    refine v_aload_n (j := 0) dX12_knock_16 rfl ?_
    refine v_iconst (v := (-1)) dX12_knock_17 (by decide) ?_
    replace hF := bd_use hF
    obtain ⟨r2, h3, er2, hF⟩ := hF
    refine v_cV (hm := h3) (av := [zi (-1)]) (st := []) (stn := [zj r2]) (tX12_sumsBut er2) lcX12_sumsBut mlX12_372 imX12_sumsBut seX12_sumsBut rfl rfl rfl rfl ⟨by decide, by decide⟩ (Nat.le_of_ble_eq_true rfl) dX12_knock_18 rfl rfl ?_
    clear er2
    refine v_lstore_n (ls' := [(1, zj r2), (0, zr 12 0)]) dX12_knock_21 (by decide) rfl ?_
    refine v_iconst (v := 0) dX12_knock_22 (by decide) ?_
    refine v_istore_n (ls' := [(3, zi 0), (1, zj r2), (0, zr 12 0)]) dX12_knock_23 (by decide) rfl ?_
    refine v_iconst (v := 0) dX12_knock_24 (by decide) ?_
    refine v_istore (ls' := [(4, zi 0), (3, zi 0), (1, zj r2), (0, zr 12 0)]) dX12_knock_25 (by decide) rfl ?_
    refine v_iconst (v := 0) dX12_knock_27 (by decide) ?_
    refine v_istore (ls' := [(5, zi 0), (4, zi 0), (3, zi 0), (1, zj r2), (0, zr 12 0)]) dX12_knock_28 (by decide) rfl ?_
    refine v_sub [4, 3, 2, 1, 0] rfl ?_
    replace hF := bd_use hF
    obtain ⟨t29, h28, et29, hF⟩ := hF
    refine tX12_knock_L30 _ r2 0 0 0 h3 _ et29 ?_
    clear et29
    obtain ⟨v30, v31, v32⟩ := t29
    replace hF := lb_use (x := v30) rfl hF
    replace hF := lb_use (x := v31) rfl hF
    replace hF := lb_use (x := v32) rfl hF
    refine v_aload_n (j := 0) dX12_knock_188 rfl ?_
    refine v_getI (c := 12) rfl (Or.inl rfl) cz12 flX12_316 dX12_knock_189 ?_
    refine v_iload (j := 3) dX12_knock_192 rfl ?_
    refine v_iadd dX12_knock_194 ?_
    refine v_bipush (v := 100) dX12_knock_195 (by decide) ?_
    refine v_icmp_le dX12_knock_197 (by decide : _ = ((204 : Nat) : Int)) (fun q => ?_) (fun q => ?_)
    · replace hF := brT q hF
      refine v_lconst (v := 0) dX12_knock_204 (by decide) ?_
      refine v_lstore (ls' := [(5, zj 0), (0, zr 12 0), (1, zj r2), (3, zi v30), (4, zi v31)]) dX12_knock_205 (by decide) rfl ?_
      refine v_iconst (v := 0) dX12_knock_207 (by decide) ?_
      refine v_istore (ls' := [(7, zi 0), (5, zj 0), (0, zr 12 0), (1, zj r2), (3, zi v30), (4, zi v31)]) dX12_knock_208 (by decide) rfl ?_
      refine v_sub [2, 3, 1, 0] rfl ?_
      replace hF := bd_use hF
      obtain ⟨t59, h58, et59, hF⟩ := hF
      refine tX12_knock_L210 _ r2 0 0 h28 _ et59 ?_
      clear et59
      obtain ⟨v60, v61⟩ := t59
      replace hF := lb_use (x := v60) rfl hF
      replace hF := lb_use (x := v61) rfl hF
      refine v_aload_n (j := 0) dX12_knock_372 rfl ?_
      refine v_dup dX12_knock_373 rfl ?_
      refine v_getJ (c := 12) rfl rfl cz12 flX12_378 dX12_knock_374 ?_
      refine v_lload (j := 2) dX12_knock_377 rfl ?_
      refine v_ladd dX12_knock_379 ?_
      refine v_putJ (c := 12) rfl rfl (Nat.le_of_ble_eq_true rfl) cz12 flX12_378 dX12_knock_380 ?_
      refine v_toph fun h62 eh62 => ?_
      replace hF := lb_use eh62 hF
      clear eh62
      refine v_aload_n (j := 0) dX12_knock_383 rfl ?_
      refine v_lload_n (j := 1) dX12_knock_384 rfl ?_
      refine v_putJ (c := 12) rfl rfl (Nat.le_of_ble_eq_true rfl) cz12 flX12_382 dX12_knock_385 ?_
      refine v_toph fun h63 eh63 => ?_
      replace hF := lb_use eh63 hF
      clear eh63
      refine v_aload_n (j := 0) dX12_knock_388 rfl ?_
      refine v_aload_n (j := 0) dX12_knock_389 rfl ?_
      refine v_getI (c := 12) rfl (Or.inl rfl) cz12 flX12_295 dX12_knock_390 ?_
      refine v_putI (c := 12) rfl rfl (Nat.le_of_ble_eq_true rfl) cz12 flX12_385 dX12_knock_393 ?_
      refine v_toph fun h64 eh64 => ?_
      replace hF := lb_use eh64 hF
      clear eh64
      refine v_aload_n (j := 0) dX12_knock_396 rfl ?_
      refine v_iconst (v := 1) dX12_knock_397 (by decide) ?_
      refine v_putZ (c := 12) rfl rfl (Nat.le_of_ble_eq_true rfl) cz12 flX12_388 (Or.inr rfl) dX12_knock_398 ?_
      refine v_toph fun h65 eh65 => ?_
      replace hF := lb_use eh65 hF
      clear eh65
      refine v_aload_n (j := 0) dX12_knock_401 rfl ?_
      refine v_iconst (v := 0) dX12_knock_402 (by decide) ?_
      refine v_putI (c := 12) rfl rfl (Nat.le_of_ble_eq_true rfl) cz12 flX12_358 dX12_knock_403 ?_
      refine v_toph fun h66 eh66 => ?_
      replace hF := lb_use eh66 hF
      clear eh66
      refine v_lload (j := 2) dX12_knock_406 rfl ?_
      obtain ⟨rfl, rfl⟩ := ret_use hF
      exact v_lret rfl dX12_knock_408
    · replace hF := brF q hF
      refine v_ldc2 dX12_knock_200 kcX12_376 ?_
      obtain ⟨rfl, rfl⟩ := ret_use hF
      exact v_lret rfl dX12_knock_203
  · replace hF := brT (Decidable.not_not.mp q) hF
    refine v_ldc2 dX12_knock_12 kcX12_370 ?_
    obtain ⟨rfl, rfl⟩ := ret_use hF
    exact v_lret rfl dX12_knock_15
