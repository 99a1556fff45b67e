/-! functions and ties, printed by program (wip/gen/dec.py) -/
theorem dX7_copy_0 : decode cX7_copy 0 = .ok (.aload_n 0, 1) := by decide +kernel
theorem dX7_copy_1 : decode cX7_copy 1 = .ok (.getfield 19, 3) := by decide +kernel
theorem dX7_copy_4 : decode cX7_copy 4 = .ok (.iload_n 1, 1) := by decide +kernel
theorem dX7_copy_5 : decode cX7_copy 5 = .ok (.iaload, 1) := by decide +kernel
theorem dX7_copy_6 : decode cX7_copy 6 = .ok (.aload_n 0, 1) := by decide +kernel
theorem dX7_copy_7 : decode cX7_copy 7 = .ok (.getfield 19, 3) := by decide +kernel
theorem dX7_copy_10 : decode cX7_copy 10 = .ok (.iload_n 3, 1) := by decide +kernel
theorem dX7_copy_11 : decode cX7_copy 11 = .ok (.iaload, 1) := by decide +kernel
theorem dX7_copy_12 : decode cX7_copy 12 = .ok (.if_icmp .eq 6, 3) := by decide +kernel
theorem dX7_copy_15 : decode cX7_copy 15 = .ok (.bipush (-7), 2) := by decide +kernel
theorem dX7_copy_17 : decode cX7_copy 17 = .ok (.ireturn, 1) := by decide +kernel
theorem dX7_copy_18 : decode cX7_copy 18 = .ok (.iload_n 2, 1) := by decide +kernel
theorem dX7_copy_19 : decode cX7_copy 19 = .ok (.ifCond .lt 40, 3) := by decide +kernel
theorem dX7_copy_22 : decode cX7_copy 22 = .ok (.iload 4, 2) := by decide +kernel
theorem dX7_copy_24 : decode cX7_copy 24 = .ok (.ifCond .lt 35, 3) := by decide +kernel
theorem dX7_copy_27 : decode cX7_copy 27 = .ok (.iload 5, 2) := by decide +kernel
theorem dX7_copy_29 : decode cX7_copy 29 = .ok (.ifCond .lt 30, 3) := by decide +kernel
theorem dX7_copy_32 : decode cX7_copy 32 = .ok (.iload 5, 2) := by decide +kernel
theorem dX7_copy_34 : decode cX7_copy 34 = .ok (.aload_n 0, 1) := by decide +kernel
theorem dX7_copy_35 : decode cX7_copy 35 = .ok (.getfield 15, 3) := by decide +kernel
theorem dX7_copy_38 : decode cX7_copy 38 = .ok (.iload_n 1, 1) := by decide +kernel
theorem dX7_copy_39 : decode cX7_copy 39 = .ok (.iaload, 1) := by decide +kernel
theorem dX7_copy_40 : decode cX7_copy 40 = .ok (.iload_n 2, 1) := by decide +kernel
theorem dX7_copy_41 : decode cX7_copy 41 = .ok (.isub, 1) := by decide +kernel
theorem dX7_copy_42 : decode cX7_copy 42 = .ok (.if_icmp .gt 17, 3) := by decide +kernel
theorem dX7_copy_45 : decode cX7_copy 45 = .ok (.iload 5, 2) := by decide +kernel
theorem dX7_copy_47 : decode cX7_copy 47 = .ok (.aload_n 0, 1) := by decide +kernel
theorem dX7_copy_48 : decode cX7_copy 48 = .ok (.getfield 15, 3) := by decide +kernel
theorem dX7_copy_51 : decode cX7_copy 51 = .ok (.iload_n 3, 1) := by decide +kernel
theorem dX7_copy_52 : decode cX7_copy 52 = .ok (.iaload, 1) := by decide +kernel
theorem dX7_copy_53 : decode cX7_copy 53 = .ok (.iload 4, 2) := by decide +kernel
theorem dX7_copy_55 : decode cX7_copy 55 = .ok (.isub, 1) := by decide +kernel
theorem dX7_copy_56 : decode cX7_copy 56 = .ok (.if_icmp .le 6, 3) := by decide +kernel
theorem dX7_copy_59 : decode cX7_copy 59 = .ok (.bipush (-6), 2) := by decide +kernel
theorem dX7_copy_61 : decode cX7_copy 61 = .ok (.ireturn, 1) := by decide +kernel
theorem dX7_copy_62 : decode cX7_copy 62 = .ok (.aload_n 0, 1) := by decide +kernel
theorem dX7_copy_63 : decode cX7_copy 63 = .ok (.getfield 9, 3) := by decide +kernel
theorem dX7_copy_66 : decode cX7_copy 66 = .ok (.iload_n 1, 1) := by decide +kernel
theorem dX7_copy_67 : decode cX7_copy 67 = .ok (.bipush 60, 2) := by decide +kernel
theorem dX7_copy_69 : decode cX7_copy 69 = .ok (.imul, 1) := by decide +kernel
theorem dX7_copy_70 : decode cX7_copy 70 = .ok (.iload_n 2, 1) := by decide +kernel
theorem dX7_copy_71 : decode cX7_copy 71 = .ok (.iadd, 1) := by decide +kernel
theorem dX7_copy_72 : decode cX7_copy 72 = .ok (.aload_n 0, 1) := by decide +kernel
theorem dX7_copy_73 : decode cX7_copy 73 = .ok (.getfield 9, 3) := by decide +kernel
theorem dX7_copy_76 : decode cX7_copy 76 = .ok (.iload_n 3, 1) := by decide +kernel
theorem dX7_copy_77 : decode cX7_copy 77 = .ok (.bipush 60, 2) := by decide +kernel
theorem dX7_copy_79 : decode cX7_copy 79 = .ok (.imul, 1) := by decide +kernel
theorem dX7_copy_80 : decode cX7_copy 80 = .ok (.iload 4, 2) := by decide +kernel
theorem dX7_copy_82 : decode cX7_copy 82 = .ok (.iadd, 1) := by decide +kernel
theorem dX7_copy_83 : decode cX7_copy 83 = .ok (.iload 5, 2) := by decide +kernel
theorem dX7_copy_85 : decode cX7_copy 85 = .ok (.invokestatic 49, 3) := by decide +kernel
theorem dX7_copy_88 : decode cX7_copy 88 = .ok (.iconst 0, 1) := by decide +kernel
theorem dX7_copy_89 : decode cX7_copy 89 = .ok (.ireturn, 1) := by decide +kernel
def fX7_copy (a1 : Int32) (a2 : Int32) (a3 : Int32) (a4 : Int32) (a5 : Int32) (h : Hp) : Option (Int32 × Hp) := gd (ib a1 4) (gd (ib a3 4) (br ((gI h 40 0 (ix a1)) = (gI h 40 0 (ix a3))) (br (a2 < 0) (some ((-6), h)) (br (a4 < 0) (some ((-6), h)) (br (a5 < 0) (some ((-6), h)) (gd (ib a1 4) (br (((gI h 39 0 (ix a1)) - a2) < a5) (some ((-6), h)) (gd (ib a3 4) (br (a5 ≤ ((gI h 39 0 (ix a3)) - a4)) (gd (0 ≤ ((a1 * 60) + a2).toInt ∧ 0 ≤ ((a3 * 60) + a4).toInt ∧ 0 ≤ a5.toInt ∧ ((a1 * 60) + a2).toInt + a5.toInt ≤ 240 ∧ ((a3 * 60) + a4).toInt + a5.toInt ≤ 240) (lb (cpJ h 38 0 (ix ((a1 * 60) + a2)) (ix ((a3 * 60) + a4)) (ix a5)) (fun h6 => some (0, h6)))) (some ((-6), h))))))))) (some ((-7), h))))
set_option maxRecDepth 20000 in
theorem tX7_copy {X : Cz} {a1 : Int32} {a2 : Int32} {a3 : Int32} {a4 : Int32} {a5 : Int32} {h hE : Hp} {rE : Int32} (hF : fX7_copy a1 a2 a3 a4 a5 h = some (rE, hE)) : Ct X mX7_copy true [zr 7 0, zi a1, zi a2, zi a3, zi a4, zi a5] h (some (zi rE)) hE := by
  refine Ct_of (by decide) (Nat.le_of_ble_eq_true rfl) (ls := [(0, zr 7 0), (1, zi a1), (2, zi a2), (3, zi a3), (4, zi a4), (5, zi a5)]) rfl ?_
  unfold fX7_copy at hF
  refine v_aload_n (j := 0) dX7_copy_0 rfl ?_
  refine v_getL (c := 7) rfl rfl rfl ly7_2 cz7 flX7_19 dX7_copy_1 ?_
  refine v_iload_n (j := 1) dX7_copy_4 rfl ?_
  replace hF := gd_use hF
  obtain ⟨q1, hF⟩ := hF
  refine v_iald rfl q1 dX7_copy_5 ?_
  refine v_aload_n (j := 0) dX7_copy_6 rfl ?_
  refine v_getL (c := 7) rfl rfl rfl ly7_2 cz7 flX7_19 dX7_copy_7 ?_
  refine v_iload_n (j := 3) dX7_copy_10 rfl ?_
  replace hF := gd_use hF
  obtain ⟨q2, hF⟩ := hF
  refine v_iald rfl q2 dX7_copy_11 ?_
  refine v_icmp_eq dX7_copy_12 (by decide : _ = ((18 : Nat) : Int)) (fun q => ?_) (fun q => ?_)
  · replace hF := brT q hF
    refine v_iload_n (j := 2) dX7_copy_18 rfl ?_
    refine v_if_lt dX7_copy_19 (by decide : _ = ((59 : Nat) : Int)) (fun q => ?_) (fun q => ?_)
    · replace hF := brT q hF
      refine v_bipush (v := (-6)) dX7_copy_59 (by decide) ?_
      obtain ⟨rfl, rfl⟩ := ret_use hF
      exact v_iret rfl dX7_copy_61
    · replace hF := brF q hF
      refine v_iload (j := 4) dX7_copy_22 rfl ?_
      refine v_if_lt dX7_copy_24 (by decide : _ = ((59 : Nat) : Int)) (fun q => ?_) (fun q => ?_)
      · replace hF := brT q hF
        refine v_bipush (v := (-6)) dX7_copy_59 (by decide) ?_
        obtain ⟨rfl, rfl⟩ := ret_use hF
        exact v_iret rfl dX7_copy_61
      · replace hF := brF q hF
        refine v_iload (j := 5) dX7_copy_27 rfl ?_
        refine v_if_lt dX7_copy_29 (by decide : _ = ((59 : Nat) : Int)) (fun q => ?_) (fun q => ?_)
        · replace hF := brT q hF
          refine v_bipush (v := (-6)) dX7_copy_59 (by decide) ?_
          obtain ⟨rfl, rfl⟩ := ret_use hF
          exact v_iret rfl dX7_copy_61
        · replace hF := brF q hF
          refine v_iload (j := 5) dX7_copy_32 rfl ?_
          refine v_aload_n (j := 0) dX7_copy_34 rfl ?_
          refine v_getL (c := 7) rfl rfl rfl ly7_1 cz7 flX7_15 dX7_copy_35 ?_
          refine v_iload_n (j := 1) dX7_copy_38 rfl ?_
          replace hF := gd_use hF
          obtain ⟨q3, hF⟩ := hF
          refine v_iald rfl q3 dX7_copy_39 ?_
          refine v_iload_n (j := 2) dX7_copy_40 rfl ?_
          refine v_isub dX7_copy_41 ?_
          refine v_icmp_gt dX7_copy_42 (by decide : _ = ((59 : Nat) : Int)) (fun q => ?_) (fun q => ?_)
          · replace hF := brT q hF
            refine v_bipush (v := (-6)) dX7_copy_59 (by decide) ?_
            obtain ⟨rfl, rfl⟩ := ret_use hF
            exact v_iret rfl dX7_copy_61
          · replace hF := brF q hF
            refine v_iload (j := 5) dX7_copy_45 rfl ?_
            refine v_aload_n (j := 0) dX7_copy_47 rfl ?_
            refine v_getL (c := 7) rfl rfl rfl ly7_1 cz7 flX7_15 dX7_copy_48 ?_
            refine v_iload_n (j := 3) dX7_copy_51 rfl ?_
            replace hF := gd_use hF
            obtain ⟨q4, hF⟩ := hF
            refine v_iald rfl q4 dX7_copy_52 ?_
            refine v_iload (j := 4) dX7_copy_53 rfl ?_
            refine v_isub dX7_copy_55 ?_
            refine v_icmp_le dX7_copy_56 (by decide : _ = ((62 : Nat) : Int)) (fun q => ?_) (fun q => ?_)
            · replace hF := brT q hF
              refine v_aload_n (j := 0) dX7_copy_62 rfl ?_
              refine v_getL (c := 7) rfl rfl rfl ly7_0 cz7 flX7_9 dX7_copy_63 ?_
              refine v_iload_n (j := 1) dX7_copy_66 rfl ?_
              refine v_bipush (v := 60) dX7_copy_67 (by decide) ?_
              refine v_imul dX7_copy_69 ?_
              refine v_iload_n (j := 2) dX7_copy_70 rfl ?_
              refine v_iadd dX7_copy_71 ?_
              refine v_aload_n (j := 0) dX7_copy_72 rfl ?_
              refine v_getL (c := 7) rfl rfl rfl ly7_0 cz7 flX7_9 dX7_copy_73 ?_
              refine v_iload_n (j := 3) dX7_copy_76 rfl ?_
              refine v_bipush (v := 60) dX7_copy_77 (by decide) ?_
              refine v_imul dX7_copy_79 ?_
              refine v_iload (j := 4) dX7_copy_80 rfl ?_
              refine v_iadd dX7_copy_82 ?_
              refine v_iload (j := 5) dX7_copy_83 rfl ?_
              replace hF := gd_use hF
              obtain ⟨q5, hF⟩ := hF
              refine v_acopy rfl acL acN acS acI q5.1 q5.2.1 q5.2.2.1 q5.2.2.2.1 q5.2.2.2.2 (by decide) (by decide) dX7_copy_85 ?_
              refine v_toph fun h6 eh6 => ?_
              replace hF := lb_use eh6 hF
              clear eh6
              refine v_iconst (v := 0) dX7_copy_88 (by decide) ?_
              obtain ⟨rfl, rfl⟩ := ret_use hF
              exact v_iret rfl dX7_copy_89
            · replace hF := brF q hF
              refine v_bipush (v := (-6)) dX7_copy_59 (by decide) ?_
              obtain ⟨rfl, rfl⟩ := ret_use hF
              exact v_iret rfl dX7_copy_61
  · replace hF := brF q hF
    refine v_bipush (v := (-7)) dX7_copy_15 (by decide) ?_
    obtain ⟨rfl, rfl⟩ := ret_use hF
    exact v_iret rfl dX7_copy_17
theorem dX11_paste_0 : decode cX11_paste 0 = .ok (.aload_n 0, 1) := by decide +kernel
theorem dX11_paste_1 : decode cX11_paste 1 = .ok (.getfield 65, 3) := by decide +kernel
theorem dX11_paste_4 : decode cX11_paste 4 = .ok (.iload_n 1, 1) := by decide +kernel
theorem dX11_paste_5 : decode cX11_paste 5 = .ok (.invokevirtual 245, 3) := by decide +kernel
theorem dX11_paste_8 : decode cX11_paste 8 = .ok (.ifCond .eq 14, 3) := by decide +kernel
theorem dX11_paste_11 : decode cX11_paste 11 = .ok (.aload_n 0, 1) := by decide +kernel
theorem dX11_paste_12 : decode cX11_paste 12 = .ok (.getfield 65, 3) := by decide +kernel
theorem dX11_paste_15 : decode cX11_paste 15 = .ok (.iload_n 3, 1) := by decide +kernel
theorem dX11_paste_16 : decode cX11_paste 16 = .ok (.invokevirtual 245, 3) := by decide +kernel
theorem dX11_paste_19 : decode cX11_paste 19 = .ok (.ifCond .ne 6, 3) := by decide +kernel
theorem dX11_paste_22 : decode cX11_paste 22 = .ok (.bipush (-2), 2) := by decide +kernel
theorem dX11_paste_24 : decode cX11_paste 24 = .ok (.ireturn, 1) := by decide +kernel
theorem dX11_paste_25 : decode cX11_paste 25 = .ok (.aload_n 0, 1) := by decide +kernel
theorem dX11_paste_26 : decode cX11_paste 26 = .ok (.getfield 65, 3) := by decide +kernel
theorem dX11_paste_29 : decode cX11_paste 29 = .ok (.iload_n 1, 1) := by decide +kernel
theorem dX11_paste_30 : decode cX11_paste 30 = .ok (.invokevirtual 248, 3) := by decide +kernel
theorem dX11_paste_33 : decode cX11_paste 33 = .ok (.ifCond .eq 14, 3) := by decide +kernel
theorem dX11_paste_36 : decode cX11_paste 36 = .ok (.aload_n 0, 1) := by decide +kernel
theorem dX11_paste_37 : decode cX11_paste 37 = .ok (.getfield 65, 3) := by decide +kernel
theorem dX11_paste_40 : decode cX11_paste 40 = .ok (.iload_n 3, 1) := by decide +kernel
theorem dX11_paste_41 : decode cX11_paste 41 = .ok (.invokevirtual 248, 3) := by decide +kernel
theorem dX11_paste_44 : decode cX11_paste 44 = .ok (.ifCond .ne 6, 3) := by decide +kernel
theorem dX11_paste_47 : decode cX11_paste 47 = .ok (.bipush (-5), 2) := by decide +kernel
theorem dX11_paste_49 : decode cX11_paste 49 = .ok (.ireturn, 1) := by decide +kernel
theorem dX11_paste_50 : decode cX11_paste 50 = .ok (.aload_n 0, 1) := by decide +kernel
theorem dX11_paste_51 : decode cX11_paste 51 = .ok (.getfield 65, 3) := by decide +kernel
theorem dX11_paste_54 : decode cX11_paste 54 = .ok (.iload_n 1, 1) := by decide +kernel
theorem dX11_paste_55 : decode cX11_paste 55 = .ok (.iload_n 2, 1) := by decide +kernel
theorem dX11_paste_56 : decode cX11_paste 56 = .ok (.iload_n 3, 1) := by decide +kernel
theorem dX11_paste_57 : decode cX11_paste 57 = .ok (.iload 4, 2) := by decide +kernel
theorem dX11_paste_59 : decode cX11_paste 59 = .ok (.iload 5, 2) := by decide +kernel
theorem dX11_paste_61 : decode cX11_paste 61 = .ok (.invokevirtual 435, 3) := by decide +kernel
theorem dX11_paste_64 : decode cX11_paste 64 = .ok (.ireturn, 1) := by decide +kernel
def fX11_paste (a1 : Int32) (a2 : Int32) (a3 : Int32) (a4 : Int32) (a5 : Int32) (h : Hp) : Option (Int32 × Hp) := br ((fX7_isPlace a1 h) = 0) (some ((-2), h)) (br ((fX7_isPlace a3 h) = 0) (some ((-2), h)) (bd (fX7_isFilled a1 h) (fun r1 h2 => br (r1 = 0) (some ((-5), h2)) (bd (fX7_isFilled a3 h2) (fun r3 h4 => br (r3 = 0) (some ((-5), h4)) (bd (fX7_copy a1 a2 a3 a4 a5 h4) (fun r5 h6 => some (r5, h6))))))))
set_option maxRecDepth 20000 in
theorem tX11_paste {X : Cz} {a1 : Int32} {a2 : Int32} {a3 : Int32} {a4 : Int32} {a5 : Int32} {h hE : Hp} {rE : Int32} (hF : fX11_paste a1 a2 a3 a4 a5 h = some (rE, hE)) : Ct X mX11_paste true [zr 11 0, zi a1, zi a2, zi a3, zi a4, zi a5] h (some (zi rE)) hE := by
  refine Ct_of (by decide) (Nat.le_of_ble_eq_true rfl) (ls := [(0, zr 11 0), (1, zi a1), (2, zi a2), (3, zi a3), (4, zi a4), (5, zi a5)]) rfl ?_
  unfold fX11_paste at hF
  refine v_aload_n (j := 0) dX11_paste_0 rfl ?_
  refine v_getL (c := 11) rfl rfl rfl ly11_7 cz11 flX11_65 dX11_paste_1 ?_
  refine v_iload_n (j := 1) dX11_paste_4 rfl ?_
  refine v_cV (hm := h) (av := [zi a1]) (st := []) (stn := [zi (fX7_isPlace a1 h)]) (tX7_isPlace a1 h) lcX7_isPlace mlX11_245 imX7_isPlace seX7_isPlace rfl rfl rfl rfl ⟨by decide, by decide⟩ (Nat.le_of_ble_eq_true rfl) dX11_paste_5 rfl rfl ?_
  refine v_if_eq dX11_paste_8 (by decide : _ = ((22 : Nat) : Int)) (fun q => ?_) (fun q => ?_)
  · replace hF := brT q hF
    refine v_bipush (v := (-2)) dX11_paste_22 (by decide) ?_
    obtain ⟨rfl, rfl⟩ := ret_use hF
    exact v_iret rfl dX11_paste_24
  · replace hF := brF q hF
    refine v_aload_n (j := 0) dX11_paste_11 rfl ?_
    refine v_getL (c := 11) rfl rfl rfl ly11_7 cz11 flX11_65 dX11_paste_12 ?_
    refine v_iload_n (j := 3) dX11_paste_15 rfl ?_
    refine v_cV (hm := h) (av := [zi a3]) (st := []) (stn := [zi (fX7_isPlace a3 h)]) (tX7_isPlace a3 h) lcX7_isPlace mlX11_245 imX7_isPlace seX7_isPlace rfl rfl rfl rfl ⟨by decide, by decide⟩ (Nat.le_of_ble_eq_true rfl) dX11_paste_16 rfl rfl ?_
    refine v_if_ne dX11_paste_19 (by decide : _ = ((25 : Nat) : Int)) (fun q => ?_) (fun q => ?_)
    · replace hF := brF q hF
      refine v_aload_n (j := 0) dX11_paste_25 rfl ?_
      refine v_getL (c := 11) rfl rfl rfl ly11_7 cz11 flX11_65 dX11_paste_26 ?_
      refine v_iload_n (j := 1) dX11_paste_29 rfl ?_
      replace hF := bd_use hF
      obtain ⟨r1, h2, er1, hF⟩ := hF
      refine v_cV (hm := h2) (av := [zi a1]) (st := []) (stn := [zi r1]) (tX7_isFilled er1) lcX7_isFilled mlX11_248 imX7_isFilled seX7_isFilled rfl rfl rfl rfl ⟨by decide, by decide⟩ (Nat.le_of_ble_eq_true rfl) dX11_paste_30 rfl rfl ?_
      clear er1
      refine v_if_eq dX11_paste_33 (by decide : _ = ((47 : Nat) : Int)) (fun q => ?_) (fun q => ?_)
      · replace hF := brT q hF
        refine v_bipush (v := (-5)) dX11_paste_47 (by decide) ?_
        obtain ⟨rfl, rfl⟩ := ret_use hF
        exact v_iret rfl dX11_paste_49
      · replace hF := brF q hF
        refine v_aload_n (j := 0) dX11_paste_36 rfl ?_
        refine v_getL (c := 11) rfl rfl rfl ly11_7 cz11 flX11_65 dX11_paste_37 ?_
        refine v_iload_n (j := 3) dX11_paste_40 rfl ?_
        replace hF := bd_use hF
        obtain ⟨r3, h4, er3, hF⟩ := hF
        refine v_cV (hm := h4) (av := [zi a3]) (st := []) (stn := [zi r3]) (tX7_isFilled er3) lcX7_isFilled mlX11_248 imX7_isFilled seX7_isFilled rfl rfl rfl rfl ⟨by decide, by decide⟩ (Nat.le_of_ble_eq_true rfl) dX11_paste_41 rfl rfl ?_
        clear er3
        refine v_if_ne dX11_paste_44 (by decide : _ = ((50 : Nat) : Int)) (fun q => ?_) (fun q => ?_)
        · replace hF := brF q hF
          refine v_aload_n (j := 0) dX11_paste_50 rfl ?_
          refine v_getL (c := 11) rfl rfl rfl ly11_7 cz11 flX11_65 dX11_paste_51 ?_
          refine v_iload_n (j := 1) dX11_paste_54 rfl ?_
          refine v_iload_n (j := 2) dX11_paste_55 rfl ?_
          refine v_iload_n (j := 3) dX11_paste_56 rfl ?_
          refine v_iload (j := 4) dX11_paste_57 rfl ?_
          refine v_iload (j := 5) dX11_paste_59 rfl ?_
          replace hF := bd_use hF
          obtain ⟨r5, h6, er5, hF⟩ := hF
          refine v_cV (hm := h6) (av := [zi a1, zi a2, zi a3, zi a4, zi a5]) (st := []) (stn := [zi r5]) (tX7_copy er5) lcX7_copy mlX11_435 imX7_copy seX7_copy rfl rfl rfl rfl ⟨by decide, by decide⟩ (Nat.le_of_ble_eq_true rfl) dX11_paste_61 rfl rfl ?_
          clear er5
          obtain ⟨rfl, rfl⟩ := ret_use hF
          exact v_iret rfl dX11_paste_64
        · replace hF := brT (Decidable.not_not.mp q) hF
          refine v_bipush (v := (-5)) dX11_paste_47 (by decide) ?_
          obtain ⟨rfl, rfl⟩ := ret_use hF
          exact v_iret rfl dX11_paste_49
    · replace hF := brT (Decidable.not_not.mp q) hF
      refine v_bipush (v := (-2)) dX11_paste_22 (by decide) ?_
      obtain ⟨rfl, rfl⟩ := ret_use hF
      exact v_iret rfl dX11_paste_24
