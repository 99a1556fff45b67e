/-! functions and ties, printed by program (wip/gen/dec.py) -/
theorem dX12_bench_0 : decode cX12_bench 0 = .ok (.aload_n 0, 1) := by decide +kernel
theorem dX12_bench_1 : decode cX12_bench 1 = .ok (.iconst 0, 1) := by decide +kernel
theorem dX12_bench_2 : decode cX12_bench 2 = .ok (.putfield 208, 3) := by decide +kernel
theorem dX12_bench_5 : decode cX12_bench 5 = .ok (.iload_n 3, 1) := by decide +kernel
theorem dX12_bench_6 : decode cX12_bench 6 = .ok (.i2l, 1) := by decide +kernel
theorem dX12_bench_7 : decode cX12_bench 7 = .ok (.ldc2_w 244, 3) := by decide +kernel
theorem dX12_bench_10 : decode cX12_bench 10 = .ok (.ldc2_w 246, 3) := by decide +kernel
theorem dX12_bench_13 : decode cX12_bench 13 = .ok (.invokestatic 213, 3) := by decide +kernel
theorem dX12_bench_16 : decode cX12_bench 16 = .ok (.ifCond .eq 27, 3) := by decide +kernel
theorem dX12_bench_19 : decode cX12_bench 19 = .ok (.iload_n 1, 1) := by decide +kernel
theorem dX12_bench_20 : decode cX12_bench 20 = .ok (.iload_n 2, 1) := by decide +kernel
theorem dX12_bench_21 : decode cX12_bench 21 = .ok (.invokestatic 227, 3) := by decide +kernel
theorem dX12_bench_24 : decode cX12_bench 24 = .ok (.ifCond .eq 19, 3) := by decide +kernel
theorem dX12_bench_27 : decode cX12_bench 27 = .ok (.iload_n 1, 1) := by decide +kernel
theorem dX12_bench_28 : decode cX12_bench 28 = .ok (.iload_n 3, 1) := by decide +kernel
theorem dX12_bench_29 : decode cX12_bench 29 = .ok (.iadd, 1) := by decide +kernel
theorem dX12_bench_30 : decode cX12_bench 30 = .ok (.iconst 1, 1) := by decide +kernel
theorem dX12_bench_31 : decode cX12_bench 31 = .ok (.isub, 1) := by decide +kernel
theorem dX12_bench_32 : decode cX12_bench 32 = .ok (.i2l, 1) := by decide +kernel
theorem dX12_bench_33 : decode cX12_bench 33 = .ok (.lconst 0, 1) := by decide +kernel
theorem dX12_bench_34 : decode cX12_bench 34 = .ok (.ldc2_w 225, 3) := by decide +kernel
theorem dX12_bench_37 : decode cX12_bench 37 = .ok (.invokestatic 213, 3) := by decide +kernel
theorem dX12_bench_40 : decode cX12_bench 40 = .ok (.ifCond .ne 6, 3) := by decide +kernel
theorem dX12_bench_43 : decode cX12_bench 43 = .ok (.bipush (-2), 2) := by decide +kernel
theorem dX12_bench_45 : decode cX12_bench 45 = .ok (.ireturn, 1) := by decide +kernel
theorem dX12_bench_46 : decode cX12_bench 46 = .ok (.aload_n 0, 1) := by decide +kernel
theorem dX12_bench_47 : decode cX12_bench 47 = .ok (.getfield 248, 3) := by decide +kernel
theorem dX12_bench_50 : decode cX12_bench 50 = .ok (.bipush 8, 2) := by decide +kernel
theorem dX12_bench_52 : decode cX12_bench 52 = .ok (.if_icmp .ne 6, 3) := by decide +kernel
theorem dX12_bench_55 : decode cX12_bench 55 = .ok (.bipush (-3), 2) := by decide +kernel
theorem dX12_bench_57 : decode cX12_bench 57 = .ok (.ireturn, 1) := by decide +kernel
theorem dX12_bench_58 : decode cX12_bench 58 = .ok (.aload_n 0, 1) := by decide +kernel
theorem dX12_bench_59 : decode cX12_bench 59 = .ok (.getfield 251, 3) := by decide +kernel
theorem dX12_bench_62 : decode cX12_bench 62 = .ok (.ifCond .le 6, 3) := by decide +kernel
theorem dX12_bench_65 : decode cX12_bench 65 = .ok (.bipush (-9), 2) := by decide +kernel
theorem dX12_bench_67 : decode cX12_bench 67 = .ok (.ireturn, 1) := by decide +kernel
theorem dX12_bench_68 : decode cX12_bench 68 = .ok (.aload_n 0, 1) := by decide +kernel
theorem dX12_bench_69 : decode cX12_bench 69 = .ok (.getfield 48, 3) := by decide +kernel
theorem dX12_bench_72 : decode cX12_bench 72 = .ok (.aload_n 0, 1) := by decide +kernel
theorem dX12_bench_73 : decode cX12_bench 73 = .ok (.getfield 248, 3) := by decide +kernel
theorem dX12_bench_76 : decode cX12_bench 76 = .ok (.iload_n 1, 1) := by decide +kernel
theorem dX12_bench_77 : decode cX12_bench 77 = .ok (.iastore, 1) := by decide +kernel
theorem dX12_bench_78 : decode cX12_bench 78 = .ok (.aload_n 0, 1) := by decide +kernel
theorem dX12_bench_79 : decode cX12_bench 79 = .ok (.getfield 51, 3) := by decide +kernel
theorem dX12_bench_82 : decode cX12_bench 82 = .ok (.aload_n 0, 1) := by decide +kernel
theorem dX12_bench_83 : decode cX12_bench 83 = .ok (.getfield 248, 3) := by decide +kernel
theorem dX12_bench_86 : decode cX12_bench 86 = .ok (.iload_n 2, 1) := by decide +kernel
theorem dX12_bench_87 : decode cX12_bench 87 = .ok (.iastore, 1) := by decide +kernel
theorem dX12_bench_88 : decode cX12_bench 88 = .ok (.aload_n 0, 1) := by decide +kernel
theorem dX12_bench_89 : decode cX12_bench 89 = .ok (.getfield 54, 3) := by decide +kernel
theorem dX12_bench_92 : decode cX12_bench 92 = .ok (.aload_n 0, 1) := by decide +kernel
theorem dX12_bench_93 : decode cX12_bench 93 = .ok (.getfield 248, 3) := by decide +kernel
theorem dX12_bench_96 : decode cX12_bench 96 = .ok (.iload_n 3, 1) := by decide +kernel
theorem dX12_bench_97 : decode cX12_bench 97 = .ok (.iastore, 1) := by decide +kernel
theorem dX12_bench_98 : decode cX12_bench 98 = .ok (.aload_n 0, 1) := by decide +kernel
theorem dX12_bench_99 : decode cX12_bench 99 = .ok (.getfield 57, 3) := by decide +kernel
theorem dX12_bench_102 : decode cX12_bench 102 = .ok (.aload_n 0, 1) := by decide +kernel
theorem dX12_bench_103 : decode cX12_bench 103 = .ok (.getfield 248, 3) := by decide +kernel
theorem dX12_bench_106 : decode cX12_bench 106 = .ok (.iload 4, 2) := by decide +kernel
theorem dX12_bench_108 : decode cX12_bench 108 = .ok (.bastore, 1) := by decide +kernel
theorem dX12_bench_109 : decode cX12_bench 109 = .ok (.aload_n 0, 1) := by decide +kernel
theorem dX12_bench_110 : decode cX12_bench 110 = .ok (.dup, 1) := by decide +kernel
theorem dX12_bench_111 : decode cX12_bench 111 = .ok (.getfield 248, 3) := by decide +kernel
theorem dX12_bench_114 : decode cX12_bench 114 = .ok (.iconst 1, 1) := by decide +kernel
theorem dX12_bench_115 : decode cX12_bench 115 = .ok (.iadd, 1) := by decide +kernel
theorem dX12_bench_116 : decode cX12_bench 116 = .ok (.putfield 248, 3) := by decide +kernel
theorem dX12_bench_119 : decode cX12_bench 119 = .ok (.aload_n 0, 1) := by decide +kernel
theorem dX12_bench_120 : decode cX12_bench 120 = .ok (.getfield 248, 3) := by decide +kernel
theorem dX12_bench_123 : decode cX12_bench 123 = .ok (.iconst 1, 1) := by decide +kernel
theorem dX12_bench_124 : decode cX12_bench 124 = .ok (.isub, 1) := by decide +kernel
theorem dX12_bench_125 : decode cX12_bench 125 = .ok (.ireturn, 1) := by decide +kernel
def fX12_bench (a1 : Int32) (a2 : Int32) (a3 : Int32) (a4 : Int32) (h : Hp) : Option (Int32 × Hp) := lb (sI h 12 0 0 0) (fun h1 => br ((fX12_in a3.toInt64 4 32 h1) = 0) (some ((-2), h1)) (br ((fX12_isPoint a1 a2 h1) = 0) (some ((-2), h1)) (br ((fX12_in (((a1 + a3) - 1).toInt64) 0 60 h1) = 0) (some ((-2), h1)) (br ((gI h1 12 0 7) = 8) (some ((-3), h1)) (br ((gI h1 12 0 5) ≤ 0) (gd (ib (gI h1 12 0 7) 8) (lb (sI h1 61 0 (ix (gI h1 12 0 7)) a1) (fun h3 => gd (ib (gI h3 12 0 7) 8) (lb (sI h3 62 0 (ix (gI h3 12 0 7)) a2) (fun h5 => gd (ib (gI h5 12 0 7) 8) (lb (sI h5 63 0 (ix (gI h5 12 0 7)) a3) (fun h7 => gd (ib (gI h7 12 0 7) 8) (lb (sI h7 64 0 (ix (gI h7 12 0 7)) (a4 &&& 1)) (fun h9 => lb (sI h9 12 0 7 ((gI h9 12 0 7) + 1)) (fun h10 => some ((gI h10 12 0 7) - 1, h10))))))))))) (some ((-9), h1)))))))
set_option maxRecDepth 20000 in
theorem tX12_bench {X : Cz} {a1 : Int32} {a2 : Int32} {a3 : Int32} {a4 : Int32} {h hE : Hp} {rE : Int32} (hF : fX12_bench a1 a2 a3 a4 h = some (rE, hE)) : Ct X mX12_bench true [zr 12 0, zi a1, zi a2, zi a3, zi a4] h (some (zi rE)) hE := by
  refine Ct_of (by decide) (Nat.le_of_ble_eq_true rfl) (ls := [(0, zr 12 0), (1, zi a1), (2, zi a2), (3, zi a3), (4, zi a4)]) rfl ?_
  unfold fX12_bench at hF
  refine v_aload_n (j := 0) dX12_bench_0 rfl ?_
  refine v_iconst (v := 0) dX12_bench_1 (by decide) ?_
  refine v_putI (c := 12) rfl rfl (Nat.le_of_ble_eq_true rfl) cz12 flX12_208 dX12_bench_2 ?_
  refine v_toph fun h1 eh1 => ?_
  replace hF := lb_use eh1 hF
  clear eh1
  refine v_iload_n (j := 3) dX12_bench_5 rfl ?_
  refine v_i2l dX12_bench_6 ?_
  refine v_ldc2 dX12_bench_7 kcX12_244 ?_
  refine v_ldc2 dX12_bench_10 kcX12_246 ?_
  refine v_cS (hm := h1) (av := [zj a3.toInt64, zj 4, zj 32]) (st := []) (stn := [zi (fX12_in a3.toInt64 4 32 h1)]) (tX12_in a3.toInt64 4 32 h1) lcX12_in mlX12_213 sxX12_in rfl ⟨by decide, by decide⟩ (Nat.le_of_ble_eq_true rfl) dX12_bench_13 rfl rfl ?_
  refine v_if_eq dX12_bench_16 (by decide : _ = ((43 : Nat) : Int)) (fun q => ?_) (fun q => ?_)
  · replace hF := brT q hF
    refine v_bipush (v := (-2)) dX12_bench_43 (by decide) ?_
    obtain ⟨rfl, rfl⟩ := ret_use hF
    exact v_iret rfl dX12_bench_45
  · replace hF := brF q hF
    refine v_iload_n (j := 1) dX12_bench_19 rfl ?_
    refine v_iload_n (j := 2) dX12_bench_20 rfl ?_
    refine v_cS (hm := h1) (av := [zi a1, zi a2]) (st := []) (stn := [zi (fX12_isPoint a1 a2 h1)]) (tX12_isPoint a1 a2 h1) lcX12_isPoint mlX12_227 sxX12_isPoint rfl ⟨by decide, by decide⟩ (Nat.le_of_ble_eq_true rfl) dX12_bench_21 rfl rfl ?_
    refine v_if_eq dX12_bench_24 (by decide : _ = ((43 : Nat) : Int)) (fun q => ?_) (fun q => ?_)
    · replace hF := brT q hF
      refine v_bipush (v := (-2)) dX12_bench_43 (by decide) ?_
      obtain ⟨rfl, rfl⟩ := ret_use hF
      exact v_iret rfl dX12_bench_45
    · replace hF := brF q hF
      refine v_iload_n (j := 1) dX12_bench_27 rfl ?_
      refine v_iload_n (j := 3) dX12_bench_28 rfl ?_
      refine v_iadd dX12_bench_29 ?_
      refine v_iconst (v := 1) dX12_bench_30 (by decide) ?_
      refine v_isub dX12_bench_31 ?_
      refine v_i2l dX12_bench_32 ?_
      refine v_lconst (v := 0) dX12_bench_33 (by decide) ?_
      refine v_ldc2 dX12_bench_34 kcX12_225 ?_
      refine v_cS (hm := h1) (av := [zj (((a1 + a3) - 1).toInt64), zj 0, zj 60]) (st := []) (stn := [zi (fX12_in (((a1 + a3) - 1).toInt64) 0 60 h1)]) (tX12_in (((a1 + a3) - 1).toInt64) 0 60 h1) lcX12_in mlX12_213 sxX12_in rfl ⟨by decide, by decide⟩ (Nat.le_of_ble_eq_true rfl) dX12_bench_37 rfl rfl ?_
      refine v_if_ne dX12_bench_40 (by decide : _ = ((46 : Nat) : Int)) (fun q => ?_) (fun q => ?_)
      · replace hF := brF q hF
        refine v_aload_n (j := 0) dX12_bench_46 rfl ?_
        refine v_getI (c := 12) rfl (Or.inl rfl) cz12 flX12_248 dX12_bench_47 ?_
        refine v_bipush (v := 8) dX12_bench_50 (by decide) ?_
        refine v_icmp_ne dX12_bench_52 (by decide : _ = ((58 : Nat) : Int)) (fun q => ?_) (fun q => ?_)
        · replace hF := brF q hF
          refine v_aload_n (j := 0) dX12_bench_58 rfl ?_
          refine v_getI (c := 12) rfl (Or.inl rfl) cz12 flX12_251 dX12_bench_59 ?_
          refine v_if_le dX12_bench_62 (by decide : _ = ((68 : Nat) : Int)) (fun q => ?_) (fun q => ?_)
          · replace hF := brT q hF
            refine v_aload_n (j := 0) dX12_bench_68 rfl ?_
            refine v_getL (c := 12) rfl rfl rfl ly12_21 cz12 flX12_48 dX12_bench_69 ?_
            refine v_aload_n (j := 0) dX12_bench_72 rfl ?_
            refine v_getI (c := 12) rfl (Or.inl rfl) cz12 flX12_248 dX12_bench_73 ?_
            refine v_iload_n (j := 1) dX12_bench_76 rfl ?_
            replace hF := gd_use hF
            obtain ⟨q2, hF⟩ := hF
            refine v_iast rfl q2 dX12_bench_77 ?_
            refine v_toph fun h3 eh3 => ?_
            replace hF := lb_use eh3 hF
            clear eh3
            refine v_aload_n (j := 0) dX12_bench_78 rfl ?_
            refine v_getL (c := 12) rfl rfl rfl ly12_22 cz12 flX12_51 dX12_bench_79 ?_
            refine v_aload_n (j := 0) dX12_bench_82 rfl ?_
            refine v_getI (c := 12) rfl (Or.inl rfl) cz12 flX12_248 dX12_bench_83 ?_
            refine v_iload_n (j := 2) dX12_bench_86 rfl ?_
            replace hF := gd_use hF
            obtain ⟨q4, hF⟩ := hF
            refine v_iast rfl q4 dX12_bench_87 ?_
            refine v_toph fun h5 eh5 => ?_
            replace hF := lb_use eh5 hF
            clear eh5
            refine v_aload_n (j := 0) dX12_bench_88 rfl ?_
            refine v_getL (c := 12) rfl rfl rfl ly12_23 cz12 flX12_54 dX12_bench_89 ?_
            refine v_aload_n (j := 0) dX12_bench_92 rfl ?_
            refine v_getI (c := 12) rfl (Or.inl rfl) cz12 flX12_248 dX12_bench_93 ?_
            refine v_iload_n (j := 3) dX12_bench_96 rfl ?_
            replace hF := gd_use hF
            obtain ⟨q6, hF⟩ := hF
            refine v_iast rfl q6 dX12_bench_97 ?_
            refine v_toph fun h7 eh7 => ?_
            replace hF := lb_use eh7 hF
            clear eh7
            refine v_aload_n (j := 0) dX12_bench_98 rfl ?_
            refine v_getL (c := 12) rfl rfl rfl ly12_24 cz12 flX12_57 dX12_bench_99 ?_
            refine v_aload_n (j := 0) dX12_bench_102 rfl ?_
            refine v_getI (c := 12) rfl (Or.inl rfl) cz12 flX12_248 dX12_bench_103 ?_
            refine v_iload (j := 4) dX12_bench_106 rfl ?_
            replace hF := gd_use hF
            obtain ⟨q8, hF⟩ := hF
            refine v_zast rfl q8 dX12_bench_108 ?_
            refine v_toph fun h9 eh9 => ?_
            replace hF := lb_use eh9 hF
            clear eh9
            refine v_aload_n (j := 0) dX12_bench_109 rfl ?_
            refine v_dup dX12_bench_110 rfl ?_
            refine v_getI (c := 12) rfl (Or.inl rfl) cz12 flX12_248 dX12_bench_111 ?_
            refine v_iconst (v := 1) dX12_bench_114 (by decide) ?_
            refine v_iadd dX12_bench_115 ?_
            refine v_putI (c := 12) rfl rfl (Nat.le_of_ble_eq_true rfl) cz12 flX12_248 dX12_bench_116 ?_
            refine v_toph fun h10 eh10 => ?_
            replace hF := lb_use eh10 hF
            clear eh10
            refine v_aload_n (j := 0) dX12_bench_119 rfl ?_
            refine v_getI (c := 12) rfl (Or.inl rfl) cz12 flX12_248 dX12_bench_120 ?_
            refine v_iconst (v := 1) dX12_bench_123 (by decide) ?_
            refine v_isub dX12_bench_124 ?_
            obtain ⟨rfl, rfl⟩ := ret_use hF
            exact v_iret rfl dX12_bench_125
          · replace hF := brF q hF
            refine v_bipush (v := (-9)) dX12_bench_65 (by decide) ?_
            obtain ⟨rfl, rfl⟩ := ret_use hF
            exact v_iret rfl dX12_bench_67
        · replace hF := brT (Decidable.not_not.mp q) hF
          refine v_bipush (v := (-3)) dX12_bench_55 (by decide) ?_
          obtain ⟨rfl, rfl⟩ := ret_use hF
          exact v_iret rfl dX12_bench_57
      · replace hF := brT (Decidable.not_not.mp q) hF
        refine v_bipush (v := (-2)) dX12_bench_43 (by decide) ?_
        obtain ⟨rfl, rfl⟩ := ret_use hF
        exact v_iret rfl dX12_bench_45
theorem dX12_isBench_0 : decode cX12_isBench 0 = .ok (.iload_n 1, 1) := by decide +kernel
theorem dX12_isBench_1 : decode cX12_isBench 1 = .ok (.i2l, 1) := by decide +kernel
theorem dX12_isBench_2 : decode cX12_isBench 2 = .ok (.lconst 0, 1) := by decide +kernel
theorem dX12_isBench_3 : decode cX12_isBench 3 = .ok (.aload_n 0, 1) := by decide +kernel
theorem dX12_isBench_4 : decode cX12_isBench 4 = .ok (.getfield 248, 3) := by decide +kernel
theorem dX12_isBench_7 : decode cX12_isBench 7 = .ok (.iconst 1, 1) := by decide +kernel
theorem dX12_isBench_8 : decode cX12_isBench 8 = .ok (.isub, 1) := by decide +kernel
theorem dX12_isBench_9 : decode cX12_isBench 9 = .ok (.i2l, 1) := by decide +kernel
theorem dX12_isBench_10 : decode cX12_isBench 10 = .ok (.invokestatic 213, 3) := by decide +kernel
theorem dX12_isBench_13 : decode cX12_isBench 13 = .ok (.ireturn, 1) := by decide +kernel
def fX12_isBench (a1 : Int32) (h : Hp) : Int32 := fX12_in a1.toInt64 0 (((gI h 12 0 7) - 1).toInt64) h
set_option maxRecDepth 20000 in
theorem tX12_isBench {X : Cz} (a1 : Int32) (h : Hp) : Ct X mX12_isBench true [zr 12 0, zi a1] h (some (zi (fX12_isBench a1 h))) h := by
  refine Ct_of (by decide) (Nat.le_of_ble_eq_true rfl) (ls := [(0, zr 12 0), (1, zi a1)]) rfl ?_
  obtain ⟨rE, hF⟩ : ∃ z, fX12_isBench a1 h = z := ⟨_, rfl⟩
  rw [hF]
  unfold fX12_isBench at hF
  refine v_iload_n (j := 1) dX12_isBench_0 rfl ?_
  refine v_i2l dX12_isBench_1 ?_
  refine v_lconst (v := 0) dX12_isBench_2 (by decide) ?_
  refine v_aload_n (j := 0) dX12_isBench_3 rfl ?_
  refine v_getI (c := 12) rfl (Or.inl rfl) cz12 flX12_248 dX12_isBench_4 ?_
  refine v_iconst (v := 1) dX12_isBench_7 (by decide) ?_
  refine v_isub dX12_isBench_8 ?_
  refine v_i2l dX12_isBench_9 ?_
  refine v_cS (hm := h) (av := [zj a1.toInt64, zj 0, zj (((gI h 12 0 7) - 1).toInt64)]) (st := []) (stn := [zi (fX12_in a1.toInt64 0 (((gI h 12 0 7) - 1).toInt64) h)]) (tX12_in a1.toInt64 0 (((gI h 12 0 7) - 1).toInt64) h) lcX12_in mlX12_213 sxX12_in rfl ⟨by decide, by decide⟩ (Nat.le_of_ble_eq_true rfl) dX12_isBench_10 rfl rfl ?_
  subst hF
  exact v_zret rfl (zX12_in a1.toInt64 0 (((gI h 12 0 7) - 1).toInt64) h) dX12_isBench_13
theorem zX12_isBench (a1 : Int32) (h : Hp) : fX12_isBench a1 h = 0 ∨ fX12_isBench a1 h = 1 := by
  unfold fX12_isBench
  try unfold br
  try unfold lb
  try dsimp only
  repeat' split
  all_goals first | exact Or.inl rfl | exact Or.inr rfl | exact zX12_in _ _ _ _ 
theorem dX12_isUnit_0 : decode cX12_isUnit 0 = .ok (.aload_n 0, 1) := by decide +kernel
theorem dX12_isUnit_1 : decode cX12_isUnit 1 = .ok (.iload_n 1, 1) := by decide +kernel
theorem dX12_isUnit_2 : decode cX12_isUnit 2 = .ok (.invokevirtual 254, 3) := by decide +kernel
theorem dX12_isUnit_5 : decode cX12_isUnit 5 = .ok (.ifCond .eq 25, 3) := by decide +kernel
theorem dX12_isUnit_8 : decode cX12_isUnit 8 = .ok (.iload_n 2, 1) := by decide +kernel
theorem dX12_isUnit_9 : decode cX12_isUnit 9 = .ok (.i2l, 1) := by decide +kernel
theorem dX12_isUnit_10 : decode cX12_isUnit 10 = .ok (.lconst 0, 1) := by decide +kernel
theorem dX12_isUnit_11 : decode cX12_isUnit 11 = .ok (.aload_n 0, 1) := by decide +kernel
theorem dX12_isUnit_12 : decode cX12_isUnit 12 = .ok (.getfield 54, 3) := by decide +kernel
theorem dX12_isUnit_15 : decode cX12_isUnit 15 = .ok (.iload_n 1, 1) := by decide +kernel
theorem dX12_isUnit_16 : decode cX12_isUnit 16 = .ok (.iaload, 1) := by decide +kernel
theorem dX12_isUnit_17 : decode cX12_isUnit 17 = .ok (.iconst 1, 1) := by decide +kernel
theorem dX12_isUnit_18 : decode cX12_isUnit 18 = .ok (.isub, 1) := by decide +kernel
theorem dX12_isUnit_19 : decode cX12_isUnit 19 = .ok (.i2l, 1) := by decide +kernel
theorem dX12_isUnit_20 : decode cX12_isUnit 20 = .ok (.invokestatic 213, 3) := by decide +kernel
theorem dX12_isUnit_23 : decode cX12_isUnit 23 = .ok (.ifCond .eq 7, 3) := by decide +kernel
theorem dX12_isUnit_26 : decode cX12_isUnit 26 = .ok (.iconst 1, 1) := by decide +kernel
theorem dX12_isUnit_27 : decode cX12_isUnit 27 = .ok (.goto 4, 3) := by decide +kernel
theorem dX12_isUnit_30 : decode cX12_isUnit 30 = .ok (.iconst 0, 1) := by decide +kernel
theorem dX12_isUnit_31 : decode cX12_isUnit 31 = .ok (.ireturn, 1) := by decide +kernel
def fX12_isUnit (a1 : Int32) (a2 : Int32) (h : Hp) : Option (Int32 × Hp) := br ((fX12_isBench a1 h) = 0) (some (0, h)) (gd (ib a1 8) (br ((fX12_in a2.toInt64 0 (((gI h 63 0 (ix a1)) - 1).toInt64) h) = 0) (some (0, h)) (some (1, h))))
set_option maxRecDepth 20000 in
theorem tX12_isUnit {X : Cz} {a1 : Int32} {a2 : Int32} {h hE : Hp} {rE : Int32} (hF : fX12_isUnit a1 a2 h = some (rE, hE)) : Ct X mX12_isUnit true [zr 12 0, zi a1, zi a2] h (some (zi rE)) hE := by
  refine Ct_of (by decide) (Nat.le_of_ble_eq_true rfl) (ls := [(0, zr 12 0), (1, zi a1), (2, zi a2)]) rfl ?_
  unfold fX12_isUnit at hF
  refine v_aload_n (j := 0) dX12_isUnit_0 rfl ?_
  refine v_iload_n (j := 1) dX12_isUnit_1 rfl ?_
  refine v_cV (hm := h) (av := [zi a1]) (st := []) (stn := [zi (fX12_isBench a1 h)]) (tX12_isBench a1 h) lcX12_isBench mlX12_254 imX12_isBench seX12_isBench rfl rfl rfl rfl ⟨by decide, by decide⟩ (Nat.le_of_ble_eq_true rfl) dX12_isUnit_2 rfl rfl ?_
  refine v_if_eq dX12_isUnit_5 (by decide : _ = ((30 : Nat) : Int)) (fun q => ?_) (fun q => ?_)
  · replace hF := brT q hF
    refine v_iconst (v := 0) dX12_isUnit_30 (by decide) ?_
    obtain ⟨rfl, rfl⟩ := ret_use hF
    exact v_zret rfl (Or.inl rfl) dX12_isUnit_31
  · replace hF := brF q hF
    refine v_iload_n (j := 2) dX12_isUnit_8 rfl ?_
    refine v_i2l dX12_isUnit_9 ?_
    refine v_lconst (v := 0) dX12_isUnit_10 (by decide) ?_
    refine v_aload_n (j := 0) dX12_isUnit_11 rfl ?_
    refine v_getL (c := 12) rfl rfl rfl ly12_23 cz12 flX12_54 dX12_isUnit_12 ?_
    refine v_iload_n (j := 1) dX12_isUnit_15 rfl ?_
    replace hF := gd_use hF
    obtain ⟨q1, hF⟩ := hF
    refine v_iald rfl q1 dX12_isUnit_16 ?_
    refine v_iconst (v := 1) dX12_isUnit_17 (by decide) ?_
    refine v_isub dX12_isUnit_18 ?_
    refine v_i2l dX12_isUnit_19 ?_
    refine v_cS (hm := h) (av := [zj a2.toInt64, zj 0, zj (((gI h 63 0 (ix a1)) - 1).toInt64)]) (st := []) (stn := [zi (fX12_in a2.toInt64 0 (((gI h 63 0 (ix a1)) - 1).toInt64) h)]) (tX12_in a2.toInt64 0 (((gI h 63 0 (ix a1)) - 1).toInt64) h) lcX12_in mlX12_213 sxX12_in rfl ⟨by decide, by decide⟩ (Nat.le_of_ble_eq_true rfl) dX12_isUnit_20 rfl rfl ?_
    refine v_if_eq dX12_isUnit_23 (by decide : _ = ((30 : Nat) : Int)) (fun q => ?_) (fun q => ?_)
    · replace hF := brT q hF
      refine v_iconst (v := 0) dX12_isUnit_30 (by decide) ?_
      obtain ⟨rfl, rfl⟩ := ret_use hF
      exact v_zret rfl (Or.inl rfl) dX12_isUnit_31
    · replace hF := brF q hF
      refine v_iconst (v := 1) dX12_isUnit_26 (by decide) ?_
      refine v_goto (tgt := 31) dX12_isUnit_27 (by decide) ?_
      obtain ⟨rfl, rfl⟩ := ret_use hF
      exact v_zret rfl (Or.inr rfl) dX12_isUnit_31
theorem dX12_isRun_0 : decode cX12_isRun 0 = .ok (.aload_n 0, 1) := by decide +kernel
theorem dX12_isRun_1 : decode cX12_isRun 1 = .ok (.iload_n 1, 1) := by decide +kernel
theorem dX12_isRun_2 : decode cX12_isRun 2 = .ok (.invokevirtual 254, 3) := by decide +kernel
theorem dX12_isRun_5 : decode cX12_isRun 5 = .ok (.ifCond .eq 32, 3) := by decide +kernel
theorem dX12_isRun_8 : decode cX12_isRun 8 = .ok (.iload_n 2, 1) := by decide +kernel
theorem dX12_isRun_9 : decode cX12_isRun 9 = .ok (.ifCond .lt 28, 3) := by decide +kernel
theorem dX12_isRun_12 : decode cX12_isRun 12 = .ok (.iload_n 3, 1) := by decide +kernel
theorem dX12_isRun_13 : decode cX12_isRun 13 = .ok (.iconst 1, 1) := by decide +kernel
theorem dX12_isRun_14 : decode cX12_isRun 14 = .ok (.if_icmp .lt 23, 3) := by decide +kernel
theorem dX12_isRun_17 : decode cX12_isRun 17 = .ok (.iload_n 2, 1) := by decide +kernel
theorem dX12_isRun_18 : decode cX12_isRun 18 = .ok (.i2l, 1) := by decide +kernel
theorem dX12_isRun_19 : decode cX12_isRun 19 = .ok (.iload_n 3, 1) := by decide +kernel
theorem dX12_isRun_20 : decode cX12_isRun 20 = .ok (.i2l, 1) := by decide +kernel
theorem dX12_isRun_21 : decode cX12_isRun 21 = .ok (.ladd, 1) := by decide +kernel
theorem dX12_isRun_22 : decode cX12_isRun 22 = .ok (.aload_n 0, 1) := by decide +kernel
theorem dX12_isRun_23 : decode cX12_isRun 23 = .ok (.getfield 54, 3) := by decide +kernel
theorem dX12_isRun_26 : decode cX12_isRun 26 = .ok (.iload_n 1, 1) := by decide +kernel
theorem dX12_isRun_27 : decode cX12_isRun 27 = .ok (.iaload, 1) := by decide +kernel
theorem dX12_isRun_28 : decode cX12_isRun 28 = .ok (.i2l, 1) := by decide +kernel
theorem dX12_isRun_29 : decode cX12_isRun 29 = .ok (.lcmp, 1) := by decide +kernel
theorem dX12_isRun_30 : decode cX12_isRun 30 = .ok (.ifCond .gt 7, 3) := by decide +kernel
theorem dX12_isRun_33 : decode cX12_isRun 33 = .ok (.iconst 1, 1) := by decide +kernel
theorem dX12_isRun_34 : decode cX12_isRun 34 = .ok (.goto 4, 3) := by decide +kernel
theorem dX12_isRun_37 : decode cX12_isRun 37 = .ok (.iconst 0, 1) := by decide +kernel
theorem dX12_isRun_38 : decode cX12_isRun 38 = .ok (.ireturn, 1) := by decide +kernel
def fX12_isRun (a1 : Int32) (a2 : Int32) (a3 : Int32) (h : Hp) : Option (Int32 × Hp) := br ((fX12_isBench a1 h) = 0) (some (0, h)) (br (a2 < 0) (some (0, h)) (br (a3 < 1) (some (0, h)) (gd (ib a1 8) (br (((gI h 63 0 (ix a1)).toInt64) < (a2.toInt64 + a3.toInt64)) (some (0, h)) (some (1, h))))))
set_option maxRecDepth 20000 in
theorem tX12_isRun {X : Cz} {a1 : Int32} {a2 : Int32} {a3 : Int32} {h hE : Hp} {rE : Int32} (hF : fX12_isRun a1 a2 a3 h = some (rE, hE)) : Ct X mX12_isRun true [zr 12 0, zi a1, zi a2, zi a3] h (some (zi rE)) hE := by
  refine Ct_of (by decide) (Nat.le_of_ble_eq_true rfl) (ls := [(0, zr 12 0), (1, zi a1), (2, zi a2), (3, zi a3)]) rfl ?_
  unfold fX12_isRun at hF
  refine v_aload_n (j := 0) dX12_isRun_0 rfl ?_
  refine v_iload_n (j := 1) dX12_isRun_1 rfl ?_
  refine v_cV (hm := h) (av := [zi a1]) (st := []) (stn := [zi (fX12_isBench a1 h)]) (tX12_isBench a1 h) lcX12_isBench mlX12_254 imX12_isBench seX12_isBench rfl rfl rfl rfl ⟨by decide, by decide⟩ (Nat.le_of_ble_eq_true rfl) dX12_isRun_2 rfl rfl ?_
  refine v_if_eq dX12_isRun_5 (by decide : _ = ((37 : Nat) : Int)) (fun q => ?_) (fun q => ?_)
  · replace hF := brT q hF
    refine v_iconst (v := 0) dX12_isRun_37 (by decide) ?_
    obtain ⟨rfl, rfl⟩ := ret_use hF
    exact v_zret rfl (Or.inl rfl) dX12_isRun_38
  · replace hF := brF q hF
    refine v_iload_n (j := 2) dX12_isRun_8 rfl ?_
    refine v_if_lt dX12_isRun_9 (by decide : _ = ((37 : Nat) : Int)) (fun q => ?_) (fun q => ?_)
    · replace hF := brT q hF
      refine v_iconst (v := 0) dX12_isRun_37 (by decide) ?_
      obtain ⟨rfl, rfl⟩ := ret_use hF
      exact v_zret rfl (Or.inl rfl) dX12_isRun_38
    · replace hF := brF q hF
      refine v_iload_n (j := 3) dX12_isRun_12 rfl ?_
      refine v_iconst (v := 1) dX12_isRun_13 (by decide) ?_
      refine v_icmp_lt dX12_isRun_14 (by decide : _ = ((37 : Nat) : Int)) (fun q => ?_) (fun q => ?_)
      · replace hF := brT q hF
        refine v_iconst (v := 0) dX12_isRun_37 (by decide) ?_
        obtain ⟨rfl, rfl⟩ := ret_use hF
        exact v_zret rfl (Or.inl rfl) dX12_isRun_38
      · replace hF := brF q hF
        refine v_iload_n (j := 2) dX12_isRun_17 rfl ?_
        refine v_i2l dX12_isRun_18 ?_
        refine v_iload_n (j := 3) dX12_isRun_19 rfl ?_
        refine v_i2l dX12_isRun_20 ?_
        refine v_ladd dX12_isRun_21 ?_
        refine v_aload_n (j := 0) dX12_isRun_22 rfl ?_
        refine v_getL (c := 12) rfl rfl rfl ly12_23 cz12 flX12_54 dX12_isRun_23 ?_
        refine v_iload_n (j := 1) dX12_isRun_26 rfl ?_
        replace hF := gd_use hF
        obtain ⟨q1, hF⟩ := hF
        refine v_iald rfl q1 dX12_isRun_27 ?_
        refine v_i2l dX12_isRun_28 ?_
        refine v_lif_gt (x := (a2.toInt64 + a3.toInt64)) (y := ((gI h 63 0 (ix a1)).toInt64)) dX12_isRun_29 dX12_isRun_30 (by decide : _ = ((37 : Nat) : Int)) (fun q => ?_) (fun q => ?_)
        · replace hF := brT q hF
          refine v_iconst (v := 0) dX12_isRun_37 (by decide) ?_
          obtain ⟨rfl, rfl⟩ := ret_use hF
          exact v_zret rfl (Or.inl rfl) dX12_isRun_38
        · replace hF := brF q hF
          refine v_iconst (v := 1) dX12_isRun_33 (by decide) ?_
          refine v_goto (tgt := 38) dX12_isRun_34 (by decide) ?_
          obtain ⟨rfl, rfl⟩ := ret_use hF
          exact v_zret rfl (Or.inr rfl) dX12_isRun_38
theorem dX12_side_0 : decode cX12_side 0 = .ok (.aload_n 0, 1) := by decide +kernel
theorem dX12_side_1 : decode cX12_side 1 = .ok (.getfield 23, 3) := by decide +kernel
theorem dX12_side_4 : decode cX12_side 4 = .ok (.iload_n 3, 1) := by decide +kernel
theorem dX12_side_5 : decode cX12_side 5 = .ok (.isub, 1) := by decide +kernel
theorem dX12_side_6 : decode cX12_side 6 = .ok (.iload_n 2, 1) := by decide +kernel
theorem dX12_side_7 : decode cX12_side 7 = .ok (.iload 4, 2) := by decide +kernel
theorem dX12_side_9 : decode cX12_side 9 = .ok (.isub, 1) := by decide +kernel
theorem dX12_side_10 : decode cX12_side 10 = .ok (.imul, 1) := by decide +kernel
theorem dX12_side_11 : decode cX12_side 11 = .ok (.aload_n 0, 1) := by decide +kernel
theorem dX12_side_12 : decode cX12_side 12 = .ok (.getfield 27, 3) := by decide +kernel
theorem dX12_side_15 : decode cX12_side 15 = .ok (.iload 4, 2) := by decide +kernel
theorem dX12_side_17 : decode cX12_side 17 = .ok (.isub, 1) := by decide +kernel
theorem dX12_side_18 : decode cX12_side 18 = .ok (.iload_n 1, 1) := by decide +kernel
theorem dX12_side_19 : decode cX12_side 19 = .ok (.iload_n 3, 1) := by decide +kernel
theorem dX12_side_20 : decode cX12_side 20 = .ok (.isub, 1) := by decide +kernel
theorem dX12_side_21 : decode cX12_side 21 = .ok (.imul, 1) := by decide +kernel
theorem dX12_side_22 : decode cX12_side 22 = .ok (.isub, 1) := by decide +kernel
theorem dX12_side_23 : decode cX12_side 23 = .ok (.invokestatic 257, 3) := by decide +kernel
theorem dX12_side_26 : decode cX12_side 26 = .ok (.ireturn, 1) := by decide +kernel
def fX12_side (a1 : Int32) (a2 : Int32) (a3 : Int32) (a4 : Int32) (h : Hp) : Int32 := sgI ((((gI h 12 0 13) - a3) * (a2 - a4)) - (((gI h 12 0 14) - a4) * (a1 - a3)))
set_option maxRecDepth 20000 in
theorem tX12_side {X : Cz} (a1 : Int32) (a2 : Int32) (a3 : Int32) (a4 : Int32) (h : Hp) : Ct X mX12_side true [zr 12 0, zi a1, zi a2, zi a3, zi a4] h (some (zi (fX12_side a1 a2 a3 a4 h))) h := by
  refine Ct_of (by decide) (Nat.le_of_ble_eq_true rfl) (ls := [(0, zr 12 0), (1, zi a1), (2, zi a2), (3, zi a3), (4, zi a4)]) rfl ?_
  obtain ⟨rE, hF⟩ : ∃ z, fX12_side a1 a2 a3 a4 h = z := ⟨_, rfl⟩
  rw [hF]
  unfold fX12_side at hF
  refine v_aload_n (j := 0) dX12_side_0 rfl ?_
  refine v_getI (c := 12) rfl (Or.inl rfl) cz12 flX12_23 dX12_side_1 ?_
  refine v_iload_n (j := 3) dX12_side_4 rfl ?_
  refine v_isub dX12_side_5 ?_
  refine v_iload_n (j := 2) dX12_side_6 rfl ?_
  refine v_iload (j := 4) dX12_side_7 rfl ?_
  refine v_isub dX12_side_9 ?_
  refine v_imul dX12_side_10 ?_
  refine v_aload_n (j := 0) dX12_side_11 rfl ?_
  refine v_getI (c := 12) rfl (Or.inl rfl) cz12 flX12_27 dX12_side_12 ?_
  refine v_iload (j := 4) dX12_side_15 rfl ?_
  refine v_isub dX12_side_17 ?_
  refine v_iload_n (j := 1) dX12_side_18 rfl ?_
  refine v_iload_n (j := 3) dX12_side_19 rfl ?_
  refine v_isub dX12_side_20 ?_
  refine v_imul dX12_side_21 ?_
  refine v_isub dX12_side_22 ?_
  refine v_cS (hm := h) (av := [zi ((((gI h 12 0 13) - a3) * (a2 - a4)) - (((gI h 12 0 14) - a4) * (a1 - a3)))]) (st := []) (stn := [zi (sgI ((((gI h 12 0 13) - a3) * (a2 - a4)) - (((gI h 12 0 14) - a4) * (a1 - a3))))]) (tJ6_signum_0f7a4 ((((gI h 12 0 13) - a3) * (a2 - a4)) - (((gI h 12 0 14) - a4) * (a1 - a3))) h) lcJ6_signum_0f7a4 mlX12_257 sxJ6_signum_0f7a4 rfl ⟨by decide, by decide⟩ (Nat.le_of_ble_eq_true rfl) dX12_side_23 rfl rfl ?_
  subst hF
  exact v_iret rfl dX12_side_26
theorem dX12_isInWay_0 : decode cX12_isInWay 0 = .ok (.aload_n 0, 1) := by decide +kernel
theorem dX12_isInWay_1 : decode cX12_isInWay 1 = .ok (.getfield 39, 3) := by decide +kernel
theorem dX12_isInWay_4 : decode cX12_isInWay 4 = .ok (.iload_n 1, 1) := by decide +kernel
theorem dX12_isInWay_5 : decode cX12_isInWay 5 = .ok (.iaload, 1) := by decide +kernel
theorem dX12_isInWay_6 : decode cX12_isInWay 6 = .ok (.aload_n 0, 1) := by decide +kernel
theorem dX12_isInWay_7 : decode cX12_isInWay 7 = .ok (.getfield 45, 3) := by decide +kernel
theorem dX12_isInWay_10 : decode cX12_isInWay 10 = .ok (.iload_n 1, 1) := by decide +kernel
theorem dX12_isInWay_11 : decode cX12_isInWay 11 = .ok (.iaload, 1) := by decide +kernel
theorem dX12_isInWay_12 : decode cX12_isInWay 12 = .ok (.isub, 1) := by decide +kernel
theorem dX12_isInWay_13 : decode cX12_isInWay 13 = .ok (.istore 4, 2) := by decide +kernel
theorem dX12_isInWay_15 : decode cX12_isInWay 15 = .ok (.aload_n 0, 1) := by decide +kernel
theorem dX12_isInWay_16 : decode cX12_isInWay 16 = .ok (.getfield 39, 3) := by decide +kernel
theorem dX12_isInWay_19 : decode cX12_isInWay 19 = .ok (.iload_n 1, 1) := by decide +kernel
theorem dX12_isInWay_20 : decode cX12_isInWay 20 = .ok (.iaload, 1) := by decide +kernel
theorem dX12_isInWay_21 : decode cX12_isInWay 21 = .ok (.aload_n 0, 1) := by decide +kernel
theorem dX12_isInWay_22 : decode cX12_isInWay 22 = .ok (.getfield 45, 3) := by decide +kernel
theorem dX12_isInWay_25 : decode cX12_isInWay 25 = .ok (.iload_n 1, 1) := by decide +kernel
theorem dX12_isInWay_26 : decode cX12_isInWay 26 = .ok (.iaload, 1) := by decide +kernel
theorem dX12_isInWay_27 : decode cX12_isInWay 27 = .ok (.iadd, 1) := by decide +kernel
theorem dX12_isInWay_28 : decode cX12_isInWay 28 = .ok (.istore 5, 2) := by decide +kernel
theorem dX12_isInWay_30 : decode cX12_isInWay 30 = .ok (.aload_n 0, 1) := by decide +kernel
theorem dX12_isInWay_31 : decode cX12_isInWay 31 = .ok (.getfield 42, 3) := by decide +kernel
theorem dX12_isInWay_34 : decode cX12_isInWay 34 = .ok (.iload_n 1, 1) := by decide +kernel
theorem dX12_isInWay_35 : decode cX12_isInWay 35 = .ok (.iaload, 1) := by decide +kernel
theorem dX12_isInWay_36 : decode cX12_isInWay 36 = .ok (.aload_n 0, 1) := by decide +kernel
theorem dX12_isInWay_37 : decode cX12_isInWay 37 = .ok (.getfield 45, 3) := by decide +kernel
theorem dX12_isInWay_40 : decode cX12_isInWay 40 = .ok (.iload_n 1, 1) := by decide +kernel
theorem dX12_isInWay_41 : decode cX12_isInWay 41 = .ok (.iaload, 1) := by decide +kernel
theorem dX12_isInWay_42 : decode cX12_isInWay 42 = .ok (.isub, 1) := by decide +kernel
theorem dX12_isInWay_43 : decode cX12_isInWay 43 = .ok (.istore 6, 2) := by decide +kernel
theorem dX12_isInWay_45 : decode cX12_isInWay 45 = .ok (.aload_n 0, 1) := by decide +kernel
theorem dX12_isInWay_46 : decode cX12_isInWay 46 = .ok (.getfield 42, 3) := by decide +kernel
theorem dX12_isInWay_49 : decode cX12_isInWay 49 = .ok (.iload_n 1, 1) := by decide +kernel
theorem dX12_isInWay_50 : decode cX12_isInWay 50 = .ok (.iaload, 1) := by decide +kernel
theorem dX12_isInWay_51 : decode cX12_isInWay 51 = .ok (.aload_n 0, 1) := by decide +kernel
theorem dX12_isInWay_52 : decode cX12_isInWay 52 = .ok (.getfield 45, 3) := by decide +kernel
theorem dX12_isInWay_55 : decode cX12_isInWay 55 = .ok (.iload_n 1, 1) := by decide +kernel
theorem dX12_isInWay_56 : decode cX12_isInWay 56 = .ok (.iaload, 1) := by decide +kernel
theorem dX12_isInWay_57 : decode cX12_isInWay 57 = .ok (.iadd, 1) := by decide +kernel
theorem dX12_isInWay_58 : decode cX12_isInWay 58 = .ok (.istore 7, 2) := by decide +kernel
theorem dX12_isInWay_60 : decode cX12_isInWay 60 = .ok (.iload_n 2, 1) := by decide +kernel
theorem dX12_isInWay_61 : decode cX12_isInWay 61 = .ok (.aload_n 0, 1) := by decide +kernel
theorem dX12_isInWay_62 : decode cX12_isInWay 62 = .ok (.getfield 23, 3) := by decide +kernel
theorem dX12_isInWay_65 : decode cX12_isInWay 65 = .ok (.invokestatic 263, 3) := by decide +kernel
theorem dX12_isInWay_68 : decode cX12_isInWay 68 = .ok (.iload 4, 2) := by decide +kernel
theorem dX12_isInWay_70 : decode cX12_isInWay 70 = .ok (.if_icmp .lt 42, 3) := by decide +kernel
theorem dX12_isInWay_73 : decode cX12_isInWay 73 = .ok (.iload_n 2, 1) := by decide +kernel
theorem dX12_isInWay_74 : decode cX12_isInWay 74 = .ok (.aload_n 0, 1) := by decide +kernel
theorem dX12_isInWay_75 : decode cX12_isInWay 75 = .ok (.getfield 23, 3) := by decide +kernel
theorem dX12_isInWay_78 : decode cX12_isInWay 78 = .ok (.invokestatic 269, 3) := by decide +kernel
theorem dX12_isInWay_81 : decode cX12_isInWay 81 = .ok (.iload 5, 2) := by decide +kernel
theorem dX12_isInWay_83 : decode cX12_isInWay 83 = .ok (.if_icmp .gt 29, 3) := by decide +kernel
theorem dX12_isInWay_86 : decode cX12_isInWay 86 = .ok (.iload_n 3, 1) := by decide +kernel
theorem dX12_isInWay_87 : decode cX12_isInWay 87 = .ok (.aload_n 0, 1) := by decide +kernel
theorem dX12_isInWay_88 : decode cX12_isInWay 88 = .ok (.getfield 27, 3) := by decide +kernel
theorem dX12_isInWay_91 : decode cX12_isInWay 91 = .ok (.invokestatic 263, 3) := by decide +kernel
theorem dX12_isInWay_94 : decode cX12_isInWay 94 = .ok (.iload 6, 2) := by decide +kernel
theorem dX12_isInWay_96 : decode cX12_isInWay 96 = .ok (.if_icmp .lt 16, 3) := by decide +kernel
theorem dX12_isInWay_99 : decode cX12_isInWay 99 = .ok (.iload_n 3, 1) := by decide +kernel
theorem dX12_isInWay_100 : decode cX12_isInWay 100 = .ok (.aload_n 0, 1) := by decide +kernel
theorem dX12_isInWay_101 : decode cX12_isInWay 101 = .ok (.getfield 27, 3) := by decide +kernel
theorem dX12_isInWay_104 : decode cX12_isInWay 104 = .ok (.invokestatic 269, 3) := by decide +kernel
theorem dX12_isInWay_107 : decode cX12_isInWay 107 = .ok (.iload 7, 2) := by decide +kernel
theorem dX12_isInWay_109 : decode cX12_isInWay 109 = .ok (.if_icmp .le 5, 3) := by decide +kernel
theorem dX12_isInWay_112 : decode cX12_isInWay 112 = .ok (.iconst 0, 1) := by decide +kernel
theorem dX12_isInWay_113 : decode cX12_isInWay 113 = .ok (.ireturn, 1) := by decide +kernel
theorem dX12_isInWay_114 : decode cX12_isInWay 114 = .ok (.aload_n 0, 1) := by decide +kernel
theorem dX12_isInWay_115 : decode cX12_isInWay 115 = .ok (.iload 4, 2) := by decide +kernel
theorem dX12_isInWay_117 : decode cX12_isInWay 117 = .ok (.iload 6, 2) := by decide +kernel
theorem dX12_isInWay_119 : decode cX12_isInWay 119 = .ok (.iload_n 2, 1) := by decide +kernel
theorem dX12_isInWay_120 : decode cX12_isInWay 120 = .ok (.iload_n 3, 1) := by decide +kernel
theorem dX12_isInWay_121 : decode cX12_isInWay 121 = .ok (.invokevirtual 272, 3) := by decide +kernel
theorem dX12_isInWay_124 : decode cX12_isInWay 124 = .ok (.istore 8, 2) := by decide +kernel
theorem dX12_isInWay_126 : decode cX12_isInWay 126 = .ok (.aload_n 0, 1) := by decide +kernel
theorem dX12_isInWay_127 : decode cX12_isInWay 127 = .ok (.iload 5, 2) := by decide +kernel
theorem dX12_isInWay_129 : decode cX12_isInWay 129 = .ok (.iload 6, 2) := by decide +kernel
theorem dX12_isInWay_131 : decode cX12_isInWay 131 = .ok (.iload_n 2, 1) := by decide +kernel
theorem dX12_isInWay_132 : decode cX12_isInWay 132 = .ok (.iload_n 3, 1) := by decide +kernel
theorem dX12_isInWay_133 : decode cX12_isInWay 133 = .ok (.invokevirtual 272, 3) := by decide +kernel
theorem dX12_isInWay_136 : decode cX12_isInWay 136 = .ok (.istore 9, 2) := by decide +kernel
theorem dX12_isInWay_138 : decode cX12_isInWay 138 = .ok (.aload_n 0, 1) := by decide +kernel
theorem dX12_isInWay_139 : decode cX12_isInWay 139 = .ok (.iload 4, 2) := by decide +kernel
theorem dX12_isInWay_141 : decode cX12_isInWay 141 = .ok (.iload 7, 2) := by decide +kernel
theorem dX12_isInWay_143 : decode cX12_isInWay 143 = .ok (.iload_n 2, 1) := by decide +kernel
theorem dX12_isInWay_144 : decode cX12_isInWay 144 = .ok (.iload_n 3, 1) := by decide +kernel
theorem dX12_isInWay_145 : decode cX12_isInWay 145 = .ok (.invokevirtual 272, 3) := by decide +kernel
theorem dX12_isInWay_148 : decode cX12_isInWay 148 = .ok (.istore 10, 2) := by decide +kernel
theorem dX12_isInWay_150 : decode cX12_isInWay 150 = .ok (.aload_n 0, 1) := by decide +kernel
theorem dX12_isInWay_151 : decode cX12_isInWay 151 = .ok (.iload 5, 2) := by decide +kernel
theorem dX12_isInWay_153 : decode cX12_isInWay 153 = .ok (.iload 7, 2) := by decide +kernel
theorem dX12_isInWay_155 : decode cX12_isInWay 155 = .ok (.iload_n 2, 1) := by decide +kernel
theorem dX12_isInWay_156 : decode cX12_isInWay 156 = .ok (.iload_n 3, 1) := by decide +kernel
theorem dX12_isInWay_157 : decode cX12_isInWay 157 = .ok (.invokevirtual 272, 3) := by decide +kernel
theorem dX12_isInWay_160 : decode cX12_isInWay 160 = .ok (.istore 11, 2) := by decide +kernel
theorem dX12_isInWay_162 : decode cX12_isInWay 162 = .ok (.iload 8, 2) := by decide +kernel
theorem dX12_isInWay_164 : decode cX12_isInWay 164 = .ok (.iload 9, 2) := by decide +kernel
theorem dX12_isInWay_166 : decode cX12_isInWay 166 = .ok (.invokestatic 269, 3) := by decide +kernel
theorem dX12_isInWay_169 : decode cX12_isInWay 169 = .ok (.iload 10, 2) := by decide +kernel
theorem dX12_isInWay_171 : decode cX12_isInWay 171 = .ok (.iload 11, 2) := by decide +kernel
theorem dX12_isInWay_173 : decode cX12_isInWay 173 = .ok (.invokestatic 269, 3) := by decide +kernel
theorem dX12_isInWay_176 : decode cX12_isInWay 176 = .ok (.invokestatic 269, 3) := by decide +kernel
theorem dX12_isInWay_179 : decode cX12_isInWay 179 = .ok (.ifCond .gt 27, 3) := by decide +kernel
theorem dX12_isInWay_182 : decode cX12_isInWay 182 = .ok (.iload 8, 2) := by decide +kernel
theorem dX12_isInWay_184 : decode cX12_isInWay 184 = .ok (.iload 9, 2) := by decide +kernel
theorem dX12_isInWay_186 : decode cX12_isInWay 186 = .ok (.invokestatic 263, 3) := by decide +kernel
theorem dX12_isInWay_189 : decode cX12_isInWay 189 = .ok (.iload 10, 2) := by decide +kernel
theorem dX12_isInWay_191 : decode cX12_isInWay 191 = .ok (.iload 11, 2) := by decide +kernel
theorem dX12_isInWay_193 : decode cX12_isInWay 193 = .ok (.invokestatic 263, 3) := by decide +kernel
theorem dX12_isInWay_196 : decode cX12_isInWay 196 = .ok (.invokestatic 263, 3) := by decide +kernel
theorem dX12_isInWay_199 : decode cX12_isInWay 199 = .ok (.ifCond .lt 7, 3) := by decide +kernel
theorem dX12_isInWay_202 : decode cX12_isInWay 202 = .ok (.iconst 1, 1) := by decide +kernel
theorem dX12_isInWay_203 : decode cX12_isInWay 203 = .ok (.goto 4, 3) := by decide +kernel
theorem dX12_isInWay_206 : decode cX12_isInWay 206 = .ok (.iconst 0, 1) := by decide +kernel
theorem dX12_isInWay_207 : decode cX12_isInWay 207 = .ok (.ireturn, 1) := by decide +kernel
def fX12_isInWay (a1 : Int32) (a2 : Int32) (a3 : Int32) (h : Hp) : Option (Int32 × Hp) := gd (ib a1 8) (gd (ib a1 8) (lb ((gI h 58 0 (ix a1)) - (gI h 60 0 (ix a1))) (fun v3 => gd (ib a1 8) (gd (ib a1 8) (lb ((gI h 58 0 (ix a1)) + (gI h 60 0 (ix a1))) (fun v6 => gd (ib a1 8) (gd (ib a1 8) (lb ((gI h 59 0 (ix a1)) - (gI h 60 0 (ix a1))) (fun v9 => gd (ib a1 8) (gd (ib a1 8) (lb ((gI h 59 0 (ix a1)) + (gI h 60 0 (ix a1))) (fun v12 => br ((mxI a2 (gI h 12 0 13)) < v3) (some (0, h)) (br (v6 < (mnI a2 (gI h 12 0 13))) (some (0, h)) (br ((mxI a3 (gI h 12 0 14)) < v9) (some (0, h)) (br ((mnI a3 (gI h 12 0 14)) ≤ v12) (lb (fX12_side v3 v9 a2 a3 h) (fun v13 => lb (fX12_side v6 v9 a2 a3 h) (fun v14 => lb (fX12_side v3 v12 a2 a3 h) (fun v15 => lb (fX12_side v6 v12 a2 a3 h) (fun v16 => br (0 < (mnI (mnI v13 v14) (mnI v15 v16))) (some (0, h)) (br ((mxI (mxI v13 v14) (mxI v15 v16)) < 0) (some (0, h)) (some (1, h)))))))) (some (0, h)))))))))))))))))
set_option maxRecDepth 20000 in
theorem tX12_isInWay {X : Cz} {a1 : Int32} {a2 : Int32} {a3 : Int32} {h hE : Hp} {rE : Int32} (hF : fX12_isInWay a1 a2 a3 h = some (rE, hE)) : Ct X mX12_isInWay true [zr 12 0, zi a1, zi a2, zi a3] h (some (zi rE)) hE := by
  refine Ct_of (by decide) (Nat.le_of_ble_eq_true rfl) (ls := [(0, zr 12 0), (1, zi a1), (2, zi a2), (3, zi a3)]) rfl ?_
  unfold fX12_isInWay at hF
  refine v_aload_n (j := 0) dX12_isInWay_0 rfl ?_
  refine v_getL (c := 12) rfl rfl rfl ly12_18 cz12 flX12_39 dX12_isInWay_1 ?_
  refine v_iload_n (j := 1) dX12_isInWay_4 rfl ?_
  replace hF := gd_use hF
  obtain ⟨q1, hF⟩ := hF
  refine v_iald rfl q1 dX12_isInWay_5 ?_
  refine v_aload_n (j := 0) dX12_isInWay_6 rfl ?_
  refine v_getL (c := 12) rfl rfl rfl ly12_20 cz12 flX12_45 dX12_isInWay_7 ?_
  refine v_iload_n (j := 1) dX12_isInWay_10 rfl ?_
  replace hF := gd_use hF
  obtain ⟨q2, hF⟩ := hF
  refine v_iald rfl q2 dX12_isInWay_11 ?_
  refine v_isub dX12_isInWay_12 ?_
  refine v_topi fun v3 ev3 => ?_
  replace hF := lb_use ev3 hF
  clear ev3
  refine v_istore (ls' := [(4, zi v3), (0, zr 12 0), (1, zi a1), (2, zi a2), (3, zi a3)]) dX12_isInWay_13 (by decide) rfl ?_
  refine v_aload_n (j := 1) dX12_isInWay_15 rfl ?_
  refine v_getL (c := 12) rfl rfl rfl ly12_18 cz12 flX12_39 dX12_isInWay_16 ?_
  refine v_iload_n (j := 2) dX12_isInWay_19 rfl ?_
  replace hF := gd_use hF
  obtain ⟨q4, hF⟩ := hF
  refine v_iald rfl q4 dX12_isInWay_20 ?_
  refine v_aload_n (j := 1) dX12_isInWay_21 rfl ?_
  refine v_getL (c := 12) rfl rfl rfl ly12_20 cz12 flX12_45 dX12_isInWay_22 ?_
  refine v_iload_n (j := 2) dX12_isInWay_25 rfl ?_
  replace hF := gd_use hF
  obtain ⟨q5, hF⟩ := hF
  refine v_iald rfl q5 dX12_isInWay_26 ?_
  refine v_iadd dX12_isInWay_27 ?_
  refine v_topi fun v6 ev6 => ?_
  replace hF := lb_use ev6 hF
  clear ev6
  refine v_istore (ls' := [(5, zi v6), (4, zi v3), (0, zr 12 0), (1, zi a1), (2, zi a2), (3, zi a3)]) dX12_isInWay_28 (by decide) rfl ?_
  refine v_aload_n (j := 2) dX12_isInWay_30 rfl ?_
  refine v_getL (c := 12) rfl rfl rfl ly12_19 cz12 flX12_42 dX12_isInWay_31 ?_
  refine v_iload_n (j := 3) dX12_isInWay_34 rfl ?_
  replace hF := gd_use hF
  obtain ⟨q7, hF⟩ := hF
  refine v_iald rfl q7 dX12_isInWay_35 ?_
  refine v_aload_n (j := 2) dX12_isInWay_36 rfl ?_
  refine v_getL (c := 12) rfl rfl rfl ly12_20 cz12 flX12_45 dX12_isInWay_37 ?_
  refine v_iload_n (j := 3) dX12_isInWay_40 rfl ?_
  replace hF := gd_use hF
  obtain ⟨q8, hF⟩ := hF
  refine v_iald rfl q8 dX12_isInWay_41 ?_
  refine v_isub dX12_isInWay_42 ?_
  refine v_topi fun v9 ev9 => ?_
  replace hF := lb_use ev9 hF
  clear ev9
  refine v_istore (ls' := [(6, zi v9), (5, zi v6), (4, zi v3), (0, zr 12 0), (1, zi a1), (2, zi a2), (3, zi a3)]) dX12_isInWay_43 (by decide) rfl ?_
  refine v_aload_n (j := 3) dX12_isInWay_45 rfl ?_
  refine v_getL (c := 12) rfl rfl rfl ly12_19 cz12 flX12_42 dX12_isInWay_46 ?_
  refine v_iload_n (j := 4) dX12_isInWay_49 rfl ?_
  replace hF := gd_use hF
  obtain ⟨q10, hF⟩ := hF
  refine v_iald rfl q10 dX12_isInWay_50 ?_
  refine v_aload_n (j := 3) dX12_isInWay_51 rfl ?_
  refine v_getL (c := 12) rfl rfl rfl ly12_20 cz12 flX12_45 dX12_isInWay_52 ?_
  refine v_iload_n (j := 4) dX12_isInWay_55 rfl ?_
  replace hF := gd_use hF
  obtain ⟨q11, hF⟩ := hF
  refine v_iald rfl q11 dX12_isInWay_56 ?_
  refine v_iadd dX12_isInWay_57 ?_
  refine v_topi fun v12 ev12 => ?_
  replace hF := lb_use ev12 hF
  clear ev12
  refine v_istore (ls' := [(7, zi v12), (6, zi v9), (5, zi v6), (4, zi v3), (0, zr 12 0), (1, zi a1), (2, zi a2), (3, zi a3)]) dX12_isInWay_58 (by decide) rfl ?_
  refine v_iload_n (j := 6) dX12_isInWay_60 rfl ?_
  refine v_aload_n (j := 4) dX12_isInWay_61 rfl ?_
  refine v_getI (c := 12) rfl (Or.inl rfl) cz12 flX12_23 dX12_isInWay_62 ?_
  refine v_J9_max_7cf53 mlX12_263 (by decide) (Nat.le_of_ble_eq_true rfl) dX12_isInWay_65 ?_
  refine v_iload (j := 3) dX12_isInWay_68 rfl ?_
  refine v_icmp_lt dX12_isInWay_70 (by decide : _ = ((112 : Nat) : Int)) (fun q => ?_) (fun q => ?_)
  · replace hF := brT q hF
    refine v_iconst (v := 0) dX12_isInWay_112 (by decide) ?_
    obtain ⟨rfl, rfl⟩ := ret_use hF
    exact v_zret rfl (Or.inl rfl) dX12_isInWay_113
  · replace hF := brF q hF
    refine v_iload_n (j := 6) dX12_isInWay_73 rfl ?_
    refine v_aload_n (j := 4) dX12_isInWay_74 rfl ?_
    refine v_getI (c := 12) rfl (Or.inl rfl) cz12 flX12_23 dX12_isInWay_75 ?_
    refine v_J9_min_7cf53 mlX12_269 (by decide) (Nat.le_of_ble_eq_true rfl) dX12_isInWay_78 ?_
    refine v_iload (j := 2) dX12_isInWay_81 rfl ?_
    refine v_icmp_gt dX12_isInWay_83 (by decide : _ = ((112 : Nat) : Int)) (fun q => ?_) (fun q => ?_)
    · replace hF := brT q hF
      refine v_iconst (v := 0) dX12_isInWay_112 (by decide) ?_
      obtain ⟨rfl, rfl⟩ := ret_use hF
      exact v_zret rfl (Or.inl rfl) dX12_isInWay_113
    · replace hF := brF q hF
      refine v_iload_n (j := 7) dX12_isInWay_86 rfl ?_
      refine v_aload_n (j := 4) dX12_isInWay_87 rfl ?_
      refine v_getI (c := 12) rfl (Or.inl rfl) cz12 flX12_27 dX12_isInWay_88 ?_
      refine v_J9_max_7cf53 mlX12_263 (by decide) (Nat.le_of_ble_eq_true rfl) dX12_isInWay_91 ?_
      refine v_iload (j := 1) dX12_isInWay_94 rfl ?_
      refine v_icmp_lt dX12_isInWay_96 (by decide : _ = ((112 : Nat) : Int)) (fun q => ?_) (fun q => ?_)
      · replace hF := brT q hF
        refine v_iconst (v := 0) dX12_isInWay_112 (by decide) ?_
        obtain ⟨rfl, rfl⟩ := ret_use hF
        exact v_zret rfl (Or.inl rfl) dX12_isInWay_113
      · replace hF := brF q hF
        refine v_iload_n (j := 7) dX12_isInWay_99 rfl ?_
        refine v_aload_n (j := 4) dX12_isInWay_100 rfl ?_
        refine v_getI (c := 12) rfl (Or.inl rfl) cz12 flX12_27 dX12_isInWay_101 ?_
        refine v_J9_min_7cf53 mlX12_269 (by decide) (Nat.le_of_ble_eq_true rfl) dX12_isInWay_104 ?_
        refine v_iload (j := 0) dX12_isInWay_107 rfl ?_
        refine v_icmp_le dX12_isInWay_109 (by decide : _ = ((114 : Nat) : Int)) (fun q => ?_) (fun q => ?_)
        · replace hF := brT q hF
          refine v_aload_n (j := 4) dX12_isInWay_114 rfl ?_
          refine v_iload (j := 3) dX12_isInWay_115 rfl ?_
          refine v_iload (j := 1) dX12_isInWay_117 rfl ?_
          refine v_iload_n (j := 6) dX12_isInWay_119 rfl ?_
          refine v_iload_n (j := 7) dX12_isInWay_120 rfl ?_
          refine v_cV (hm := h) (av := [zi v3, zi v9, zi a2, zi a3]) (st := []) (stn := [zi (fX12_side v3 v9 a2 a3 h)]) (tX12_side v3 v9 a2 a3 h) lcX12_side mlX12_272 imX12_side seX12_side rfl rfl rfl rfl ⟨by decide, by decide⟩ (Nat.le_of_ble_eq_true rfl) dX12_isInWay_121 rfl rfl ?_
          refine v_topi fun v13 ev13 => ?_
          replace hF := lb_use ev13 hF
          clear ev13
          refine v_istore (ls' := [(8, zi v13), (7, zi v12), (6, zi v9), (5, zi v6), (4, zi v3), (0, zr 12 0), (1, zi a1), (2, zi a2), (3, zi a3)]) dX12_isInWay_124 (by decide) rfl ?_
          refine v_aload_n (j := 5) dX12_isInWay_126 rfl ?_
          refine v_iload (j := 3) dX12_isInWay_127 rfl ?_
          refine v_iload (j := 2) dX12_isInWay_129 rfl ?_
          refine v_iload_n (j := 7) dX12_isInWay_131 rfl ?_
          refine v_iload_n (j := 8) dX12_isInWay_132 rfl ?_
          refine v_cV (hm := h) (av := [zi v6, zi v9, zi a2, zi a3]) (st := []) (stn := [zi (fX12_side v6 v9 a2 a3 h)]) (tX12_side v6 v9 a2 a3 h) lcX12_side mlX12_272 imX12_side seX12_side rfl rfl rfl rfl ⟨by decide, by decide⟩ (Nat.le_of_ble_eq_true rfl) dX12_isInWay_133 rfl rfl ?_
          refine v_topi fun v14 ev14 => ?_
          replace hF := lb_use ev14 hF
          clear ev14
          refine v_istore (ls' := [(9, zi v14), (8, zi v13), (7, zi v12), (6, zi v9), (5, zi v6), (4, zi v3), (0, zr 12 0), (1, zi a1), (2, zi a2), (3, zi a3)]) dX12_isInWay_136 (by decide) rfl ?_
          refine v_aload_n (j := 6) dX12_isInWay_138 rfl ?_
          refine v_iload (j := 5) dX12_isInWay_139 rfl ?_
          refine v_iload (j := 2) dX12_isInWay_141 rfl ?_
          refine v_iload_n (j := 8) dX12_isInWay_143 rfl ?_
          refine v_iload_n (j := 9) dX12_isInWay_144 rfl ?_
          refine v_cV (hm := h) (av := [zi v3, zi v12, zi a2, zi a3]) (st := []) (stn := [zi (fX12_side v3 v12 a2 a3 h)]) (tX12_side v3 v12 a2 a3 h) lcX12_side mlX12_272 imX12_side seX12_side rfl rfl rfl rfl ⟨by decide, by decide⟩ (Nat.le_of_ble_eq_true rfl) dX12_isInWay_145 rfl rfl ?_
          refine v_topi fun v15 ev15 => ?_
          replace hF := lb_use ev15 hF
          clear ev15
          refine v_istore (ls' := [(10, zi v15), (9, zi v14), (8, zi v13), (7, zi v12), (6, zi v9), (5, zi v6), (4, zi v3), (0, zr 12 0), (1, zi a1), (2, zi a2), (3, zi a3)]) dX12_isInWay_148 (by decide) rfl ?_
          refine v_aload_n (j := 7) dX12_isInWay_150 rfl ?_
          refine v_iload (j := 5) dX12_isInWay_151 rfl ?_
          refine v_iload (j := 3) dX12_isInWay_153 rfl ?_
          refine v_iload_n (j := 9) dX12_isInWay_155 rfl ?_
          refine v_iload_n (j := 10) dX12_isInWay_156 rfl ?_
          refine v_cV (hm := h) (av := [zi v6, zi v12, zi a2, zi a3]) (st := []) (stn := [zi (fX12_side v6 v12 a2 a3 h)]) (tX12_side v6 v12 a2 a3 h) lcX12_side mlX12_272 imX12_side seX12_side rfl rfl rfl rfl ⟨by decide, by decide⟩ (Nat.le_of_ble_eq_true rfl) dX12_isInWay_157 rfl rfl ?_
          refine v_topi fun v16 ev16 => ?_
          replace hF := lb_use ev16 hF
          clear ev16
          refine v_istore (ls' := [(11, zi v16), (10, zi v15), (9, zi v14), (8, zi v13), (7, zi v12), (6, zi v9), (5, zi v6), (4, zi v3), (0, zr 12 0), (1, zi a1), (2, zi a2), (3, zi a3)]) dX12_isInWay_160 (by decide) rfl ?_
          refine v_iload (j := 3) dX12_isInWay_162 rfl ?_
          refine v_iload (j := 2) dX12_isInWay_164 rfl ?_
          refine v_J9_min_7cf53 mlX12_269 (by decide) (Nat.le_of_ble_eq_true rfl) dX12_isInWay_166 ?_
          refine v_iload (j := 1) dX12_isInWay_169 rfl ?_
          refine v_iload (j := 0) dX12_isInWay_171 rfl ?_
          refine v_J9_min_7cf53 mlX12_269 (by decide) (Nat.le_of_ble_eq_true rfl) dX12_isInWay_173 ?_
          refine v_J9_min_7cf53 mlX12_269 (by decide) (Nat.le_of_ble_eq_true rfl) dX12_isInWay_176 ?_
          refine v_if_gt dX12_isInWay_179 (by decide : _ = ((206 : Nat) : Int)) (fun q => ?_) (fun q => ?_)
          · replace hF := brT q hF
            refine v_iconst (v := 0) dX12_isInWay_206 (by decide) ?_
            obtain ⟨rfl, rfl⟩ := ret_use hF
            exact v_zret rfl (Or.inl rfl) dX12_isInWay_207
          · replace hF := brF q hF
            refine v_iload (j := 3) dX12_isInWay_182 rfl ?_
            refine v_iload (j := 2) dX12_isInWay_184 rfl ?_
            refine v_J9_max_7cf53 mlX12_263 (by decide) (Nat.le_of_ble_eq_true rfl) dX12_isInWay_186 ?_
            refine v_iload (j := 1) dX12_isInWay_189 rfl ?_
            refine v_iload (j := 0) dX12_isInWay_191 rfl ?_
            refine v_J9_max_7cf53 mlX12_263 (by decide) (Nat.le_of_ble_eq_true rfl) dX12_isInWay_193 ?_
            refine v_J9_max_7cf53 mlX12_263 (by decide) (Nat.le_of_ble_eq_true rfl) dX12_isInWay_196 ?_
            refine v_if_lt dX12_isInWay_199 (by decide : _ = ((206 : Nat) : Int)) (fun q => ?_) (fun q => ?_)
            · replace hF := brT q hF
              refine v_iconst (v := 0) dX12_isInWay_206 (by decide) ?_
              obtain ⟨rfl, rfl⟩ := ret_use hF
              exact v_zret rfl (Or.inl rfl) dX12_isInWay_207
            · replace hF := brF q hF
              refine v_iconst (v := 1) dX12_isInWay_202 (by decide) ?_
              refine v_goto (tgt := 207) dX12_isInWay_203 (by decide) ?_
              obtain ⟨rfl, rfl⟩ := ret_use hF
              exact v_zret rfl (Or.inr rfl) dX12_isInWay_207
        · replace hF := brF q hF
          refine v_iconst (v := 0) dX12_isInWay_112 (by decide) ?_
          obtain ⟨rfl, rfl⟩ := ret_use hF
          exact v_zret rfl (Or.inl rfl) dX12_isInWay_113
theorem dX12_inWay_0 : decode cX12_inWay 0 = .ok (.iconst 0, 1) := by decide +kernel
theorem dX12_inWay_1 : decode cX12_inWay 1 = .ok (.istore_n 3, 1) := by decide +kernel
theorem dX12_inWay_2 : decode cX12_inWay 2 = .ok (.iconst 0, 1) := by decide +kernel
theorem dX12_inWay_3 : decode cX12_inWay 3 = .ok (.istore 4, 2) := by decide +kernel
theorem dX12_inWay_5 : decode cX12_inWay 5 = .ok (.iload 4, 2) := by decide +kernel
theorem dX12_inWay_7 : decode cX12_inWay 7 = .ok (.aload_n 0, 1) := by decide +kernel
theorem dX12_inWay_8 : decode cX12_inWay 8 = .ok (.getfield 241, 3) := by decide +kernel
theorem dX12_inWay_11 : decode cX12_inWay 11 = .ok (.if_icmp .ge 40, 3) := by decide +kernel
theorem dX12_inWay_14 : decode cX12_inWay 14 = .ok (.iload_n 3, 1) := by decide +kernel
theorem dX12_inWay_15 : decode cX12_inWay 15 = .ok (.aload_n 0, 1) := by decide +kernel
theorem dX12_inWay_16 : decode cX12_inWay 16 = .ok (.iload 4, 2) := by decide +kernel
theorem dX12_inWay_18 : decode cX12_inWay 18 = .ok (.aload_n 0, 1) := by decide +kernel
theorem dX12_inWay_19 : decode cX12_inWay 19 = .ok (.getfield 48, 3) := by decide +kernel
theorem dX12_inWay_22 : decode cX12_inWay 22 = .ok (.iload_n 1, 1) := by decide +kernel
theorem dX12_inWay_23 : decode cX12_inWay 23 = .ok (.iaload, 1) := by decide +kernel
theorem dX12_inWay_24 : decode cX12_inWay 24 = .ok (.iload_n 2, 1) := by decide +kernel
theorem dX12_inWay_25 : decode cX12_inWay 25 = .ok (.iadd, 1) := by decide +kernel
theorem dX12_inWay_26 : decode cX12_inWay 26 = .ok (.aload_n 0, 1) := by decide +kernel
theorem dX12_inWay_27 : decode cX12_inWay 27 = .ok (.getfield 51, 3) := by decide +kernel
theorem dX12_inWay_30 : decode cX12_inWay 30 = .ok (.iload_n 1, 1) := by decide +kernel
theorem dX12_inWay_31 : decode cX12_inWay 31 = .ok (.iaload, 1) := by decide +kernel
theorem dX12_inWay_32 : decode cX12_inWay 32 = .ok (.invokevirtual 276, 3) := by decide +kernel
theorem dX12_inWay_35 : decode cX12_inWay 35 = .ok (.ifCond .eq 7, 3) := by decide +kernel
theorem dX12_inWay_38 : decode cX12_inWay 38 = .ok (.iconst 1, 1) := by decide +kernel
theorem dX12_inWay_39 : decode cX12_inWay 39 = .ok (.goto 4, 3) := by decide +kernel
theorem dX12_inWay_42 : decode cX12_inWay 42 = .ok (.iconst 0, 1) := by decide +kernel
theorem dX12_inWay_43 : decode cX12_inWay 43 = .ok (.iadd, 1) := by decide +kernel
theorem dX12_inWay_44 : decode cX12_inWay 44 = .ok (.istore_n 3, 1) := by decide +kernel
theorem dX12_inWay_45 : decode cX12_inWay 45 = .ok (.iinc 4 1, 3) := by decide +kernel
theorem dX12_inWay_48 : decode cX12_inWay 48 = .ok (.goto (-43), 3) := by decide +kernel
theorem dX12_inWay_51 : decode cX12_inWay 51 = .ok (.iload_n 3, 1) := by decide +kernel
theorem dX12_inWay_52 : decode cX12_inWay 52 = .ok (.ireturn, 1) := by decide +kernel
def fX12_inWay_L5 : Nat → Int32 → Int32 → Int32 → Int32 → Hp → Option ((Int32 × Int32) × Hp)
  | 0, _, _, _, _, _ => none
  | n + 1, a1, a2, a3, a4, h => br ((gI h 12 0 6) ≤ a4) (some ((a3, a4), h)) (gd (ib a1 8) (gd (ib a1 8) (bd (fX12_isInWay a4 ((gI h 61 0 (ix a1)) + a2) (gI h 62 0 (ix a1)) h) (fun r3 h4 => br (r3 = 0) (lb (a3 + 0) (fun v5 => lb (a4 + 1) (fun v6 => fX12_inWay_L5 n a1 a2 v5 v6 h4))) (lb (a3 + 1) (fun v7 => lb (a4 + 1) (fun v8 => fX12_inWay_L5 n a1 a2 v7 v8 h4)))))))
def fX12_inWay (a1 : Int32) (a2 : Int32) (h : Hp) : Option (Int32 × Hp) := bd (fX12_inWay_L5 FU a1 a2 0 0 h) (fun t10 h9 => lb t10.1 (fun v11 => lb t10.2 (fun v12 => some (v11, h9))))
set_option maxRecDepth 20000 in
theorem tX12_inWay_L5 {X : Cz} {h0 : Hp} {r : Option AV} {hE : Hp} : ∀ (n : Nat) (a1 : Int32) (a2 : Int32) (a3 : Int32) (a4 : Int32) (h : Hp) (z : (Int32 × Int32) × Hp), fX12_inWay_L5 n a1 a2 a3 a4 h = some z → V X mX12_inWay true h0 51 [(0, zr 12 0), (1, zi a1), (2, zi a2), (3, zi z.1.1), (4, zi z.1.2)] [] z.2 r hE → V X mX12_inWay true h0 5 [(0, zr 12 0), (1, zi a1), (2, zi a2), (3, zi a3), (4, zi a4)] [] h r hE := by
  intro n
  induction n with
  | zero => intro a1 a2 a3 a4 h z hF k; cases hF
  | succ n ih =>
    intro a1 a2 a3 a4 h z hF k
    rw [fX12_inWay_L5] at hF
    refine v_iload (j := 4) dX12_inWay_5 rfl ?_
    refine v_aload_n (j := 0) dX12_inWay_7 rfl ?_
    refine v_getI (c := 12) rfl (Or.inl rfl) cz12 flX12_241 dX12_inWay_8 ?_
    refine v_icmp_ge dX12_inWay_11 (by decide : _ = ((51 : Nat) : Int)) (fun q => ?_) (fun q => ?_)
    · replace hF := brT q hF
      cases hF
      exact k
    · replace hF := brF q hF
      refine v_iload_n (j := 3) dX12_inWay_14 rfl ?_
      refine v_aload_n (j := 0) dX12_inWay_15 rfl ?_
      refine v_iload (j := 4) dX12_inWay_16 rfl ?_
      refine v_aload_n (j := 0) dX12_inWay_18 rfl ?_
      refine v_getL (c := 12) rfl rfl rfl ly12_21 cz12 flX12_48 dX12_inWay_19 ?_
      refine v_iload_n (j := 1) dX12_inWay_22 rfl ?_
      replace hF := gd_use hF
      obtain ⟨q1, hF⟩ := hF
      refine v_iald rfl q1 dX12_inWay_23 ?_
      refine v_iload_n (j := 2) dX12_inWay_24 rfl ?_
      refine v_iadd dX12_inWay_25 ?_
      refine v_aload_n (j := 0) dX12_inWay_26 rfl ?_
      refine v_getL (c := 12) rfl rfl rfl ly12_22 cz12 flX12_51 dX12_inWay_27 ?_
      refine v_iload_n (j := 1) dX12_inWay_30 rfl ?_
      replace hF := gd_use hF
      obtain ⟨q2, hF⟩ := hF
      refine v_iald rfl q2 dX12_inWay_31 ?_
      replace hF := bd_use hF
      obtain ⟨r3, h4, er3, hF⟩ := hF
      refine v_cV (hm := h4) (av := [zi a4, zi ((gI h 61 0 (ix a1)) + a2), zi (gI h 62 0 (ix a1))]) (st := [zi a3]) (stn := [zi r3, zi a3]) (tX12_isInWay er3) lcX12_isInWay mlX12_276 imX12_isInWay seX12_isInWay rfl rfl rfl rfl ⟨by decide, by decide⟩ (Nat.le_of_ble_eq_true rfl) dX12_inWay_32 rfl rfl ?_
      clear er3
      refine v_if_eq dX12_inWay_35 (by decide : _ = ((42 : Nat) : Int)) (fun q => ?_) (fun q => ?_)
      · replace hF := brT q hF
        refine v_iconst (v := 0) dX12_inWay_42 (by decide) ?_
        refine v_iadd dX12_inWay_43 ?_
        refine v_topi fun v5 ev5 => ?_
        replace hF := lb_use ev5 hF
        clear ev5
        refine v_istore_n (ls' := [(3, zi v5), (0, zr 12 0), (1, zi a1), (2, zi a2), (4, zi a4)]) dX12_inWay_44 (by decide) rfl ?_
        obtain ⟨v6, ev6⟩ : ∃ y : Int32, y = a4 + 1 := ⟨_, rfl⟩
        replace hF := lb_use ev6 hF
        refine v_iinc (j := 4) (v := v6) (ls' := [(4, zi v6), (3, zi v5), (0, zr 12 0), (1, zi a1), (2, zi a2)]) dX12_inWay_45 rfl (by rw [ev6]; rfl) (by decide) rfl ?_
        clear ev6
        refine v_goto (tgt := 5) dX12_inWay_48 (by decide) ?_
        refine v_sub [2, 3, 4, 1, 0] rfl ?_
        exact ih a1 a2 v5 v6 h4 _ hF k
      · replace hF := brF q hF
        refine v_iconst (v := 1) dX12_inWay_38 (by decide) ?_
        refine v_goto (tgt := 43) dX12_inWay_39 (by decide) ?_
        refine v_iadd dX12_inWay_43 ?_
        refine v_topi fun v7 ev7 => ?_
        replace hF := lb_use ev7 hF
        clear ev7
        refine v_istore_n (ls' := [(3, zi v7), (0, zr 12 0), (1, zi a1), (2, zi a2), (4, zi a4)]) dX12_inWay_44 (by decide) rfl ?_
        obtain ⟨v8, ev8⟩ : ∃ y : Int32, y = a4 + 1 := ⟨_, rfl⟩
        replace hF := lb_use ev8 hF
        refine v_iinc (j := 4) (v := v8) (ls' := [(4, zi v8), (3, zi v7), (0, zr 12 0), (1, zi a1), (2, zi a2)]) dX12_inWay_45 rfl (by rw [ev8]; rfl) (by decide) rfl ?_
        clear ev8
        refine v_goto (tgt := 5) dX12_inWay_48 (by decide) ?_
        refine v_sub [2, 3, 4, 1, 0] rfl ?_
        exact ih a1 a2 v7 v8 h4 _ hF k
set_option maxRecDepth 20000 in
theorem tX12_inWay {X : Cz} {a1 : Int32} {a2 : Int32} {h hE : Hp} {rE : Int32} (hF : fX12_inWay a1 a2 h = some (rE, hE)) : Ct X mX12_inWay true [zr 12 0, zi a1, zi a2] h (some (zi rE)) hE := by
  refine Ct_of (by decide) (Nat.le_of_ble_eq_true rfl) (ls := [(0, zr 12 0), (1, zi a1), (2, zi a2)]) rfl ?_
  unfold fX12_inWay at hF
  refine v_iconst (v := 0) dX12_inWay_0 (by decide) ?_
  refine v_istore_n (ls' := [(3, zi 0), (0, zr 12 0), (1, zi a1), (2, zi a2)]) dX12_inWay_1 (by decide) rfl ?_
  refine v_iconst (v := 0) dX12_inWay_2 (by decide) ?_
  refine v_istore (ls' := [(4, zi 0), (3, zi 0), (0, zr 12 0), (1, zi a1), (2, zi a2)]) dX12_inWay_3 (by decide) rfl ?_
  refine v_sub [2, 3, 4, 1, 0] rfl ?_
  replace hF := bd_use hF
  obtain ⟨t10, h9, et10, hF⟩ := hF
  refine tX12_inWay_L5 _ a1 a2 0 0 h _ et10 ?_
  clear et10
  obtain ⟨v11, v12⟩ := t10
  replace hF := lb_use (x := v11) rfl hF
  replace hF := lb_use (x := v12) rfl hF
  refine v_iload_n (j := 3) dX12_inWay_51 rfl ?_
  obtain ⟨rfl, rfl⟩ := ret_use hF
  exact v_iret rfl dX12_inWay_52
theorem dX12_hearing_0 : decode cX12_hearing 0 = .ok (.aload_n 0, 1) := by decide +kernel
theorem dX12_hearing_1 : decode cX12_hearing 1 = .ok (.getfield 48, 3) := by decide +kernel
theorem dX12_hearing_4 : decode cX12_hearing 4 = .ok (.iload_n 1, 1) := by decide +kernel
theorem dX12_hearing_5 : decode cX12_hearing 5 = .ok (.iaload, 1) := by decide +kernel
theorem dX12_hearing_6 : decode cX12_hearing 6 = .ok (.iload_n 2, 1) := by decide +kernel
theorem dX12_hearing_7 : decode cX12_hearing 7 = .ok (.iadd, 1) := by decide +kernel
theorem dX12_hearing_8 : decode cX12_hearing 8 = .ok (.aload_n 0, 1) := by decide +kernel
theorem dX12_hearing_9 : decode cX12_hearing 9 = .ok (.getfield 23, 3) := by decide +kernel
theorem dX12_hearing_12 : decode cX12_hearing 12 = .ok (.isub, 1) := by decide +kernel
theorem dX12_hearing_13 : decode cX12_hearing 13 = .ok (.istore_n 3, 1) := by decide +kernel
theorem dX12_hearing_14 : decode cX12_hearing 14 = .ok (.aload_n 0, 1) := by decide +kernel
theorem dX12_hearing_15 : decode cX12_hearing 15 = .ok (.getfield 51, 3) := by decide +kernel
theorem dX12_hearing_18 : decode cX12_hearing 18 = .ok (.iload_n 1, 1) := by decide +kernel
theorem dX12_hearing_19 : decode cX12_hearing 19 = .ok (.iaload, 1) := by decide +kernel
theorem dX12_hearing_20 : decode cX12_hearing 20 = .ok (.aload_n 0, 1) := by decide +kernel
theorem dX12_hearing_21 : decode cX12_hearing 21 = .ok (.getfield 27, 3) := by decide +kernel
theorem dX12_hearing_24 : decode cX12_hearing 24 = .ok (.isub, 1) := by decide +kernel
theorem dX12_hearing_25 : decode cX12_hearing 25 = .ok (.istore 4, 2) := by decide +kernel
theorem dX12_hearing_27 : decode cX12_hearing 27 = .ok (.aload_n 0, 1) := by decide +kernel
theorem dX12_hearing_28 : decode cX12_hearing 28 = .ok (.getfield 30, 3) := by decide +kernel
theorem dX12_hearing_31 : decode cX12_hearing 31 = .ok (.bipush 10, 2) := by decide +kernel
theorem dX12_hearing_33 : decode cX12_hearing 33 = .ok (.iload_n 3, 1) := by decide +kernel
theorem dX12_hearing_34 : decode cX12_hearing 34 = .ok (.iload_n 3, 1) := by decide +kernel
theorem dX12_hearing_35 : decode cX12_hearing 35 = .ok (.imul, 1) := by decide +kernel
theorem dX12_hearing_36 : decode cX12_hearing 36 = .ok (.iadd, 1) := by decide +kernel
theorem dX12_hearing_37 : decode cX12_hearing 37 = .ok (.iload 4, 2) := by decide +kernel
theorem dX12_hearing_39 : decode cX12_hearing 39 = .ok (.iload 4, 2) := by decide +kernel
theorem dX12_hearing_41 : decode cX12_hearing 41 = .ok (.imul, 1) := by decide +kernel
theorem dX12_hearing_42 : decode cX12_hearing 42 = .ok (.iadd, 1) := by decide +kernel
theorem dX12_hearing_43 : decode cX12_hearing 43 = .ok (.idiv, 1) := by decide +kernel
theorem dX12_hearing_44 : decode cX12_hearing 44 = .ok (.istore 5, 2) := by decide +kernel
theorem dX12_hearing_46 : decode cX12_hearing 46 = .ok (.aload_n 0, 1) := by decide +kernel
theorem dX12_hearing_47 : decode cX12_hearing 47 = .ok (.iload_n 1, 1) := by decide +kernel
theorem dX12_hearing_48 : decode cX12_hearing 48 = .ok (.iload_n 2, 1) := by decide +kernel
theorem dX12_hearing_49 : decode cX12_hearing 49 = .ok (.invokevirtual 280, 3) := by decide +kernel
theorem dX12_hearing_52 : decode cX12_hearing 52 = .ok (.istore 6, 2) := by decide +kernel
theorem dX12_hearing_54 : decode cX12_hearing 54 = .ok (.iload 6, 2) := by decide +kernel
theorem dX12_hearing_56 : decode cX12_hearing 56 = .ok (.ifCond .le 15, 3) := by decide +kernel
theorem dX12_hearing_59 : decode cX12_hearing 59 = .ok (.iload 5, 2) := by decide +kernel
theorem dX12_hearing_61 : decode cX12_hearing 61 = .ok (.iconst 2, 1) := by decide +kernel
theorem dX12_hearing_62 : decode cX12_hearing 62 = .ok (.idiv, 1) := by decide +kernel
theorem dX12_hearing_63 : decode cX12_hearing 63 = .ok (.istore 5, 2) := by decide +kernel
theorem dX12_hearing_65 : decode cX12_hearing 65 = .ok (.iinc 6 (-1), 3) := by decide +kernel
theorem dX12_hearing_68 : decode cX12_hearing 68 = .ok (.goto (-14), 3) := by decide +kernel
theorem dX12_hearing_71 : decode cX12_hearing 71 = .ok (.aload_n 0, 1) := by decide +kernel
theorem dX12_hearing_72 : decode cX12_hearing 72 = .ok (.getfield 57, 3) := by decide +kernel
theorem dX12_hearing_75 : decode cX12_hearing 75 = .ok (.iload_n 1, 1) := by decide +kernel
theorem dX12_hearing_76 : decode cX12_hearing 76 = .ok (.baload, 1) := by decide +kernel
theorem dX12_hearing_77 : decode cX12_hearing 77 = .ok (.ifCond .eq 12, 3) := by decide +kernel
theorem dX12_hearing_80 : decode cX12_hearing 80 = .ok (.iconst 3, 1) := by decide +kernel
theorem dX12_hearing_81 : decode cX12_hearing 81 = .ok (.iload 5, 2) := by decide +kernel
theorem dX12_hearing_83 : decode cX12_hearing 83 = .ok (.imul, 1) := by decide +kernel
theorem dX12_hearing_84 : decode cX12_hearing 84 = .ok (.iconst 4, 1) := by decide +kernel
theorem dX12_hearing_85 : decode cX12_hearing 85 = .ok (.idiv, 1) := by decide +kernel
theorem dX12_hearing_86 : decode cX12_hearing 86 = .ok (.goto 5, 3) := by decide +kernel
theorem dX12_hearing_89 : decode cX12_hearing 89 = .ok (.iload 5, 2) := by decide +kernel
theorem dX12_hearing_91 : decode cX12_hearing 91 = .ok (.ireturn, 1) := by decide +kernel
def fX12_hearing_L54 : Nat → Int32 → Int32 → Int32 → Hp → Option ((Int32 × Int32) × Hp)
  | 0, _, _, _, _ => none
  | n + 1, a1, a5, a6, h => br (a6 ≤ 0) (some ((a5, a6), h)) (lb (a5 / 2) (fun v9 => lb (a6 + (-1)) (fun v10 => fX12_hearing_L54 n a1 v9 v10 h)))
def fX12_hearing (a1 : Int32) (a2 : Int32) (h : Hp) : Option (Int32 × Hp) := gd (ib a1 8) (lb (((gI h 61 0 (ix a1)) + a2) - (gI h 12 0 13)) (fun v2 => gd (ib a1 8) (lb ((gI h 62 0 (ix a1)) - (gI h 12 0 14)) (fun v4 => gd (¬ (((10 : Int32) + (v2 * v2)) + (v4 * v4)) = 0) (lb ((gI h 12 0 15) / (((10 : Int32) + (v2 * v2)) + (v4 * v4))) (fun v6 => bd (fX12_inWay a1 a2 h) (fun r7 h8 => bd (fX12_hearing_L54 FU a1 v6 r7 h8) (fun t12 h11 => lb t12.1 (fun v13 => lb t12.2 (fun v14 => gd (ib a1 8) (br ((gI h11 64 0 (ix a1)) = 0) (some (v13, h11)) (some (((3 : Int32) * v13) / 4, h11)))))))))))))
set_option maxRecDepth 20000 in
theorem tX12_hearing_L54 {X : Cz} {h0 : Hp} {r : Option AV} {hE : Hp} : ∀ (n : Nat) (a1 : Int32) (a5 : Int32) (a6 : Int32) (h : Hp) (z : (Int32 × Int32) × Hp), fX12_hearing_L54 n a1 a5 a6 h = some z → V X mX12_hearing true h0 71 [(0, zr 12 0), (1, zi a1), (5, zi z.1.1), (6, zi z.1.2)] [] z.2 r hE → V X mX12_hearing true h0 54 [(0, zr 12 0), (1, zi a1), (5, zi a5), (6, zi a6)] [] h r hE := by
  intro n
  induction n with
  | zero => intro a1 a5 a6 h z hF k; cases hF
  | succ n ih =>
    intro a1 a5 a6 h z hF k
    rw [fX12_hearing_L54] at hF
    refine v_iload (j := 3) dX12_hearing_54 rfl ?_
    refine v_if_le dX12_hearing_56 (by decide : _ = ((71 : Nat) : Int)) (fun q => ?_) (fun q => ?_)
    · replace hF := brT q hF
      cases hF
      exact k
    · replace hF := brF q hF
      refine v_iload (j := 2) dX12_hearing_59 rfl ?_
      refine v_iconst (v := 2) dX12_hearing_61 (by decide) ?_
      refine v_idiv dX12_hearing_62 (by decide) ?_
      refine v_topi fun v9 ev9 => ?_
      replace hF := lb_use ev9 hF
      clear ev9
      refine v_istore (ls' := [(5, zi v9), (0, zr 12 0), (1, zi a1), (6, zi a6)]) dX12_hearing_63 (by decide) rfl ?_
      obtain ⟨v10, ev10⟩ : ∃ y : Int32, y = a6 + (-1) := ⟨_, rfl⟩
      replace hF := lb_use ev10 hF
      refine v_iinc (j := 3) (v := v10) (ls' := [(6, zi v10), (5, zi v9), (0, zr 12 0), (1, zi a1)]) dX12_hearing_65 rfl (by rw [ev10]; rfl) (by decide) rfl ?_
      clear ev10
      refine v_goto (tgt := 54) dX12_hearing_68 (by decide) ?_
      refine v_sub [2, 3, 1, 0] rfl ?_
      exact ih a1 v9 v10 h _ hF k
set_option maxRecDepth 20000 in
theorem tX12_hearing {X : Cz} {a1 : Int32} {a2 : Int32} {h hE : Hp} {rE : Int32} (hF : fX12_hearing a1 a2 h = some (rE, hE)) : Ct X mX12_hearing true [zr 12 0, zi a1, zi a2] h (some (zi rE)) hE := by
  refine Ct_of (by decide) (Nat.le_of_ble_eq_true rfl) (ls := [(0, zr 12 0), (1, zi a1), (2, zi a2)]) rfl ?_
  unfold fX12_hearing at hF
  refine v_aload_n (j := 0) dX12_hearing_0 rfl ?_
  refine v_getL (c := 12) rfl rfl rfl ly12_21 cz12 flX12_48 dX12_hearing_1 ?_
  refine v_iload_n (j := 1) dX12_hearing_4 rfl ?_
  replace hF := gd_use hF
  obtain ⟨q1, hF⟩ := hF
  refine v_iald rfl q1 dX12_hearing_5 ?_
  refine v_iload_n (j := 2) dX12_hearing_6 rfl ?_
  refine v_iadd dX12_hearing_7 ?_
  refine v_aload_n (j := 0) dX12_hearing_8 rfl ?_
  refine v_getI (c := 12) rfl (Or.inl rfl) cz12 flX12_23 dX12_hearing_9 ?_
  refine v_isub dX12_hearing_12 ?_
  refine v_topi fun v2 ev2 => ?_
  replace hF := lb_use ev2 hF
  clear ev2
  refine v_istore_n (ls' := [(3, zi v2), (0, zr 12 0), (1, zi a1), (2, zi a2)]) dX12_hearing_13 (by decide) rfl ?_
  refine v_aload_n (j := 1) dX12_hearing_14 rfl ?_
  refine v_getL (c := 12) rfl rfl rfl ly12_22 cz12 flX12_51 dX12_hearing_15 ?_
  refine v_iload_n (j := 2) dX12_hearing_18 rfl ?_
  replace hF := gd_use hF
  obtain ⟨q3, hF⟩ := hF
  refine v_iald rfl q3 dX12_hearing_19 ?_
  refine v_aload_n (j := 1) dX12_hearing_20 rfl ?_
  refine v_getI (c := 12) rfl (Or.inl rfl) cz12 flX12_27 dX12_hearing_21 ?_
  refine v_isub dX12_hearing_24 ?_
  refine v_topi fun v4 ev4 => ?_
  replace hF := lb_use ev4 hF
  clear ev4
  refine v_istore (ls' := [(4, zi v4), (3, zi v2), (0, zr 12 0), (1, zi a1), (2, zi a2)]) dX12_hearing_25 (by decide) rfl ?_
  refine v_aload_n (j := 2) dX12_hearing_27 rfl ?_
  refine v_getI (c := 12) rfl (Or.inl rfl) cz12 flX12_30 dX12_hearing_28 ?_
  refine v_bipush (v := 10) dX12_hearing_31 (by decide) ?_
  refine v_iload_n (j := 1) dX12_hearing_33 rfl ?_
  refine v_iload_n (j := 1) dX12_hearing_34 rfl ?_
  refine v_imul dX12_hearing_35 ?_
  refine v_iadd dX12_hearing_36 ?_
  refine v_iload (j := 0) dX12_hearing_37 rfl ?_
  refine v_iload (j := 0) dX12_hearing_39 rfl ?_
  refine v_imul dX12_hearing_41 ?_
  refine v_iadd dX12_hearing_42 ?_
  replace hF := gd_use hF
  obtain ⟨q5, hF⟩ := hF
  refine v_idiv dX12_hearing_43 q5 ?_
  refine v_topi fun v6 ev6 => ?_
  replace hF := lb_use ev6 hF
  clear ev6
  refine v_istore (ls' := [(5, zi v6), (4, zi v4), (3, zi v2), (0, zr 12 0), (1, zi a1), (2, zi a2)]) dX12_hearing_44 (by decide) rfl ?_
  refine v_aload_n (j := 3) dX12_hearing_46 rfl ?_
  refine v_iload_n (j := 4) dX12_hearing_47 rfl ?_
  refine v_iload_n (j := 5) dX12_hearing_48 rfl ?_
  replace hF := bd_use hF
  obtain ⟨r7, h8, er7, hF⟩ := hF
  refine v_cV (hm := h8) (av := [zi a1, zi a2]) (st := []) (stn := [zi r7]) (tX12_inWay er7) lcX12_inWay mlX12_280 imX12_inWay seX12_inWay rfl rfl rfl rfl ⟨by decide, by decide⟩ (Nat.le_of_ble_eq_true rfl) dX12_hearing_49 rfl rfl ?_
  clear er7
  refine v_istore (ls' := [(6, zi r7), (5, zi v6), (4, zi v4), (3, zi v2), (0, zr 12 0), (1, zi a1), (2, zi a2)]) dX12_hearing_52 (by decide) rfl ?_
  refine v_sub [4, 5, 1, 0] rfl ?_
  replace hF := bd_use hF
  obtain ⟨t12, h11, et12, hF⟩ := hF
  refine tX12_hearing_L54 _ a1 v6 r7 h8 _ et12 ?_
  clear et12
  obtain ⟨v13, v14⟩ := t12
  replace hF := lb_use (x := v13) rfl hF
  replace hF := lb_use (x := v14) rfl hF
  refine v_aload_n (j := 0) dX12_hearing_71 rfl ?_
  refine v_getL (c := 12) rfl rfl rfl ly12_24 cz12 flX12_57 dX12_hearing_72 ?_
  refine v_iload_n (j := 1) dX12_hearing_75 rfl ?_
  replace hF := gd_use hF
  obtain ⟨q15, hF⟩ := hF
  refine v_zald rfl q15 dX12_hearing_76 ?_
  refine v_if_eq dX12_hearing_77 (by decide : _ = ((89 : Nat) : Int)) (fun q => ?_) (fun q => ?_)
  · replace hF := brT q hF
    refine v_iload (j := 2) dX12_hearing_89 rfl ?_
    obtain ⟨rfl, rfl⟩ := ret_use hF
    exact v_iret rfl dX12_hearing_91
  · replace hF := brF q hF
    refine v_iconst (v := 3) dX12_hearing_80 (by decide) ?_
    refine v_iload (j := 2) dX12_hearing_81 rfl ?_
    refine v_imul dX12_hearing_83 ?_
    refine v_iconst (v := 4) dX12_hearing_84 (by decide) ?_
    refine v_idiv dX12_hearing_85 (by decide) ?_
    refine v_goto (tgt := 91) dX12_hearing_86 (by decide) ?_
    obtain ⟨rfl, rfl⟩ := ret_use hF
    exact v_iret rfl dX12_hearing_91
theorem dX12_unit_0 : decode cX12_unit 0 = .ok (.aload_n 0, 1) := by decide +kernel
theorem dX12_unit_1 : decode cX12_unit 1 = .ok (.iconst 0, 1) := by decide +kernel
theorem dX12_unit_2 : decode cX12_unit 2 = .ok (.putfield 208, 3) := by decide +kernel
theorem dX12_unit_5 : decode cX12_unit 5 = .ok (.aload_n 0, 1) := by decide +kernel
theorem dX12_unit_6 : decode cX12_unit 6 = .ok (.iload_n 1, 1) := by decide +kernel
theorem dX12_unit_7 : decode cX12_unit 7 = .ok (.iload_n 2, 1) := by decide +kernel
theorem dX12_unit_8 : decode cX12_unit 8 = .ok (.invokevirtual 283, 3) := by decide +kernel
theorem dX12_unit_11 : decode cX12_unit 11 = .ok (.ifCond .eq 15, 3) := by decide +kernel
theorem dX12_unit_14 : decode cX12_unit 14 = .ok (.iload_n 3, 1) := by decide +kernel
theorem dX12_unit_15 : decode cX12_unit 15 = .ok (.i2l, 1) := by decide +kernel
theorem dX12_unit_16 : decode cX12_unit 16 = .ok (.lconst 0, 1) := by decide +kernel
theorem dX12_unit_17 : decode cX12_unit 17 = .ok (.ldc2_w 233, 3) := by decide +kernel
theorem dX12_unit_20 : decode cX12_unit 20 = .ok (.invokestatic 213, 3) := by decide +kernel
theorem dX12_unit_23 : decode cX12_unit 23 = .ok (.ifCond .ne 6, 3) := by decide +kernel
theorem dX12_unit_26 : decode cX12_unit 26 = .ok (.bipush (-2), 2) := by decide +kernel
theorem dX12_unit_28 : decode cX12_unit 28 = .ok (.ireturn, 1) := by decide +kernel
theorem dX12_unit_29 : decode cX12_unit 29 = .ok (.iload_n 3, 1) := by decide +kernel
theorem dX12_unit_30 : decode cX12_unit 30 = .ok (.ifCond .ne 12, 3) := by decide +kernel
theorem dX12_unit_33 : decode cX12_unit 33 = .ok (.aload_n 0, 1) := by decide +kernel
theorem dX12_unit_34 : decode cX12_unit 34 = .ok (.iload_n 1, 1) := by decide +kernel
theorem dX12_unit_35 : decode cX12_unit 35 = .ok (.iload_n 2, 1) := by decide +kernel
theorem dX12_unit_36 : decode cX12_unit 36 = .ok (.invokevirtual 286, 3) := by decide +kernel
theorem dX12_unit_39 : decode cX12_unit 39 = .ok (.goto 31, 3) := by decide +kernel
theorem dX12_unit_42 : decode cX12_unit 42 = .ok (.iload_n 3, 1) := by decide +kernel
theorem dX12_unit_43 : decode cX12_unit 43 = .ok (.iconst 1, 1) := by decide +kernel
theorem dX12_unit_44 : decode cX12_unit 44 = .ok (.if_icmp .ne 12, 3) := by decide +kernel
theorem dX12_unit_47 : decode cX12_unit 47 = .ok (.aload_n 0, 1) := by decide +kernel
theorem dX12_unit_48 : decode cX12_unit 48 = .ok (.iload_n 1, 1) := by decide +kernel
theorem dX12_unit_49 : decode cX12_unit 49 = .ok (.iload_n 2, 1) := by decide +kernel
theorem dX12_unit_50 : decode cX12_unit 50 = .ok (.invokevirtual 280, 3) := by decide +kernel
theorem dX12_unit_53 : decode cX12_unit 53 = .ok (.goto 17, 3) := by decide +kernel
theorem dX12_unit_56 : decode cX12_unit 56 = .ok (.aload_n 0, 1) := by decide +kernel
theorem dX12_unit_57 : decode cX12_unit 57 = .ok (.iload_n 1, 1) := by decide +kernel
theorem dX12_unit_58 : decode cX12_unit 58 = .ok (.iload_n 2, 1) := by decide +kernel
theorem dX12_unit_59 : decode cX12_unit 59 = .ok (.invokevirtual 280, 3) := by decide +kernel
theorem dX12_unit_62 : decode cX12_unit 62 = .ok (.ifCond .ne 7, 3) := by decide +kernel
theorem dX12_unit_65 : decode cX12_unit 65 = .ok (.iconst 1, 1) := by decide +kernel
theorem dX12_unit_66 : decode cX12_unit 66 = .ok (.goto 4, 3) := by decide +kernel
theorem dX12_unit_69 : decode cX12_unit 69 = .ok (.iconst 0, 1) := by decide +kernel
theorem dX12_unit_70 : decode cX12_unit 70 = .ok (.ireturn, 1) := by decide +kernel
def fX12_unit (a1 : Int32) (a2 : Int32) (a3 : Int32) (h : Hp) : Option (Int32 × Hp) := lb (sI h 12 0 0 0) (fun h1 => bd (fX12_isUnit a1 a2 h1) (fun r2 h3 => br (r2 = 0) (some ((-2), h3)) (br ((fX12_in a3.toInt64 0 2 h3) = 0) (some ((-2), h3)) (br (a3 = 0) (bd (fX12_hearing a1 a2 h3) (fun r8 h9 => some (r8, h9))) (br (a3 = 1) (bd (fX12_inWay a1 a2 h3) (fun r6 h7 => some (r6, h7))) (bd (fX12_inWay a1 a2 h3) (fun r4 h5 => br (r4 = 0) (some (1, h5)) (some (0, h5)))))))))
set_option maxRecDepth 20000 in
theorem tX12_unit {X : Cz} {a1 : Int32} {a2 : Int32} {a3 : Int32} {h hE : Hp} {rE : Int32} (hF : fX12_unit a1 a2 a3 h = some (rE, hE)) : Ct X mX12_unit true [zr 12 0, zi a1, zi a2, zi a3] h (some (zi rE)) hE := by
  refine Ct_of (by decide) (Nat.le_of_ble_eq_true rfl) (ls := [(0, zr 12 0), (1, zi a1), (2, zi a2), (3, zi a3)]) rfl ?_
  unfold fX12_unit at hF
  refine v_aload_n (j := 0) dX12_unit_0 rfl ?_
  refine v_iconst (v := 0) dX12_unit_1 (by decide) ?_
  refine v_putI (c := 12) rfl rfl (Nat.le_of_ble_eq_true rfl) cz12 flX12_208 dX12_unit_2 ?_
  refine v_toph fun h1 eh1 => ?_
  replace hF := lb_use eh1 hF
  clear eh1
  refine v_aload_n (j := 0) dX12_unit_5 rfl ?_
  refine v_iload_n (j := 1) dX12_unit_6 rfl ?_
  refine v_iload_n (j := 2) dX12_unit_7 rfl ?_
  replace hF := bd_use hF
  obtain ⟨r2, h3, er2, hF⟩ := hF
  refine v_cV (hm := h3) (av := [zi a1, zi a2]) (st := []) (stn := [zi r2]) (tX12_isUnit er2) lcX12_isUnit mlX12_283 imX12_isUnit seX12_isUnit rfl rfl rfl rfl ⟨by decide, by decide⟩ (Nat.le_of_ble_eq_true rfl) dX12_unit_8 rfl rfl ?_
  clear er2
  refine v_if_eq dX12_unit_11 (by decide : _ = ((26 : Nat) : Int)) (fun q => ?_) (fun q => ?_)
  · replace hF := brT q hF
    refine v_bipush (v := (-2)) dX12_unit_26 (by decide) ?_
    obtain ⟨rfl, rfl⟩ := ret_use hF
    exact v_iret rfl dX12_unit_28
  · replace hF := brF q hF
    refine v_iload_n (j := 3) dX12_unit_14 rfl ?_
    refine v_i2l dX12_unit_15 ?_
    refine v_lconst (v := 0) dX12_unit_16 (by decide) ?_
    refine v_ldc2 dX12_unit_17 kcX12_233 ?_
    refine v_cS (hm := h3) (av := [zj a3.toInt64, zj 0, zj 2]) (st := []) (stn := [zi (fX12_in a3.toInt64 0 2 h3)]) (tX12_in a3.toInt64 0 2 h3) lcX12_in mlX12_213 sxX12_in rfl ⟨by decide, by decide⟩ (Nat.le_of_ble_eq_true rfl) dX12_unit_20 rfl rfl ?_
    refine v_if_ne dX12_unit_23 (by decide : _ = ((29 : Nat) : Int)) (fun q => ?_) (fun q => ?_)
    · replace hF := brF q hF
      refine v_iload_n (j := 3) dX12_unit_29 rfl ?_
      refine v_if_ne dX12_unit_30 (by decide : _ = ((42 : Nat) : Int)) (fun q => ?_) (fun q => ?_)
      · replace hF := brF q hF
        refine v_iload_n (j := 3) dX12_unit_42 rfl ?_
        refine v_iconst (v := 1) dX12_unit_43 (by decide) ?_
        refine v_icmp_ne dX12_unit_44 (by decide : _ = ((56 : Nat) : Int)) (fun q => ?_) (fun q => ?_)
        · replace hF := brF q hF
          refine v_aload_n (j := 0) dX12_unit_56 rfl ?_
          refine v_iload_n (j := 1) dX12_unit_57 rfl ?_
          refine v_iload_n (j := 2) dX12_unit_58 rfl ?_
          replace hF := bd_use hF
          obtain ⟨r4, h5, er4, hF⟩ := hF
          refine v_cV (hm := h5) (av := [zi a1, zi a2]) (st := []) (stn := [zi r4]) (tX12_inWay er4) lcX12_inWay mlX12_280 imX12_inWay seX12_inWay rfl rfl rfl rfl ⟨by decide, by decide⟩ (Nat.le_of_ble_eq_true rfl) dX12_unit_59 rfl rfl ?_
          clear er4
          refine v_if_ne dX12_unit_62 (by decide : _ = ((69 : Nat) : Int)) (fun q => ?_) (fun q => ?_)
          · replace hF := brF q hF
            refine v_iconst (v := 0) dX12_unit_69 (by decide) ?_
            obtain ⟨rfl, rfl⟩ := ret_use hF
            exact v_iret rfl dX12_unit_70
          · replace hF := brT (Decidable.not_not.mp q) hF
            refine v_iconst (v := 1) dX12_unit_65 (by decide) ?_
            refine v_goto (tgt := 70) dX12_unit_66 (by decide) ?_
            obtain ⟨rfl, rfl⟩ := ret_use hF
            exact v_iret rfl dX12_unit_70
        · replace hF := brT (Decidable.not_not.mp q) hF
          refine v_aload_n (j := 0) dX12_unit_47 rfl ?_
          refine v_iload_n (j := 1) dX12_unit_48 rfl ?_
          refine v_iload_n (j := 2) dX12_unit_49 rfl ?_
          replace hF := bd_use hF
          obtain ⟨r6, h7, er6, hF⟩ := hF
          refine v_cV (hm := h7) (av := [zi a1, zi a2]) (st := []) (stn := [zi r6]) (tX12_inWay er6) lcX12_inWay mlX12_280 imX12_inWay seX12_inWay rfl rfl rfl rfl ⟨by decide, by decide⟩ (Nat.le_of_ble_eq_true rfl) dX12_unit_50 rfl rfl ?_
          clear er6
          refine v_goto (tgt := 70) dX12_unit_53 (by decide) ?_
          obtain ⟨rfl, rfl⟩ := ret_use hF
          exact v_iret rfl dX12_unit_70
      · replace hF := brT (Decidable.not_not.mp q) hF
        refine v_aload_n (j := 0) dX12_unit_33 rfl ?_
        refine v_iload_n (j := 1) dX12_unit_34 rfl ?_
        refine v_iload_n (j := 2) dX12_unit_35 rfl ?_
        replace hF := bd_use hF
        obtain ⟨r8, h9, er8, hF⟩ := hF
        refine v_cV (hm := h9) (av := [zi a1, zi a2]) (st := []) (stn := [zi r8]) (tX12_hearing er8) lcX12_hearing mlX12_286 imX12_hearing seX12_hearing rfl rfl rfl rfl ⟨by decide, by decide⟩ (Nat.le_of_ble_eq_true rfl) dX12_unit_36 rfl rfl ?_
        clear er8
        refine v_goto (tgt := 70) dX12_unit_39 (by decide) ?_
        obtain ⟨rfl, rfl⟩ := ret_use hF
        exact v_iret rfl dX12_unit_70
    · replace hF := brT (Decidable.not_not.mp q) hF
      refine v_bipush (v := (-2)) dX12_unit_26 (by decide) ?_
      obtain ⟨rfl, rfl⟩ := ret_use hF
      exact v_iret rfl dX12_unit_28
theorem dX12_listens_0 : decode cX12_listens 0 = .ok (.iconst 0, 1) := by decide +kernel
theorem dX12_listens_1 : decode cX12_listens 1 = .ok (.istore_n 1, 1) := by decide +kernel
theorem dX12_listens_2 : decode cX12_listens 2 = .ok (.iload_n 1, 1) := by decide +kernel
theorem dX12_listens_3 : decode cX12_listens 3 = .ok (.aload_n 0, 1) := by decide +kernel
theorem dX12_listens_4 : decode cX12_listens 4 = .ok (.getfield 248, 3) := by decide +kernel
theorem dX12_listens_7 : decode cX12_listens 7 = .ok (.if_icmp .ge 69, 3) := by decide +kernel
theorem dX12_listens_10 : decode cX12_listens 10 = .ok (.iconst 0, 1) := by decide +kernel
theorem dX12_listens_11 : decode cX12_listens 11 = .ok (.istore_n 2, 1) := by decide +kernel
theorem dX12_listens_12 : decode cX12_listens 12 = .ok (.iload_n 2, 1) := by decide +kernel
theorem dX12_listens_13 : decode cX12_listens 13 = .ok (.aload_n 0, 1) := by decide +kernel
theorem dX12_listens_14 : decode cX12_listens 14 = .ok (.getfield 54, 3) := by decide +kernel
theorem dX12_listens_17 : decode cX12_listens 17 = .ok (.iload_n 1, 1) := by decide +kernel
theorem dX12_listens_18 : decode cX12_listens 18 = .ok (.iaload, 1) := by decide +kernel
theorem dX12_listens_19 : decode cX12_listens 19 = .ok (.if_icmp .ge 51, 3) := by decide +kernel
theorem dX12_listens_22 : decode cX12_listens 22 = .ok (.aload_n 0, 1) := by decide +kernel
theorem dX12_listens_23 : decode cX12_listens 23 = .ok (.getfield 145, 3) := by decide +kernel
theorem dX12_listens_26 : decode cX12_listens 26 = .ok (.bipush 32, 2) := by decide +kernel
theorem dX12_listens_28 : decode cX12_listens 28 = .ok (.iload_n 1, 1) := by decide +kernel
theorem dX12_listens_29 : decode cX12_listens 29 = .ok (.imul, 1) := by decide +kernel
theorem dX12_listens_30 : decode cX12_listens 30 = .ok (.iload_n 2, 1) := by decide +kernel
theorem dX12_listens_31 : decode cX12_listens 31 = .ok (.iadd, 1) := by decide +kernel
theorem dX12_listens_32 : decode cX12_listens 32 = .ok (.aload_n 0, 1) := by decide +kernel
theorem dX12_listens_33 : decode cX12_listens 33 = .ok (.iload_n 1, 1) := by decide +kernel
theorem dX12_listens_34 : decode cX12_listens 34 = .ok (.iload_n 2, 1) := by decide +kernel
theorem dX12_listens_35 : decode cX12_listens 35 = .ok (.invokevirtual 286, 3) := by decide +kernel
theorem dX12_listens_38 : decode cX12_listens 38 = .ok (.iastore, 1) := by decide +kernel
theorem dX12_listens_39 : decode cX12_listens 39 = .ok (.aload_n 0, 1) := by decide +kernel
theorem dX12_listens_40 : decode cX12_listens 40 = .ok (.getfield 148, 3) := by decide +kernel
theorem dX12_listens_43 : decode cX12_listens 43 = .ok (.bipush 32, 2) := by decide +kernel
theorem dX12_listens_45 : decode cX12_listens 45 = .ok (.iload_n 1, 1) := by decide +kernel
theorem dX12_listens_46 : decode cX12_listens 46 = .ok (.imul, 1) := by decide +kernel
theorem dX12_listens_47 : decode cX12_listens 47 = .ok (.iload_n 2, 1) := by decide +kernel
theorem dX12_listens_48 : decode cX12_listens 48 = .ok (.iadd, 1) := by decide +kernel
theorem dX12_listens_49 : decode cX12_listens 49 = .ok (.aload_n 0, 1) := by decide +kernel
theorem dX12_listens_50 : decode cX12_listens 50 = .ok (.iload_n 1, 1) := by decide +kernel
theorem dX12_listens_51 : decode cX12_listens 51 = .ok (.iload_n 2, 1) := by decide +kernel
theorem dX12_listens_52 : decode cX12_listens 52 = .ok (.invokevirtual 280, 3) := by decide +kernel
theorem dX12_listens_55 : decode cX12_listens 55 = .ok (.ifCond .ne 7, 3) := by decide +kernel
theorem dX12_listens_58 : decode cX12_listens 58 = .ok (.iconst 1, 1) := by decide +kernel
theorem dX12_listens_59 : decode cX12_listens 59 = .ok (.goto 4, 3) := by decide +kernel
theorem dX12_listens_62 : decode cX12_listens 62 = .ok (.iconst 0, 1) := by decide +kernel
theorem dX12_listens_63 : decode cX12_listens 63 = .ok (.bastore, 1) := by decide +kernel
theorem dX12_listens_64 : decode cX12_listens 64 = .ok (.iinc 2 1, 3) := by decide +kernel
theorem dX12_listens_67 : decode cX12_listens 67 = .ok (.goto (-55), 3) := by decide +kernel
theorem dX12_listens_70 : decode cX12_listens 70 = .ok (.iinc 1 1, 3) := by decide +kernel
theorem dX12_listens_73 : decode cX12_listens 73 = .ok (.goto (-71), 3) := by decide +kernel
theorem dX12_listens_76 : decode cX12_listens 76 = .ok (.return_, 1) := by decide +kernel
def fX12_listens_L12 : Nat → Int32 → Int32 → Hp → Option ((Int32) × Hp)
  | 0, _, _, _ => none
  | n + 1, a1, a2, h => gd (ib a1 8) (br ((gI h 63 0 (ix a1)) ≤ a2) (some ((a2), h)) (bd (fX12_hearing a1 a2 h) (fun r2 h3 => gd (ib (((32 : Int32) * a1) + a2) 256) (lb (sI h3 93 0 (ix (((32 : Int32) * a1) + a2)) r2) (fun h5 => bd (fX12_inWay a1 a2 h5) (fun r6 h7 => br (r6 = 0) (gd (ib (((32 : Int32) * a1) + a2) 256) (lb (sI h7 94 0 (ix (((32 : Int32) * a1) + a2)) 1) (fun h12 => lb (a2 + 1) (fun v13 => fX12_listens_L12 n a1 v13 h12)))) (gd (ib (((32 : Int32) * a1) + a2) 256) (lb (sI h7 94 0 (ix (((32 : Int32) * a1) + a2)) 0) (fun h9 => lb (a2 + 1) (fun v10 => fX12_listens_L12 n a1 v10 h9))))))))))
def fX12_listens_L2 : Nat → Int32 → Hp → Option ((Int32) × Hp)
  | 0, _, _ => none
  | n + 1, a1, h => br ((gI h 12 0 7) ≤ a1) (some ((a1), h)) (bd (fX12_listens_L12 FU a1 0 h) (fun v16 h14 => lb (a1 + 1) (fun v17 => fX12_listens_L2 n v17 h14)))
def fX12_listens (h : Hp) : Option (Unit × Hp) := bd (fX12_listens_L2 FU 0 h) (fun v20 h18 => some ((), h18))
set_option maxRecDepth 20000 in
theorem tX12_listens_L12 {X : Cz} {h0 : Hp} {r : Option AV} {hE : Hp} : ∀ (n : Nat) (a1 : Int32) (a2 : Int32) (h : Hp) (z : (Int32) × Hp), fX12_listens_L12 n a1 a2 h = some z → V X mX12_listens true h0 70 [(0, zr 12 0), (1, zi a1), (2, zi z.1)] [] z.2 r hE → V X mX12_listens true h0 12 [(0, zr 12 0), (1, zi a1), (2, zi a2)] [] h r hE := by
  intro n
  induction n with
  | zero => intro a1 a2 h z hF k; cases hF
  | succ n ih =>
    intro a1 a2 h z hF k
    rw [fX12_listens_L12] at hF
    refine v_iload_n (j := 2) dX12_listens_12 rfl ?_
    refine v_aload_n (j := 0) dX12_listens_13 rfl ?_
    refine v_getL (c := 12) rfl rfl rfl ly12_23 cz12 flX12_54 dX12_listens_14 ?_
    refine v_iload_n (j := 1) dX12_listens_17 rfl ?_
    replace hF := gd_use hF
    obtain ⟨q1, hF⟩ := hF
    refine v_iald rfl q1 dX12_listens_18 ?_
    refine v_icmp_ge dX12_listens_19 (by decide : _ = ((70 : Nat) : Int)) (fun q => ?_) (fun q => ?_)
    · replace hF := brT q hF
      cases hF
      exact k
    · replace hF := brF q hF
      refine v_aload_n (j := 0) dX12_listens_22 rfl ?_
      refine v_getL (c := 12) rfl rfl rfl ly12_53 cz12 flX12_145 dX12_listens_23 ?_
      refine v_bipush (v := 32) dX12_listens_26 (by decide) ?_
      refine v_iload_n (j := 1) dX12_listens_28 rfl ?_
      refine v_imul dX12_listens_29 ?_
      refine v_iload_n (j := 2) dX12_listens_30 rfl ?_
      refine v_iadd dX12_listens_31 ?_
      refine v_aload_n (j := 0) dX12_listens_32 rfl ?_
      refine v_iload_n (j := 1) dX12_listens_33 rfl ?_
      refine v_iload_n (j := 2) dX12_listens_34 rfl ?_
      replace hF := bd_use hF
      obtain ⟨r2, h3, er2, hF⟩ := hF
      refine v_cV (hm := h3) (av := [zi a1, zi a2]) (st := [zi (((32 : Int32) * a1) + a2), zr 93 0]) (stn := [zi r2, zi (((32 : Int32) * a1) + a2), zr 93 0]) (tX12_hearing er2) lcX12_hearing mlX12_286 imX12_hearing seX12_hearing rfl rfl rfl rfl ⟨by decide, by decide⟩ (Nat.le_of_ble_eq_true rfl) dX12_listens_35 rfl rfl ?_
      clear er2
      replace hF := gd_use hF
      obtain ⟨q4, hF⟩ := hF
      refine v_iast rfl q4 dX12_listens_38 ?_
      refine v_toph fun h5 eh5 => ?_
      replace hF := lb_use eh5 hF
      clear eh5
      refine v_aload_n (j := 0) dX12_listens_39 rfl ?_
      refine v_getL (c := 12) rfl rfl rfl ly12_54 cz12 flX12_148 dX12_listens_40 ?_
      refine v_bipush (v := 32) dX12_listens_43 (by decide) ?_
      refine v_iload_n (j := 1) dX12_listens_45 rfl ?_
      refine v_imul dX12_listens_46 ?_
      refine v_iload_n (j := 2) dX12_listens_47 rfl ?_
      refine v_iadd dX12_listens_48 ?_
      refine v_aload_n (j := 0) dX12_listens_49 rfl ?_
      refine v_iload_n (j := 1) dX12_listens_50 rfl ?_
      refine v_iload_n (j := 2) dX12_listens_51 rfl ?_
      replace hF := bd_use hF
      obtain ⟨r6, h7, er6, hF⟩ := hF
      refine v_cV (hm := h7) (av := [zi a1, zi a2]) (st := [zi (((32 : Int32) * a1) + a2), zr 94 0]) (stn := [zi r6, zi (((32 : Int32) * a1) + a2), zr 94 0]) (tX12_inWay er6) lcX12_inWay mlX12_280 imX12_inWay seX12_inWay rfl rfl rfl rfl ⟨by decide, by decide⟩ (Nat.le_of_ble_eq_true rfl) dX12_listens_52 rfl rfl ?_
      clear er6
      refine v_if_ne dX12_listens_55 (by decide : _ = ((62 : Nat) : Int)) (fun q => ?_) (fun q => ?_)
      · replace hF := brF q hF
        refine v_iconst (v := 0) dX12_listens_62 (by decide) ?_
        replace hF := gd_use hF
        obtain ⟨q8, hF⟩ := hF
        refine v_zastL rfl q8 (Or.inl rfl) dX12_listens_63 ?_
        refine v_toph fun h9 eh9 => ?_
        replace hF := lb_use eh9 hF
        clear eh9
        obtain ⟨v10, ev10⟩ : ∃ y : Int32, y = a2 + 1 := ⟨_, rfl⟩
        replace hF := lb_use ev10 hF
        refine v_iinc (j := 2) (v := v10) (ls' := [(2, zi v10), (0, zr 12 0), (1, zi a1)]) dX12_listens_64 rfl (by rw [ev10]; rfl) (by decide) rfl ?_
        clear ev10
        refine v_goto (tgt := 12) dX12_listens_67 (by decide) ?_
        refine v_sub [1, 2, 0] rfl ?_
        exact ih a1 v10 h9 _ hF k
      · replace hF := brT (Decidable.not_not.mp q) hF
        refine v_iconst (v := 1) dX12_listens_58 (by decide) ?_
        refine v_goto (tgt := 63) dX12_listens_59 (by decide) ?_
        replace hF := gd_use hF
        obtain ⟨q11, hF⟩ := hF
        refine v_zastL rfl q11 (Or.inr rfl) dX12_listens_63 ?_
        refine v_toph fun h12 eh12 => ?_
        replace hF := lb_use eh12 hF
        clear eh12
        obtain ⟨v13, ev13⟩ : ∃ y : Int32, y = a2 + 1 := ⟨_, rfl⟩
        replace hF := lb_use ev13 hF
        refine v_iinc (j := 2) (v := v13) (ls' := [(2, zi v13), (0, zr 12 0), (1, zi a1)]) dX12_listens_64 rfl (by rw [ev13]; rfl) (by decide) rfl ?_
        clear ev13
        refine v_goto (tgt := 12) dX12_listens_67 (by decide) ?_
        refine v_sub [1, 2, 0] rfl ?_
        exact ih a1 v13 h12 _ hF k
set_option maxRecDepth 20000 in
theorem tX12_listens_L2 {X : Cz} {h0 : Hp} {r : Option AV} {hE : Hp} : ∀ (n : Nat) (a1 : Int32) (h : Hp) (z : (Int32) × Hp), fX12_listens_L2 n a1 h = some z → V X mX12_listens true h0 76 [(0, zr 12 0), (1, zi z.1)] [] z.2 r hE → V X mX12_listens true h0 2 [(0, zr 12 0), (1, zi a1)] [] h r hE := by
  intro n
  induction n with
  | zero => intro a1 h z hF k; cases hF
  | succ n ih =>
    intro a1 h z hF k
    rw [fX12_listens_L2] at hF
    refine v_iload_n (j := 1) dX12_listens_2 rfl ?_
    refine v_aload_n (j := 0) dX12_listens_3 rfl ?_
    refine v_getI (c := 12) rfl (Or.inl rfl) cz12 flX12_248 dX12_listens_4 ?_
    refine v_icmp_ge dX12_listens_7 (by decide : _ = ((76 : Nat) : Int)) (fun q => ?_) (fun q => ?_)
    · replace hF := brT q hF
      cases hF
      exact k
    · replace hF := brF q hF
      refine v_iconst (v := 0) dX12_listens_10 (by decide) ?_
      refine v_istore_n (ls' := [(2, zi 0), (0, zr 12 0), (1, zi a1)]) dX12_listens_11 (by decide) rfl ?_
      refine v_sub [1, 2, 0] rfl ?_
      replace hF := bd_use hF
      obtain ⟨v16, h14, ev16, hF⟩ := hF
      refine tX12_listens_L12 _ a1 0 h _ ev16 ?_
      clear ev16
      obtain ⟨v17, ev17⟩ : ∃ y : Int32, y = a1 + 1 := ⟨_, rfl⟩
      replace hF := lb_use ev17 hF
      refine v_iinc (j := 1) (v := v17) (ls' := [(1, zi v17), (0, zr 12 0), (2, zi v16)]) dX12_listens_70 rfl (by rw [ev17]; rfl) (by decide) rfl ?_
      clear ev17
      refine v_goto (tgt := 2) dX12_listens_73 (by decide) ?_
      refine v_sub [1, 0] rfl ?_
      exact ih v17 h14 _ hF k
set_option maxRecDepth 20000 in
theorem tX12_listens {X : Cz} {h hE : Hp} {rE : Unit} (hF : fX12_listens h = some (rE, hE)) : Ct X mX12_listens true [zr 12 0] h (none) hE := by
  refine Ct_of (by decide) (Nat.le_of_ble_eq_true rfl) (ls := [(0, zr 12 0)]) rfl ?_
  unfold fX12_listens at hF
  refine v_iconst (v := 0) dX12_listens_0 (by decide) ?_
  refine v_istore_n (ls' := [(1, zi 0), (0, zr 12 0)]) dX12_listens_1 (by decide) rfl ?_
  refine v_sub [1, 0] rfl ?_
  replace hF := bd_use hF
  obtain ⟨v20, h18, ev20, hF⟩ := hF
  refine tX12_listens_L2 _ 0 h _ ev20 ?_
  clear ev20
  cases hF
  exact v_vret rfl dX12_listens_76
theorem dX12_worthOf_0 : decode cX12_worthOf 0 = .ok (.iconst 0, 1) := by decide +kernel
theorem dX12_worthOf_1 : decode cX12_worthOf 1 = .ok (.istore 5, 2) := by decide +kernel
theorem dX12_worthOf_3 : decode cX12_worthOf 3 = .ok (.iconst 0, 1) := by decide +kernel
theorem dX12_worthOf_4 : decode cX12_worthOf 4 = .ok (.istore 6, 2) := by decide +kernel
theorem dX12_worthOf_6 : decode cX12_worthOf 6 = .ok (.iload_n 2, 1) := by decide +kernel
theorem dX12_worthOf_7 : decode cX12_worthOf 7 = .ok (.istore 7, 2) := by decide +kernel
theorem dX12_worthOf_9 : decode cX12_worthOf 9 = .ok (.iload 7, 2) := by decide +kernel
theorem dX12_worthOf_11 : decode cX12_worthOf 11 = .ok (.iload_n 2, 1) := by decide +kernel
theorem dX12_worthOf_12 : decode cX12_worthOf 12 = .ok (.iload_n 3, 1) := by decide +kernel
theorem dX12_worthOf_13 : decode cX12_worthOf 13 = .ok (.iadd, 1) := by decide +kernel
theorem dX12_worthOf_14 : decode cX12_worthOf 14 = .ok (.if_icmp .ge 60, 3) := by decide +kernel
theorem dX12_worthOf_17 : decode cX12_worthOf 17 = .ok (.aload_n 0, 1) := by decide +kernel
theorem dX12_worthOf_18 : decode cX12_worthOf 18 = .ok (.getfield 145, 3) := by decide +kernel
theorem dX12_worthOf_21 : decode cX12_worthOf 21 = .ok (.bipush 32, 2) := by decide +kernel
theorem dX12_worthOf_23 : decode cX12_worthOf 23 = .ok (.iload_n 1, 1) := by decide +kernel
theorem dX12_worthOf_24 : decode cX12_worthOf 24 = .ok (.imul, 1) := by decide +kernel
theorem dX12_worthOf_25 : decode cX12_worthOf 25 = .ok (.iload 7, 2) := by decide +kernel
theorem dX12_worthOf_27 : decode cX12_worthOf 27 = .ok (.iadd, 1) := by decide +kernel
theorem dX12_worthOf_28 : decode cX12_worthOf 28 = .ok (.iaload, 1) := by decide +kernel
theorem dX12_worthOf_29 : decode cX12_worthOf 29 = .ok (.istore 8, 2) := by decide +kernel
theorem dX12_worthOf_31 : decode cX12_worthOf 31 = .ok (.iload 5, 2) := by decide +kernel
theorem dX12_worthOf_33 : decode cX12_worthOf 33 = .ok (.iload 8, 2) := by decide +kernel
theorem dX12_worthOf_35 : decode cX12_worthOf 35 = .ok (.aload_n 0, 1) := by decide +kernel
theorem dX12_worthOf_36 : decode cX12_worthOf 36 = .ok (.getfield 148, 3) := by decide +kernel
theorem dX12_worthOf_39 : decode cX12_worthOf 39 = .ok (.bipush 32, 2) := by decide +kernel
theorem dX12_worthOf_41 : decode cX12_worthOf 41 = .ok (.iload_n 1, 1) := by decide +kernel
theorem dX12_worthOf_42 : decode cX12_worthOf 42 = .ok (.imul, 1) := by decide +kernel
theorem dX12_worthOf_43 : decode cX12_worthOf 43 = .ok (.iload 7, 2) := by decide +kernel
theorem dX12_worthOf_45 : decode cX12_worthOf 45 = .ok (.iadd, 1) := by decide +kernel
theorem dX12_worthOf_46 : decode cX12_worthOf 46 = .ok (.baload, 1) := by decide +kernel
theorem dX12_worthOf_47 : decode cX12_worthOf 47 = .ok (.ifCond .eq 7, 3) := by decide +kernel
theorem dX12_worthOf_50 : decode cX12_worthOf 50 = .ok (.iconst 1, 1) := by decide +kernel
theorem dX12_worthOf_51 : decode cX12_worthOf 51 = .ok (.goto 4, 3) := by decide +kernel
theorem dX12_worthOf_54 : decode cX12_worthOf 54 = .ok (.iconst 0, 1) := by decide +kernel
theorem dX12_worthOf_55 : decode cX12_worthOf 55 = .ok (.iadd, 1) := by decide +kernel
theorem dX12_worthOf_56 : decode cX12_worthOf 56 = .ok (.iadd, 1) := by decide +kernel
theorem dX12_worthOf_57 : decode cX12_worthOf 57 = .ok (.istore 5, 2) := by decide +kernel
theorem dX12_worthOf_59 : decode cX12_worthOf 59 = .ok (.iload 6, 2) := by decide +kernel
theorem dX12_worthOf_61 : decode cX12_worthOf 61 = .ok (.iload 8, 2) := by decide +kernel
theorem dX12_worthOf_63 : decode cX12_worthOf 63 = .ok (.invokestatic 263, 3) := by decide +kernel
theorem dX12_worthOf_66 : decode cX12_worthOf 66 = .ok (.istore 6, 2) := by decide +kernel
theorem dX12_worthOf_68 : decode cX12_worthOf 68 = .ok (.iinc 7 1, 3) := by decide +kernel
theorem dX12_worthOf_71 : decode cX12_worthOf 71 = .ok (.goto (-62), 3) := by decide +kernel
theorem dX12_worthOf_74 : decode cX12_worthOf 74 = .ok (.iload 5, 2) := by decide +kernel
theorem dX12_worthOf_76 : decode cX12_worthOf 76 = .ok (.iload 4, 2) := by decide +kernel
theorem dX12_worthOf_78 : decode cX12_worthOf 78 = .ok (.iload 6, 2) := by decide +kernel
theorem dX12_worthOf_80 : decode cX12_worthOf 80 = .ok (.imul, 1) := by decide +kernel
theorem dX12_worthOf_81 : decode cX12_worthOf 81 = .ok (.iadd, 1) := by decide +kernel
theorem dX12_worthOf_82 : decode cX12_worthOf 82 = .ok (.ireturn, 1) := by decide +kernel
def fX12_worthOf_L9 : Nat → Int32 → Int32 → Int32 → Int32 → Int32 → Int32 → Int32 → Hp → Option ((Int32 × Int32 × Int32) × Hp)
  | 0, _, _, _, _, _, _, _, _ => none
  | n + 1, a1, a2, a3, a4, a5, a6, a7, h => br ((a2 + a3) ≤ a7) (some ((a5, a6, a7), h)) (gd (ib (((32 : Int32) * a1) + a7) 256) (lb (gI h 93 0 (ix (((32 : Int32) * a1) + a7))) (fun v2 => gd (ib (((32 : Int32) * a1) + a7) 256) (lb (fun (x5 : Int32) (x6 : Int32) (x7 : Int32) (h8 : Hp) => lb (x5 + (x6 + x7)) (fun v9 => lb (mxI a6 v2) (fun v10 => lb (a7 + 1) (fun v11 => fX12_worthOf_L9 n a1 a2 a3 a4 v9 v10 v11 h8)))) (fun j4 => br ((gI h 94 0 (ix (((32 : Int32) * a1) + a7))) = 0) (j4 a5 v2 0 h) (j4 a5 v2 1 h))))))
def fX12_worthOf (a1 : Int32) (a2 : Int32) (a3 : Int32) (a4 : Int32) (h : Hp) : Option (Int32 × Hp) := bd (fX12_worthOf_L9 FU a1 a2 a3 a4 0 0 a2 h) (fun t13 h12 => lb t13.1 (fun v14 => lb t13.2.1 (fun v15 => lb t13.2.2 (fun v16 => some (v14 + (a4 * v15), h12)))))
set_option maxRecDepth 20000 in
theorem tX12_worthOf_L9 {X : Cz} {h0 : Hp} {r : Option AV} {hE : Hp} : ∀ (n : Nat) (a1 : Int32) (a2 : Int32) (a3 : Int32) (a4 : Int32) (a5 : Int32) (a6 : Int32) (a7 : Int32) (h : Hp) (z : (Int32 × Int32 × Int32) × Hp), fX12_worthOf_L9 n a1 a2 a3 a4 a5 a6 a7 h = some z → V X mX12_worthOf true h0 74 [(0, zr 12 0), (1, zi a1), (2, zi a2), (3, zi a3), (4, zi a4), (5, zi z.1.1), (6, zi z.1.2.1), (7, zi z.1.2.2)] [] z.2 r hE → V X mX12_worthOf true h0 9 [(0, zr 12 0), (1, zi a1), (2, zi a2), (3, zi a3), (4, zi a4), (5, zi a5), (6, zi a6), (7, zi a7)] [] h r hE := by
  intro n
  induction n with
  | zero => intro a1 a2 a3 a4 a5 a6 a7 h z hF k; cases hF
  | succ n ih =>
    intro a1 a2 a3 a4 a5 a6 a7 h z hF k
    rw [fX12_worthOf_L9] at hF
    refine v_iload (j := 7) dX12_worthOf_9 rfl ?_
    refine v_iload_n (j := 2) dX12_worthOf_11 rfl ?_
    refine v_iload_n (j := 3) dX12_worthOf_12 rfl ?_
    refine v_iadd dX12_worthOf_13 ?_
    refine v_icmp_ge dX12_worthOf_14 (by decide : _ = ((74 : Nat) : Int)) (fun q => ?_) (fun q => ?_)
    · replace hF := brT q hF
      cases hF
      exact k
    · replace hF := brF q hF
      refine v_aload_n (j := 0) dX12_worthOf_17 rfl ?_
      refine v_getL (c := 12) rfl rfl rfl ly12_53 cz12 flX12_145 dX12_worthOf_18 ?_
      refine v_bipush (v := 32) dX12_worthOf_21 (by decide) ?_
      refine v_iload_n (j := 1) dX12_worthOf_23 rfl ?_
      refine v_imul dX12_worthOf_24 ?_
      refine v_iload (j := 7) dX12_worthOf_25 rfl ?_
      refine v_iadd dX12_worthOf_27 ?_
      replace hF := gd_use hF
      obtain ⟨q1, hF⟩ := hF
      refine v_iald rfl q1 dX12_worthOf_28 ?_
      refine v_topi fun v2 ev2 => ?_
      replace hF := lb_use ev2 hF
      clear ev2
      refine v_istore (ls' := [(8, zi v2), (0, zr 12 0), (1, zi a1), (2, zi a2), (3, zi a3), (4, zi a4), (5, zi a5), (6, zi a6), (7, zi a7)]) dX12_worthOf_29 (by decide) rfl ?_
      refine v_iload (j := 6) dX12_worthOf_31 rfl ?_
      refine v_iload (j := 0) dX12_worthOf_33 rfl ?_
      refine v_aload_n (j := 1) dX12_worthOf_35 rfl ?_
      refine v_getL (c := 12) rfl rfl rfl ly12_54 cz12 flX12_148 dX12_worthOf_36 ?_
      refine v_bipush (v := 32) dX12_worthOf_39 (by decide) ?_
      refine v_iload_n (j := 2) dX12_worthOf_41 rfl ?_
      refine v_imul dX12_worthOf_42 ?_
      refine v_iload (j := 8) dX12_worthOf_43 rfl ?_
      refine v_iadd dX12_worthOf_45 ?_
      replace hF := gd_use hF
      obtain ⟨q3, hF⟩ := hF
      refine v_zald rfl q3 dX12_worthOf_46 ?_
      replace hF := lb_ex hF
      obtain ⟨j4, ej4, hF⟩ := hF
      have j4V : ∀ (x5 : Int32) (x6 : Int32) (x7 : Int32) (h8 : Hp), j4 x5 x6 x7 h8 = some z → V X mX12_worthOf true h0 55 [(0, zr 12 0), (1, zi a1), (2, zi a2), (3, zi a3), (4, zi a4), (6, zi a6), (7, zi a7), (8, zi v2)] [zi x7, zi x6, zi x5] h8 r hE := by
        intro x5 x6 x7 h8 hF
        subst ej4
        refine v_iadd dX12_worthOf_55 ?_
        refine v_iadd dX12_worthOf_56 ?_
        refine v_topi fun v9 ev9 => ?_
        replace hF := lb_use ev9 hF
        clear ev9
        refine v_istore (ls' := [(5, zi v9), (0, zr 12 0), (1, zi a1), (2, zi a2), (3, zi a3), (4, zi a4), (6, zi a6), (7, zi a7), (8, zi v2)]) dX12_worthOf_57 (by decide) rfl ?_
        refine v_iload (j := 6) dX12_worthOf_59 rfl ?_
        refine v_iload (j := 8) dX12_worthOf_61 rfl ?_
        refine v_J9_max_7cf53 mlX12_263 (by decide) (Nat.le_of_ble_eq_true rfl) dX12_worthOf_63 ?_
        refine v_topi fun v10 ev10 => ?_
        replace hF := lb_use ev10 hF
        clear ev10
        refine v_istore (ls' := [(6, zi v10), (5, zi v9), (0, zr 12 0), (1, zi a1), (2, zi a2), (3, zi a3), (4, zi a4), (7, zi a7), (8, zi v2)]) dX12_worthOf_66 (by decide) rfl ?_
        obtain ⟨v11, ev11⟩ : ∃ y : Int32, y = a7 + 1 := ⟨_, rfl⟩
        replace hF := lb_use ev11 hF
        refine v_iinc (j := 7) (v := v11) (ls' := [(7, zi v11), (6, zi v10), (5, zi v9), (0, zr 12 0), (1, zi a1), (2, zi a2), (3, zi a3), (4, zi a4), (8, zi v2)]) dX12_worthOf_68 rfl (by rw [ev11]; rfl) (by decide) rfl ?_
        clear ev11
        refine v_goto (tgt := 9) dX12_worthOf_71 (by decide) ?_
        refine v_sub [3, 4, 5, 6, 7, 2, 1, 0] rfl ?_
        exact ih a1 a2 a3 a4 v9 v10 v11 h8 _ hF k
      clear ej4
      refine v_if_eq dX12_worthOf_47 (by decide : _ = ((54 : Nat) : Int)) (fun q => ?_) (fun q => ?_)
      · replace hF := brT q hF
        refine v_iconst (v := 0) dX12_worthOf_54 (by decide) ?_
        refine v_sub [1, 2, 3, 4, 5, 7, 8, 0] rfl ?_
        exact j4V a5 v2 0 h hF
      · replace hF := brF q hF
        refine v_iconst (v := 1) dX12_worthOf_50 (by decide) ?_
        refine v_goto (tgt := 55) dX12_worthOf_51 (by decide) ?_
        refine v_sub [1, 2, 3, 4, 5, 7, 8, 0] rfl ?_
        exact j4V a5 v2 1 h hF
set_option maxRecDepth 20000 in
theorem tX12_worthOf {X : Cz} {a1 : Int32} {a2 : Int32} {a3 : Int32} {a4 : Int32} {h hE : Hp} {rE : Int32} (hF : fX12_worthOf a1 a2 a3 a4 h = some (rE, hE)) : Ct X mX12_worthOf true [zr 12 0, zi a1, zi a2, zi a3, zi a4] h (some (zi rE)) hE := by
  refine Ct_of (by decide) (Nat.le_of_ble_eq_true rfl) (ls := [(0, zr 12 0), (1, zi a1), (2, zi a2), (3, zi a3), (4, zi a4)]) rfl ?_
  unfold fX12_worthOf at hF
  refine v_iconst (v := 0) dX12_worthOf_0 (by decide) ?_
  refine v_istore (ls' := [(5, zi 0), (0, zr 12 0), (1, zi a1), (2, zi a2), (3, zi a3), (4, zi a4)]) dX12_worthOf_1 (by decide) rfl ?_
  refine v_iconst (v := 0) dX12_worthOf_3 (by decide) ?_
  refine v_istore (ls' := [(6, zi 0), (5, zi 0), (0, zr 12 0), (1, zi a1), (2, zi a2), (3, zi a3), (4, zi a4)]) dX12_worthOf_4 (by decide) rfl ?_
  refine v_iload_n (j := 4) dX12_worthOf_6 rfl ?_
  refine v_istore (ls' := [(7, zi a2), (6, zi 0), (5, zi 0), (0, zr 12 0), (1, zi a1), (2, zi a2), (3, zi a3), (4, zi a4)]) dX12_worthOf_7 (by decide) rfl ?_
  refine v_sub [3, 4, 5, 6, 7, 2, 1, 0] rfl ?_
  replace hF := bd_use hF
  obtain ⟨t13, h12, et13, hF⟩ := hF
  refine tX12_worthOf_L9 _ a1 a2 a3 a4 0 0 a2 h _ et13 ?_
  clear et13
  obtain ⟨v14, v15, v16⟩ := t13
  replace hF := lb_use (x := v14) rfl hF
  replace hF := lb_use (x := v15) rfl hF
  replace hF := lb_use (x := v16) rfl hF
  refine v_iload (j := 5) dX12_worthOf_74 rfl ?_
  refine v_iload (j := 4) dX12_worthOf_76 rfl ?_
  refine v_iload (j := 6) dX12_worthOf_78 rfl ?_
  refine v_imul dX12_worthOf_80 ?_
  refine v_iadd dX12_worthOf_81 ?_
  obtain ⟨rfl, rfl⟩ := ret_use hF
  exact v_iret rfl dX12_worthOf_82
theorem dX12_isLike_0 : decode cX12_isLike 0 = .ok (.iload_n 0, 1) := by decide +kernel
theorem dX12_isLike_1 : decode cX12_isLike 1 = .ok (.i2l, 1) := by decide +kernel
theorem dX12_isLike_2 : decode cX12_isLike 2 = .ok (.lconst 0, 1) := by decide +kernel
theorem dX12_isLike_3 : decode cX12_isLike 3 = .ok (.ldc2_w 289, 3) := by decide +kernel
theorem dX12_isLike_6 : decode cX12_isLike 6 = .ok (.invokestatic 213, 3) := by decide +kernel
theorem dX12_isLike_9 : decode cX12_isLike 9 = .ok (.ifCond .eq 31, 3) := by decide +kernel
theorem dX12_isLike_12 : decode cX12_isLike 12 = .ok (.iload_n 1, 1) := by decide +kernel
theorem dX12_isLike_13 : decode cX12_isLike 13 = .ok (.i2l, 1) := by decide +kernel
theorem dX12_isLike_14 : decode cX12_isLike 14 = .ok (.lconst 1, 1) := by decide +kernel
theorem dX12_isLike_15 : decode cX12_isLike 15 = .ok (.ldc2_w 291, 3) := by decide +kernel
theorem dX12_isLike_18 : decode cX12_isLike 18 = .ok (.invokestatic 213, 3) := by decide +kernel
theorem dX12_isLike_21 : decode cX12_isLike 21 = .ok (.ifCond .eq 19, 3) := by decide +kernel
theorem dX12_isLike_24 : decode cX12_isLike 24 = .ok (.iload_n 2, 1) := by decide +kernel
theorem dX12_isLike_25 : decode cX12_isLike 25 = .ok (.i2l, 1) := by decide +kernel
theorem dX12_isLike_26 : decode cX12_isLike 26 = .ok (.lconst 0, 1) := by decide +kernel
theorem dX12_isLike_27 : decode cX12_isLike 27 = .ok (.ldc2_w 293, 3) := by decide +kernel
theorem dX12_isLike_30 : decode cX12_isLike 30 = .ok (.invokestatic 213, 3) := by decide +kernel
theorem dX12_isLike_33 : decode cX12_isLike 33 = .ok (.ifCond .eq 7, 3) := by decide +kernel
theorem dX12_isLike_36 : decode cX12_isLike 36 = .ok (.iconst 1, 1) := by decide +kernel
theorem dX12_isLike_37 : decode cX12_isLike 37 = .ok (.goto 4, 3) := by decide +kernel
theorem dX12_isLike_40 : decode cX12_isLike 40 = .ok (.iconst 0, 1) := by decide +kernel
theorem dX12_isLike_41 : decode cX12_isLike 41 = .ok (.ireturn, 1) := by decide +kernel
def fX12_isLike (a0 : Int32) (a1 : Int32) (a2 : Int32) (h : Hp) : Int32 := br ((fX12_in a0.toInt64 0 99 h) = 0) (0) (br ((fX12_in a1.toInt64 1 12 h) = 0) (0) (br ((fX12_in a2.toInt64 0 9 h) = 0) (0) (1)))
set_option maxRecDepth 20000 in
theorem tX12_isLike {X : Cz} (a0 : Int32) (a1 : Int32) (a2 : Int32) (h : Hp) : Ct X mX12_isLike true [zi a0, zi a1, zi a2] h (some (zi (fX12_isLike a0 a1 a2 h))) h := by
  refine Ct_of (by decide) (Nat.le_of_ble_eq_true rfl) (ls := [(0, zi a0), (1, zi a1), (2, zi a2)]) rfl ?_
  obtain ⟨rE, hF⟩ : ∃ z, fX12_isLike a0 a1 a2 h = z := ⟨_, rfl⟩
  rw [hF]
  unfold fX12_isLike at hF
  refine v_iload_n (j := 0) dX12_isLike_0 rfl ?_
  refine v_i2l dX12_isLike_1 ?_
  refine v_lconst (v := 0) dX12_isLike_2 (by decide) ?_
  refine v_ldc2 dX12_isLike_3 kcX12_289 ?_
  refine v_cS (hm := h) (av := [zj a0.toInt64, zj 0, zj 99]) (st := []) (stn := [zi (fX12_in a0.toInt64 0 99 h)]) (tX12_in a0.toInt64 0 99 h) lcX12_in mlX12_213 sxX12_in rfl ⟨by decide, by decide⟩ (Nat.le_of_ble_eq_true rfl) dX12_isLike_6 rfl rfl ?_
  refine v_if_eq dX12_isLike_9 (by decide : _ = ((40 : Nat) : Int)) (fun q => ?_) (fun q => ?_)
  · replace hF := brT q hF
    refine v_iconst (v := 0) dX12_isLike_40 (by decide) ?_
    subst hF
    exact v_zret rfl (Or.inl rfl) dX12_isLike_41
  · replace hF := brF q hF
    refine v_iload_n (j := 1) dX12_isLike_12 rfl ?_
    refine v_i2l dX12_isLike_13 ?_
    refine v_lconst (v := 1) dX12_isLike_14 (by decide) ?_
    refine v_ldc2 dX12_isLike_15 kcX12_291 ?_
    refine v_cS (hm := h) (av := [zj a1.toInt64, zj 1, zj 12]) (st := []) (stn := [zi (fX12_in a1.toInt64 1 12 h)]) (tX12_in a1.toInt64 1 12 h) lcX12_in mlX12_213 sxX12_in rfl ⟨by decide, by decide⟩ (Nat.le_of_ble_eq_true rfl) dX12_isLike_18 rfl rfl ?_
    refine v_if_eq dX12_isLike_21 (by decide : _ = ((40 : Nat) : Int)) (fun q => ?_) (fun q => ?_)
    · replace hF := brT q hF
      refine v_iconst (v := 0) dX12_isLike_40 (by decide) ?_
      subst hF
      exact v_zret rfl (Or.inl rfl) dX12_isLike_41
    · replace hF := brF q hF
      refine v_iload_n (j := 2) dX12_isLike_24 rfl ?_
      refine v_i2l dX12_isLike_25 ?_
      refine v_lconst (v := 0) dX12_isLike_26 (by decide) ?_
      refine v_ldc2 dX12_isLike_27 kcX12_293 ?_
      refine v_cS (hm := h) (av := [zj a2.toInt64, zj 0, zj 9]) (st := []) (stn := [zi (fX12_in a2.toInt64 0 9 h)]) (tX12_in a2.toInt64 0 9 h) lcX12_in mlX12_213 sxX12_in rfl ⟨by decide, by decide⟩ (Nat.le_of_ble_eq_true rfl) dX12_isLike_30 rfl rfl ?_
      refine v_if_eq dX12_isLike_33 (by decide : _ = ((40 : Nat) : Int)) (fun q => ?_) (fun q => ?_)
      · replace hF := brT q hF
        refine v_iconst (v := 0) dX12_isLike_40 (by decide) ?_
        subst hF
        exact v_zret rfl (Or.inl rfl) dX12_isLike_41
      · replace hF := brF q hF
        refine v_iconst (v := 1) dX12_isLike_36 (by decide) ?_
        refine v_goto (tgt := 41) dX12_isLike_37 (by decide) ?_
        subst hF
        exact v_zret rfl (Or.inr rfl) dX12_isLike_41
theorem zX12_isLike (a0 : Int32) (a1 : Int32) (a2 : Int32) (h : Hp) : fX12_isLike a0 a1 a2 h = 0 ∨ fX12_isLike a0 a1 a2 h = 1 := by
  unfold fX12_isLike
  try unfold br
  try unfold lb
  try dsimp only
  repeat' split
  all_goals first | exact Or.inl rfl | exact Or.inr rfl | exact zX12_in _ _ _ _ 
theorem dX12_isHouse_0 : decode cX12_isHouse 0 = .ok (.iload_n 1, 1) := by decide +kernel
theorem dX12_isHouse_1 : decode cX12_isHouse 1 = .ok (.i2l, 1) := by decide +kernel
theorem dX12_isHouse_2 : decode cX12_isHouse 2 = .ok (.lconst 0, 1) := by decide +kernel
theorem dX12_isHouse_3 : decode cX12_isHouse 3 = .ok (.aload_n 0, 1) := by decide +kernel
theorem dX12_isHouse_4 : decode cX12_isHouse 4 = .ok (.getfield 295, 3) := by decide +kernel
theorem dX12_isHouse_7 : decode cX12_isHouse 7 = .ok (.iconst 1, 1) := by decide +kernel
theorem dX12_isHouse_8 : decode cX12_isHouse 8 = .ok (.isub, 1) := by decide +kernel
theorem dX12_isHouse_9 : decode cX12_isHouse 9 = .ok (.i2l, 1) := by decide +kernel
theorem dX12_isHouse_10 : decode cX12_isHouse 10 = .ok (.invokestatic 213, 3) := by decide +kernel
theorem dX12_isHouse_13 : decode cX12_isHouse 13 = .ok (.ireturn, 1) := by decide +kernel
def fX12_isHouse (a1 : Int32) (h : Hp) : Int32 := fX12_in a1.toInt64 0 (((gI h 12 0 8) - 1).toInt64) h
set_option maxRecDepth 20000 in
theorem tX12_isHouse {X : Cz} (a1 : Int32) (h : Hp) : Ct X mX12_isHouse true [zr 12 0, zi a1] h (some (zi (fX12_isHouse a1 h))) h := by
  refine Ct_of (by decide) (Nat.le_of_ble_eq_true rfl) (ls := [(0, zr 12 0), (1, zi a1)]) rfl ?_
  obtain ⟨rE, hF⟩ : ∃ z, fX12_isHouse a1 h = z := ⟨_, rfl⟩
  rw [hF]
  unfold fX12_isHouse at hF
  refine v_iload_n (j := 1) dX12_isHouse_0 rfl ?_
  refine v_i2l dX12_isHouse_1 ?_
  refine v_lconst (v := 0) dX12_isHouse_2 (by decide) ?_
  refine v_aload_n (j := 0) dX12_isHouse_3 rfl ?_
  refine v_getI (c := 12) rfl (Or.inl rfl) cz12 flX12_295 dX12_isHouse_4 ?_
  refine v_iconst (v := 1) dX12_isHouse_7 (by decide) ?_
  refine v_isub dX12_isHouse_8 ?_
  refine v_i2l dX12_isHouse_9 ?_
  refine v_cS (hm := h) (av := [zj a1.toInt64, zj 0, zj (((gI h 12 0 8) - 1).toInt64)]) (st := []) (stn := [zi (fX12_in a1.toInt64 0 (((gI h 12 0 8) - 1).toInt64) h)]) (tX12_in a1.toInt64 0 (((gI h 12 0 8) - 1).toInt64) h) lcX12_in mlX12_213 sxX12_in rfl ⟨by decide, by decide⟩ (Nat.le_of_ble_eq_true rfl) dX12_isHouse_10 rfl rfl ?_
  subst hF
  exact v_zret rfl (zX12_in a1.toInt64 0 (((gI h 12 0 8) - 1).toInt64) h) dX12_isHouse_13
theorem zX12_isHouse (a1 : Int32) (h : Hp) : fX12_isHouse a1 h = 0 ∨ fX12_isHouse a1 h = 1 := by
  unfold fX12_isHouse
  try unfold br
  try unfold lb
  try dsimp only
  repeat' split
  all_goals first | exact Or.inl rfl | exact Or.inr rfl | exact zX12_in _ _ _ _ 
theorem dX12_isThere_0 : decode cX12_isThere 0 = .ok (.aload_n 0, 1) := by decide +kernel
theorem dX12_isThere_1 : decode cX12_isThere 1 = .ok (.iload_n 1, 1) := by decide +kernel
theorem dX12_isThere_2 : decode cX12_isThere 2 = .ok (.invokevirtual 298, 3) := by decide +kernel
theorem dX12_isThere_5 : decode cX12_isThere 5 = .ok (.ifCond .eq 16, 3) := by decide +kernel
theorem dX12_isThere_8 : decode cX12_isThere 8 = .ok (.aload_n 0, 1) := by decide +kernel
theorem dX12_isThere_9 : decode cX12_isThere 9 = .ok (.getfield 70, 3) := by decide +kernel
theorem dX12_isThere_12 : decode cX12_isThere 12 = .ok (.iload_n 1, 1) := by decide +kernel
theorem dX12_isThere_13 : decode cX12_isThere 13 = .ok (.baload, 1) := by decide +kernel
theorem dX12_isThere_14 : decode cX12_isThere 14 = .ok (.ifCond .ne 7, 3) := by decide +kernel
theorem dX12_isThere_17 : decode cX12_isThere 17 = .ok (.iconst 1, 1) := by decide +kernel
theorem dX12_isThere_18 : decode cX12_isThere 18 = .ok (.goto 4, 3) := by decide +kernel
theorem dX12_isThere_21 : decode cX12_isThere 21 = .ok (.iconst 0, 1) := by decide +kernel
theorem dX12_isThere_22 : decode cX12_isThere 22 = .ok (.ireturn, 1) := by decide +kernel
def fX12_isThere (a1 : Int32) (h : Hp) : Option (Int32 × Hp) := br ((fX12_isHouse a1 h) = 0) (some (0, h)) (gd (ib a1 12) (br ((gI h 68 0 (ix a1)) = 0) (some (1, h)) (some (0, h))))
set_option maxRecDepth 20000 in
theorem tX12_isThere {X : Cz} {a1 : Int32} {h hE : Hp} {rE : Int32} (hF : fX12_isThere a1 h = some (rE, hE)) : Ct X mX12_isThere true [zr 12 0, zi a1] h (some (zi rE)) hE := by
  refine Ct_of (by decide) (Nat.le_of_ble_eq_true rfl) (ls := [(0, zr 12 0), (1, zi a1)]) rfl ?_
  unfold fX12_isThere at hF
  refine v_aload_n (j := 0) dX12_isThere_0 rfl ?_
  refine v_iload_n (j := 1) dX12_isThere_1 rfl ?_
  refine v_cV (hm := h) (av := [zi a1]) (st := []) (stn := [zi (fX12_isHouse a1 h)]) (tX12_isHouse a1 h) lcX12_isHouse mlX12_298 imX12_isHouse seX12_isHouse rfl rfl rfl rfl ⟨by decide, by decide⟩ (Nat.le_of_ble_eq_true rfl) dX12_isThere_2 rfl rfl ?_
  refine v_if_eq dX12_isThere_5 (by decide : _ = ((21 : Nat) : Int)) (fun q => ?_) (fun q => ?_)
  · replace hF := brT q hF
    refine v_iconst (v := 0) dX12_isThere_21 (by decide) ?_
    obtain ⟨rfl, rfl⟩ := ret_use hF
    exact v_zret rfl (Or.inl rfl) dX12_isThere_22
  · replace hF := brF q hF
    refine v_aload_n (j := 0) dX12_isThere_8 rfl ?_
    refine v_getL (c := 12) rfl rfl rfl ly12_28 cz12 flX12_70 dX12_isThere_9 ?_
    refine v_iload_n (j := 1) dX12_isThere_12 rfl ?_
    replace hF := gd_use hF
    obtain ⟨q1, hF⟩ := hF
    refine v_zald rfl q1 dX12_isThere_13 ?_
    refine v_if_ne dX12_isThere_14 (by decide : _ = ((21 : Nat) : Int)) (fun q => ?_) (fun q => ?_)
    · replace hF := brF q hF
      refine v_iconst (v := 0) dX12_isThere_21 (by decide) ?_
      obtain ⟨rfl, rfl⟩ := ret_use hF
      exact v_zret rfl (Or.inl rfl) dX12_isThere_22
    · replace hF := brT (Decidable.not_not.mp q) hF
      refine v_iconst (v := 1) dX12_isThere_17 (by decide) ?_
      refine v_goto (tgt := 22) dX12_isThere_18 (by decide) ?_
      obtain ⟨rfl, rfl⟩ := ret_use hF
      exact v_zret rfl (Or.inr rfl) dX12_isThere_22
theorem dX12_household_0 : decode cX12_household 0 = .ok (.aload_n 0, 1) := by decide +kernel
theorem dX12_household_1 : decode cX12_household 1 = .ok (.iconst 0, 1) := by decide +kernel
theorem dX12_household_2 : decode cX12_household 2 = .ok (.putfield 208, 3) := by decide +kernel
theorem dX12_household_5 : decode cX12_household 5 = .ok (.iload_n 1, 1) := by decide +kernel
theorem dX12_household_6 : decode cX12_household 6 = .ok (.iload_n 2, 1) := by decide +kernel
theorem dX12_household_7 : decode cX12_household 7 = .ok (.iload_n 3, 1) := by decide +kernel
theorem dX12_household_8 : decode cX12_household 8 = .ok (.invokestatic 301, 3) := by decide +kernel
theorem dX12_household_11 : decode cX12_household 11 = .ok (.ifCond .ne 6, 3) := by decide +kernel
theorem dX12_household_14 : decode cX12_household 14 = .ok (.bipush (-2), 2) := by decide +kernel
theorem dX12_household_16 : decode cX12_household 16 = .ok (.ireturn, 1) := by decide +kernel
theorem dX12_household_17 : decode cX12_household 17 = .ok (.aload_n 0, 1) := by decide +kernel
theorem dX12_household_18 : decode cX12_household 18 = .ok (.getfield 295, 3) := by decide +kernel
theorem dX12_household_21 : decode cX12_household 21 = .ok (.bipush 12, 2) := by decide +kernel
theorem dX12_household_23 : decode cX12_household 23 = .ok (.if_icmp .ne 6, 3) := by decide +kernel
theorem dX12_household_26 : decode cX12_household 26 = .ok (.bipush (-3), 2) := by decide +kernel
theorem dX12_household_28 : decode cX12_household 28 = .ok (.ireturn, 1) := by decide +kernel
theorem dX12_household_29 : decode cX12_household 29 = .ok (.aload_n 0, 1) := by decide +kernel
theorem dX12_household_30 : decode cX12_household 30 = .ok (.getfield 61, 3) := by decide +kernel
theorem dX12_household_33 : decode cX12_household 33 = .ok (.aload_n 0, 1) := by decide +kernel
theorem dX12_household_34 : decode cX12_household 34 = .ok (.getfield 295, 3) := by decide +kernel
theorem dX12_household_37 : decode cX12_household 37 = .ok (.iload_n 1, 1) := by decide +kernel
theorem dX12_household_38 : decode cX12_household 38 = .ok (.iastore, 1) := by decide +kernel
theorem dX12_household_39 : decode cX12_household 39 = .ok (.aload_n 0, 1) := by decide +kernel
theorem dX12_household_40 : decode cX12_household 40 = .ok (.getfield 64, 3) := by decide +kernel
theorem dX12_household_43 : decode cX12_household 43 = .ok (.aload_n 0, 1) := by decide +kernel
theorem dX12_household_44 : decode cX12_household 44 = .ok (.getfield 295, 3) := by decide +kernel
theorem dX12_household_47 : decode cX12_household 47 = .ok (.iload_n 2, 1) := by decide +kernel
theorem dX12_household_48 : decode cX12_household 48 = .ok (.iastore, 1) := by decide +kernel
theorem dX12_household_49 : decode cX12_household 49 = .ok (.aload_n 0, 1) := by decide +kernel
theorem dX12_household_50 : decode cX12_household 50 = .ok (.getfield 67, 3) := by decide +kernel
theorem dX12_household_53 : decode cX12_household 53 = .ok (.aload_n 0, 1) := by decide +kernel
theorem dX12_household_54 : decode cX12_household 54 = .ok (.getfield 295, 3) := by decide +kernel
theorem dX12_household_57 : decode cX12_household 57 = .ok (.iload_n 3, 1) := by decide +kernel
theorem dX12_household_58 : decode cX12_household 58 = .ok (.iastore, 1) := by decide +kernel
theorem dX12_household_59 : decode cX12_household 59 = .ok (.aload_n 0, 1) := by decide +kernel
theorem dX12_household_60 : decode cX12_household 60 = .ok (.dup, 1) := by decide +kernel
theorem dX12_household_61 : decode cX12_household 61 = .ok (.getfield 295, 3) := by decide +kernel
theorem dX12_household_64 : decode cX12_household 64 = .ok (.iconst 1, 1) := by decide +kernel
theorem dX12_household_65 : decode cX12_household 65 = .ok (.iadd, 1) := by decide +kernel
theorem dX12_household_66 : decode cX12_household 66 = .ok (.putfield 295, 3) := by decide +kernel
theorem dX12_household_69 : decode cX12_household 69 = .ok (.aload_n 0, 1) := by decide +kernel
theorem dX12_household_70 : decode cX12_household 70 = .ok (.getfield 295, 3) := by decide +kernel
theorem dX12_household_73 : decode cX12_household 73 = .ok (.iconst 1, 1) := by decide +kernel
theorem dX12_household_74 : decode cX12_household 74 = .ok (.isub, 1) := by decide +kernel
theorem dX12_household_75 : decode cX12_household 75 = .ok (.ireturn, 1) := by decide +kernel
def fX12_household (a1 : Int32) (a2 : Int32) (a3 : Int32) (h : Hp) : Option (Int32 × Hp) := lb (sI h 12 0 0 0) (fun h1 => br ((fX12_isLike a1 a2 a3 h1) = 0) (some ((-2), h1)) (br ((gI h1 12 0 8) = 12) (some ((-3), h1)) (gd (ib (gI h1 12 0 8) 12) (lb (sI h1 65 0 (ix (gI h1 12 0 8)) a1) (fun h3 => gd (ib (gI h3 12 0 8) 12) (lb (sI h3 66 0 (ix (gI h3 12 0 8)) a2) (fun h5 => gd (ib (gI h5 12 0 8) 12) (lb (sI h5 67 0 (ix (gI h5 12 0 8)) a3) (fun h7 => lb (sI h7 12 0 8 ((gI h7 12 0 8) + 1)) (fun h8 => some ((gI h8 12 0 8) - 1, h8)))))))))))
set_option maxRecDepth 20000 in
theorem tX12_household {X : Cz} {a1 : Int32} {a2 : Int32} {a3 : Int32} {h hE : Hp} {rE : Int32} (hF : fX12_household a1 a2 a3 h = some (rE, hE)) : Ct X mX12_household true [zr 12 0, zi a1, zi a2, zi a3] h (some (zi rE)) hE := by
  refine Ct_of (by decide) (Nat.le_of_ble_eq_true rfl) (ls := [(0, zr 12 0), (1, zi a1), (2, zi a2), (3, zi a3)]) rfl ?_
  unfold fX12_household at hF
  refine v_aload_n (j := 0) dX12_household_0 rfl ?_
  refine v_iconst (v := 0) dX12_household_1 (by decide) ?_
  refine v_putI (c := 12) rfl rfl (Nat.le_of_ble_eq_true rfl) cz12 flX12_208 dX12_household_2 ?_
  refine v_toph fun h1 eh1 => ?_
  replace hF := lb_use eh1 hF
  clear eh1
  refine v_iload_n (j := 1) dX12_household_5 rfl ?_
  refine v_iload_n (j := 2) dX12_household_6 rfl ?_
  refine v_iload_n (j := 3) dX12_household_7 rfl ?_
  refine v_cS (hm := h1) (av := [zi a1, zi a2, zi a3]) (st := []) (stn := [zi (fX12_isLike a1 a2 a3 h1)]) (tX12_isLike a1 a2 a3 h1) lcX12_isLike mlX12_301 sxX12_isLike rfl ⟨by decide, by decide⟩ (Nat.le_of_ble_eq_true rfl) dX12_household_8 rfl rfl ?_
  refine v_if_ne dX12_household_11 (by decide : _ = ((17 : Nat) : Int)) (fun q => ?_) (fun q => ?_)
  · replace hF := brF q hF
    refine v_aload_n (j := 0) dX12_household_17 rfl ?_
    refine v_getI (c := 12) rfl (Or.inl rfl) cz12 flX12_295 dX12_household_18 ?_
    refine v_bipush (v := 12) dX12_household_21 (by decide) ?_
    refine v_icmp_ne dX12_household_23 (by decide : _ = ((29 : Nat) : Int)) (fun q => ?_) (fun q => ?_)
    · replace hF := brF q hF
      refine v_aload_n (j := 0) dX12_household_29 rfl ?_
      refine v_getL (c := 12) rfl rfl rfl ly12_25 cz12 flX12_61 dX12_household_30 ?_
      refine v_aload_n (j := 0) dX12_household_33 rfl ?_
      refine v_getI (c := 12) rfl (Or.inl rfl) cz12 flX12_295 dX12_household_34 ?_
      refine v_iload_n (j := 1) dX12_household_37 rfl ?_
      replace hF := gd_use hF
      obtain ⟨q2, hF⟩ := hF
      refine v_iast rfl q2 dX12_household_38 ?_
      refine v_toph fun h3 eh3 => ?_
      replace hF := lb_use eh3 hF
      clear eh3
      refine v_aload_n (j := 0) dX12_household_39 rfl ?_
      refine v_getL (c := 12) rfl rfl rfl ly12_26 cz12 flX12_64 dX12_household_40 ?_
      refine v_aload_n (j := 0) dX12_household_43 rfl ?_
      refine v_getI (c := 12) rfl (Or.inl rfl) cz12 flX12_295 dX12_household_44 ?_
      refine v_iload_n (j := 2) dX12_household_47 rfl ?_
      replace hF := gd_use hF
      obtain ⟨q4, hF⟩ := hF
      refine v_iast rfl q4 dX12_household_48 ?_
      refine v_toph fun h5 eh5 => ?_
      replace hF := lb_use eh5 hF
      clear eh5
      refine v_aload_n (j := 0) dX12_household_49 rfl ?_
      refine v_getL (c := 12) rfl rfl rfl ly12_27 cz12 flX12_67 dX12_household_50 ?_
      refine v_aload_n (j := 0) dX12_household_53 rfl ?_
      refine v_getI (c := 12) rfl (Or.inl rfl) cz12 flX12_295 dX12_household_54 ?_
      refine v_iload_n (j := 3) dX12_household_57 rfl ?_
      replace hF := gd_use hF
      obtain ⟨q6, hF⟩ := hF
      refine v_iast rfl q6 dX12_household_58 ?_
      refine v_toph fun h7 eh7 => ?_
      replace hF := lb_use eh7 hF
      clear eh7
      refine v_aload_n (j := 0) dX12_household_59 rfl ?_
      refine v_dup dX12_household_60 rfl ?_
      refine v_getI (c := 12) rfl (Or.inl rfl) cz12 flX12_295 dX12_household_61 ?_
      refine v_iconst (v := 1) dX12_household_64 (by decide) ?_
      refine v_iadd dX12_household_65 ?_
      refine v_putI (c := 12) rfl rfl (Nat.le_of_ble_eq_true rfl) cz12 flX12_295 dX12_household_66 ?_
      refine v_toph fun h8 eh8 => ?_
      replace hF := lb_use eh8 hF
      clear eh8
      refine v_aload_n (j := 0) dX12_household_69 rfl ?_
      refine v_getI (c := 12) rfl (Or.inl rfl) cz12 flX12_295 dX12_household_70 ?_
      refine v_iconst (v := 1) dX12_household_73 (by decide) ?_
      refine v_isub dX12_household_74 ?_
      obtain ⟨rfl, rfl⟩ := ret_use hF
      exact v_iret rfl dX12_household_75
    · replace hF := brT (Decidable.not_not.mp q) hF
      refine v_bipush (v := (-3)) dX12_household_26 (by decide) ?_
      obtain ⟨rfl, rfl⟩ := ret_use hF
      exact v_iret rfl dX12_household_28
  · replace hF := brT (Decidable.not_not.mp q) hF
    refine v_bipush (v := (-2)) dX12_household_14 (by decide) ?_
    obtain ⟨rfl, rfl⟩ := ret_use hF
    exact v_iret rfl dX12_household_16
theorem dX12_changed_0 : decode cX12_changed 0 = .ok (.aload_n 0, 1) := by decide +kernel
theorem dX12_changed_1 : decode cX12_changed 1 = .ok (.iconst 0, 1) := by decide +kernel
theorem dX12_changed_2 : decode cX12_changed 2 = .ok (.putfield 208, 3) := by decide +kernel
theorem dX12_changed_5 : decode cX12_changed 5 = .ok (.aload_n 0, 1) := by decide +kernel
theorem dX12_changed_6 : decode cX12_changed 6 = .ok (.iload_n 1, 1) := by decide +kernel
theorem dX12_changed_7 : decode cX12_changed 7 = .ok (.invokevirtual 304, 3) := by decide +kernel
theorem dX12_changed_10 : decode cX12_changed 10 = .ok (.ifCond .eq 13, 3) := by decide +kernel
theorem dX12_changed_13 : decode cX12_changed 13 = .ok (.iload_n 2, 1) := by decide +kernel
theorem dX12_changed_14 : decode cX12_changed 14 = .ok (.iload_n 3, 1) := by decide +kernel
theorem dX12_changed_15 : decode cX12_changed 15 = .ok (.iload 4, 2) := by decide +kernel
theorem dX12_changed_17 : decode cX12_changed 17 = .ok (.invokestatic 301, 3) := by decide +kernel
theorem dX12_changed_20 : decode cX12_changed 20 = .ok (.ifCond .ne 6, 3) := by decide +kernel
theorem dX12_changed_23 : decode cX12_changed 23 = .ok (.bipush (-2), 2) := by decide +kernel
theorem dX12_changed_25 : decode cX12_changed 25 = .ok (.ireturn, 1) := by decide +kernel
theorem dX12_changed_26 : decode cX12_changed 26 = .ok (.aload_n 0, 1) := by decide +kernel
theorem dX12_changed_27 : decode cX12_changed 27 = .ok (.getfield 61, 3) := by decide +kernel
theorem dX12_changed_30 : decode cX12_changed 30 = .ok (.iload_n 1, 1) := by decide +kernel
theorem dX12_changed_31 : decode cX12_changed 31 = .ok (.iload_n 2, 1) := by decide +kernel
theorem dX12_changed_32 : decode cX12_changed 32 = .ok (.iastore, 1) := by decide +kernel
theorem dX12_changed_33 : decode cX12_changed 33 = .ok (.aload_n 0, 1) := by decide +kernel
theorem dX12_changed_34 : decode cX12_changed 34 = .ok (.getfield 64, 3) := by decide +kernel
theorem dX12_changed_37 : decode cX12_changed 37 = .ok (.iload_n 1, 1) := by decide +kernel
theorem dX12_changed_38 : decode cX12_changed 38 = .ok (.iload_n 3, 1) := by decide +kernel
theorem dX12_changed_39 : decode cX12_changed 39 = .ok (.iastore, 1) := by decide +kernel
theorem dX12_changed_40 : decode cX12_changed 40 = .ok (.aload_n 0, 1) := by decide +kernel
theorem dX12_changed_41 : decode cX12_changed 41 = .ok (.getfield 67, 3) := by decide +kernel
theorem dX12_changed_44 : decode cX12_changed 44 = .ok (.iload_n 1, 1) := by decide +kernel
theorem dX12_changed_45 : decode cX12_changed 45 = .ok (.iload 4, 2) := by decide +kernel
theorem dX12_changed_47 : decode cX12_changed 47 = .ok (.iastore, 1) := by decide +kernel
theorem dX12_changed_48 : decode cX12_changed 48 = .ok (.iconst 0, 1) := by decide +kernel
theorem dX12_changed_49 : decode cX12_changed 49 = .ok (.ireturn, 1) := by decide +kernel
def fX12_changed (a1 : Int32) (a2 : Int32) (a3 : Int32) (a4 : Int32) (h : Hp) : Option (Int32 × Hp) := lb (sI h 12 0 0 0) (fun h1 => bd (fX12_isThere a1 h1) (fun r2 h3 => br (r2 = 0) (some ((-2), h3)) (br ((fX12_isLike a2 a3 a4 h3) = 0) (some ((-2), h3)) (gd (ib a1 12) (lb (sI h3 65 0 (ix a1) a2) (fun h5 => gd (ib a1 12) (lb (sI h5 66 0 (ix a1) a3) (fun h7 => gd (ib a1 12) (lb (sI h7 67 0 (ix a1) a4) (fun h9 => some (0, h9)))))))))))
set_option maxRecDepth 20000 in
theorem tX12_changed {X : Cz} {a1 : Int32} {a2 : Int32} {a3 : Int32} {a4 : Int32} {h hE : Hp} {rE : Int32} (hF : fX12_changed a1 a2 a3 a4 h = some (rE, hE)) : Ct X mX12_changed true [zr 12 0, zi a1, zi a2, zi a3, zi a4] h (some (zi rE)) hE := by
  refine Ct_of (by decide) (Nat.le_of_ble_eq_true rfl) (ls := [(0, zr 12 0), (1, zi a1), (2, zi a2), (3, zi a3), (4, zi a4)]) rfl ?_
  unfold fX12_changed at hF
  refine v_aload_n (j := 0) dX12_changed_0 rfl ?_
  refine v_iconst (v := 0) dX12_changed_1 (by decide) ?_
  refine v_putI (c := 12) rfl rfl (Nat.le_of_ble_eq_true rfl) cz12 flX12_208 dX12_changed_2 ?_
  refine v_toph fun h1 eh1 => ?_
  replace hF := lb_use eh1 hF
  clear eh1
  refine v_aload_n (j := 0) dX12_changed_5 rfl ?_
  refine v_iload_n (j := 1) dX12_changed_6 rfl ?_
  replace hF := bd_use hF
  obtain ⟨r2, h3, er2, hF⟩ := hF
  refine v_cV (hm := h3) (av := [zi a1]) (st := []) (stn := [zi r2]) (tX12_isThere er2) lcX12_isThere mlX12_304 imX12_isThere seX12_isThere rfl rfl rfl rfl ⟨by decide, by decide⟩ (Nat.le_of_ble_eq_true rfl) dX12_changed_7 rfl rfl ?_
  clear er2
  refine v_if_eq dX12_changed_10 (by decide : _ = ((23 : Nat) : Int)) (fun q => ?_) (fun q => ?_)
  · replace hF := brT q hF
    refine v_bipush (v := (-2)) dX12_changed_23 (by decide) ?_
    obtain ⟨rfl, rfl⟩ := ret_use hF
    exact v_iret rfl dX12_changed_25
  · replace hF := brF q hF
    refine v_iload_n (j := 2) dX12_changed_13 rfl ?_
    refine v_iload_n (j := 3) dX12_changed_14 rfl ?_
    refine v_iload (j := 4) dX12_changed_15 rfl ?_
    refine v_cS (hm := h3) (av := [zi a2, zi a3, zi a4]) (st := []) (stn := [zi (fX12_isLike a2 a3 a4 h3)]) (tX12_isLike a2 a3 a4 h3) lcX12_isLike mlX12_301 sxX12_isLike rfl ⟨by decide, by decide⟩ (Nat.le_of_ble_eq_true rfl) dX12_changed_17 rfl rfl ?_
    refine v_if_ne dX12_changed_20 (by decide : _ = ((26 : Nat) : Int)) (fun q => ?_) (fun q => ?_)
    · replace hF := brF q hF
      refine v_aload_n (j := 0) dX12_changed_26 rfl ?_
      refine v_getL (c := 12) rfl rfl rfl ly12_25 cz12 flX12_61 dX12_changed_27 ?_
      refine v_iload_n (j := 1) dX12_changed_30 rfl ?_
      refine v_iload_n (j := 2) dX12_changed_31 rfl ?_
      replace hF := gd_use hF
      obtain ⟨q4, hF⟩ := hF
      refine v_iast rfl q4 dX12_changed_32 ?_
      refine v_toph fun h5 eh5 => ?_
      replace hF := lb_use eh5 hF
      clear eh5
      refine v_aload_n (j := 0) dX12_changed_33 rfl ?_
      refine v_getL (c := 12) rfl rfl rfl ly12_26 cz12 flX12_64 dX12_changed_34 ?_
      refine v_iload_n (j := 1) dX12_changed_37 rfl ?_
      refine v_iload_n (j := 3) dX12_changed_38 rfl ?_
      replace hF := gd_use hF
      obtain ⟨q6, hF⟩ := hF
      refine v_iast rfl q6 dX12_changed_39 ?_
      refine v_toph fun h7 eh7 => ?_
      replace hF := lb_use eh7 hF
      clear eh7
      refine v_aload_n (j := 0) dX12_changed_40 rfl ?_
      refine v_getL (c := 12) rfl rfl rfl ly12_27 cz12 flX12_67 dX12_changed_41 ?_
      refine v_iload_n (j := 1) dX12_changed_44 rfl ?_
      refine v_iload (j := 4) dX12_changed_45 rfl ?_
      replace hF := gd_use hF
      obtain ⟨q8, hF⟩ := hF
      refine v_iast rfl q8 dX12_changed_47 ?_
      refine v_toph fun h9 eh9 => ?_
      replace hF := lb_use eh9 hF
      clear eh9
      refine v_iconst (v := 0) dX12_changed_48 (by decide) ?_
      obtain ⟨rfl, rfl⟩ := ret_use hF
      exact v_iret rfl dX12_changed_49
    · replace hF := brT (Decidable.not_not.mp q) hF
      refine v_bipush (v := (-2)) dX12_changed_23 (by decide) ?_
      obtain ⟨rfl, rfl⟩ := ret_use hF
      exact v_iret rfl dX12_changed_25
theorem dX12_worth_0 : decode cX12_worth 0 = .ok (.aload_n 0, 1) := by decide +kernel
theorem dX12_worth_1 : decode cX12_worth 1 = .ok (.iconst 0, 1) := by decide +kernel
theorem dX12_worth_2 : decode cX12_worth 2 = .ok (.putfield 208, 3) := by decide +kernel
theorem dX12_worth_5 : decode cX12_worth 5 = .ok (.aload_n 0, 1) := by decide +kernel
theorem dX12_worth_6 : decode cX12_worth 6 = .ok (.iload_n 1, 1) := by decide +kernel
theorem dX12_worth_7 : decode cX12_worth 7 = .ok (.invokevirtual 298, 3) := by decide +kernel
theorem dX12_worth_10 : decode cX12_worth 10 = .ok (.ifCond .eq 18, 3) := by decide +kernel
theorem dX12_worth_13 : decode cX12_worth 13 = .ok (.aload_n 0, 1) := by decide +kernel
theorem dX12_worth_14 : decode cX12_worth 14 = .ok (.iload_n 2, 1) := by decide +kernel
theorem dX12_worth_15 : decode cX12_worth 15 = .ok (.iload_n 3, 1) := by decide +kernel
theorem dX12_worth_16 : decode cX12_worth 16 = .ok (.aload_n 0, 1) := by decide +kernel
theorem dX12_worth_17 : decode cX12_worth 17 = .ok (.getfield 64, 3) := by decide +kernel
theorem dX12_worth_20 : decode cX12_worth 20 = .ok (.iload_n 1, 1) := by decide +kernel
theorem dX12_worth_21 : decode cX12_worth 21 = .ok (.iaload, 1) := by decide +kernel
theorem dX12_worth_22 : decode cX12_worth 22 = .ok (.invokevirtual 307, 3) := by decide +kernel
theorem dX12_worth_25 : decode cX12_worth 25 = .ok (.ifCond .ne 6, 3) := by decide +kernel
theorem dX12_worth_28 : decode cX12_worth 28 = .ok (.bipush (-2), 2) := by decide +kernel
theorem dX12_worth_30 : decode cX12_worth 30 = .ok (.ireturn, 1) := by decide +kernel
theorem dX12_worth_31 : decode cX12_worth 31 = .ok (.aload_n 0, 1) := by decide +kernel
theorem dX12_worth_32 : decode cX12_worth 32 = .ok (.invokevirtual 310, 3) := by decide +kernel
theorem dX12_worth_35 : decode cX12_worth 35 = .ok (.aload_n 0, 1) := by decide +kernel
theorem dX12_worth_36 : decode cX12_worth 36 = .ok (.iload_n 2, 1) := by decide +kernel
theorem dX12_worth_37 : decode cX12_worth 37 = .ok (.iload_n 3, 1) := by decide +kernel
theorem dX12_worth_38 : decode cX12_worth 38 = .ok (.aload_n 0, 1) := by decide +kernel
theorem dX12_worth_39 : decode cX12_worth 39 = .ok (.getfield 64, 3) := by decide +kernel
theorem dX12_worth_42 : decode cX12_worth 42 = .ok (.iload_n 1, 1) := by decide +kernel
theorem dX12_worth_43 : decode cX12_worth 43 = .ok (.iaload, 1) := by decide +kernel
theorem dX12_worth_44 : decode cX12_worth 44 = .ok (.aload_n 0, 1) := by decide +kernel
theorem dX12_worth_45 : decode cX12_worth 45 = .ok (.getfield 67, 3) := by decide +kernel
theorem dX12_worth_48 : decode cX12_worth 48 = .ok (.iload_n 1, 1) := by decide +kernel
theorem dX12_worth_49 : decode cX12_worth 49 = .ok (.iaload, 1) := by decide +kernel
theorem dX12_worth_50 : decode cX12_worth 50 = .ok (.invokevirtual 313, 3) := by decide +kernel
theorem dX12_worth_53 : decode cX12_worth 53 = .ok (.ireturn, 1) := by decide +kernel
def fX12_worth (a1 : Int32) (a2 : Int32) (a3 : Int32) (h : Hp) : Option (Int32 × Hp) := lb (sI h 12 0 0 0) (fun h1 => br ((fX12_isHouse a1 h1) = 0) (some ((-2), h1)) (gd (ib a1 12) (bd (fX12_isRun a2 a3 (gI h1 66 0 (ix a1)) h1) (fun r3 h4 => br (r3 = 0) (some ((-2), h4)) (bd (fX12_listens h4) (fun r5 h6 => gd (ib a1 12) (gd (ib a1 12) (bd (fX12_worthOf a2 a3 (gI h6 66 0 (ix a1)) (gI h6 67 0 (ix a1)) h6) (fun r9 h10 => some (r9, h10))))))))))
set_option maxRecDepth 20000 in
theorem tX12_worth {X : Cz} {a1 : Int32} {a2 : Int32} {a3 : Int32} {h hE : Hp} {rE : Int32} (hF : fX12_worth a1 a2 a3 h = some (rE, hE)) : Ct X mX12_worth true [zr 12 0, zi a1, zi a2, zi a3] h (some (zi rE)) hE := by
  refine Ct_of (by decide) (Nat.le_of_ble_eq_true rfl) (ls := [(0, zr 12 0), (1, zi a1), (2, zi a2), (3, zi a3)]) rfl ?_
  unfold fX12_worth at hF
  refine v_aload_n (j := 0) dX12_worth_0 rfl ?_
  refine v_iconst (v := 0) dX12_worth_1 (by decide) ?_
  refine v_putI (c := 12) rfl rfl (Nat.le_of_ble_eq_true rfl) cz12 flX12_208 dX12_worth_2 ?_
  refine v_toph fun h1 eh1 => ?_
  replace hF := lb_use eh1 hF
  clear eh1
  refine v_aload_n (j := 0) dX12_worth_5 rfl ?_
  refine v_iload_n (j := 1) dX12_worth_6 rfl ?_
  refine v_cV (hm := h1) (av := [zi a1]) (st := []) (stn := [zi (fX12_isHouse a1 h1)]) (tX12_isHouse a1 h1) lcX12_isHouse mlX12_298 imX12_isHouse seX12_isHouse rfl rfl rfl rfl ⟨by decide, by decide⟩ (Nat.le_of_ble_eq_true rfl) dX12_worth_7 rfl rfl ?_
  refine v_if_eq dX12_worth_10 (by decide : _ = ((28 : Nat) : Int)) (fun q => ?_) (fun q => ?_)
  · replace hF := brT q hF
    refine v_bipush (v := (-2)) dX12_worth_28 (by decide) ?_
    obtain ⟨rfl, rfl⟩ := ret_use hF
    exact v_iret rfl dX12_worth_30
  · replace hF := brF q hF
    refine v_aload_n (j := 0) dX12_worth_13 rfl ?_
    refine v_iload_n (j := 2) dX12_worth_14 rfl ?_
    refine v_iload_n (j := 3) dX12_worth_15 rfl ?_
    refine v_aload_n (j := 0) dX12_worth_16 rfl ?_
    refine v_getL (c := 12) rfl rfl rfl ly12_26 cz12 flX12_64 dX12_worth_17 ?_
    refine v_iload_n (j := 1) dX12_worth_20 rfl ?_
    replace hF := gd_use hF
    obtain ⟨q2, hF⟩ := hF
    refine v_iald rfl q2 dX12_worth_21 ?_
    replace hF := bd_use hF
    obtain ⟨r3, h4, er3, hF⟩ := hF
    refine v_cV (hm := h4) (av := [zi a2, zi a3, zi (gI h1 66 0 (ix a1))]) (st := []) (stn := [zi r3]) (tX12_isRun er3) lcX12_isRun mlX12_307 imX12_isRun seX12_isRun rfl rfl rfl rfl ⟨by decide, by decide⟩ (Nat.le_of_ble_eq_true rfl) dX12_worth_22 rfl rfl ?_
    clear er3
    refine v_if_ne dX12_worth_25 (by decide : _ = ((31 : Nat) : Int)) (fun q => ?_) (fun q => ?_)
    · replace hF := brF q hF
      refine v_aload_n (j := 0) dX12_worth_31 rfl ?_
      replace hF := bd_use hF
      obtain ⟨r5, h6, er5, hF⟩ := hF
      refine v_cV (hm := h6) (av := []) (st := []) (stn := []) (tX12_listens er5) lcX12_listens mlX12_310 imX12_listens seX12_listens rfl rfl rfl rfl ⟨by decide, by decide⟩ (Nat.le_of_ble_eq_true rfl) dX12_worth_32 rfl rfl ?_
      clear er5
      refine v_aload_n (j := 0) dX12_worth_35 rfl ?_
      refine v_iload_n (j := 2) dX12_worth_36 rfl ?_
      refine v_iload_n (j := 3) dX12_worth_37 rfl ?_
      refine v_aload_n (j := 0) dX12_worth_38 rfl ?_
      refine v_getL (c := 12) rfl rfl rfl ly12_26 cz12 flX12_64 dX12_worth_39 ?_
      refine v_iload_n (j := 1) dX12_worth_42 rfl ?_
      replace hF := gd_use hF
      obtain ⟨q7, hF⟩ := hF
      refine v_iald rfl q7 dX12_worth_43 ?_
      refine v_aload_n (j := 0) dX12_worth_44 rfl ?_
      refine v_getL (c := 12) rfl rfl rfl ly12_27 cz12 flX12_67 dX12_worth_45 ?_
      refine v_iload_n (j := 1) dX12_worth_48 rfl ?_
      replace hF := gd_use hF
      obtain ⟨q8, hF⟩ := hF
      refine v_iald rfl q8 dX12_worth_49 ?_
      replace hF := bd_use hF
      obtain ⟨r9, h10, er9, hF⟩ := hF
      refine v_cV (hm := h10) (av := [zi a2, zi a3, zi (gI h6 66 0 (ix a1)), zi (gI h6 67 0 (ix a1))]) (st := []) (stn := [zi r9]) (tX12_worthOf er9) lcX12_worthOf mlX12_313 imX12_worthOf seX12_worthOf rfl rfl rfl rfl ⟨by decide, by decide⟩ (Nat.le_of_ble_eq_true rfl) dX12_worth_50 rfl rfl ?_
      clear er9
      obtain ⟨rfl, rfl⟩ := ret_use hF
      exact v_iret rfl dX12_worth_53
    · replace hF := brT (Decidable.not_not.mp q) hF
      refine v_bipush (v := (-2)) dX12_worth_28 (by decide) ?_
      obtain ⟨rfl, rfl⟩ := ret_use hF
      exact v_iret rfl dX12_worth_30
