/-! functions and ties, printed by program (wip/gen/dec.py) -/
theorem dX12_sat_0 : decode cX12_sat 0 = .ok (.aload_n 0, 1) := by decide +kernel
theorem dX12_sat_1 : decode cX12_sat 1 = .ok (.iconst 0, 1) := by decide +kernel
theorem dX12_sat_2 : decode cX12_sat 2 = .ok (.putfield 208, 3) := by decide +kernel
theorem dX12_sat_5 : decode cX12_sat 5 = .ok (.iload_n 1, 1) := by decide +kernel
theorem dX12_sat_6 : decode cX12_sat 6 = .ok (.i2l, 1) := by decide +kernel
theorem dX12_sat_7 : decode cX12_sat 7 = .ok (.lconst 0, 1) := by decide +kernel
theorem dX12_sat_8 : decode cX12_sat 8 = .ok (.aload_n 0, 1) := by decide +kernel
theorem dX12_sat_9 : decode cX12_sat 9 = .ok (.getfield 438, 3) := by decide +kernel
theorem dX12_sat_12 : decode cX12_sat 12 = .ok (.iconst 1, 1) := by decide +kernel
theorem dX12_sat_13 : decode cX12_sat 13 = .ok (.isub, 1) := by decide +kernel
theorem dX12_sat_14 : decode cX12_sat 14 = .ok (.i2l, 1) := by decide +kernel
theorem dX12_sat_15 : decode cX12_sat 15 = .ok (.invokestatic 213, 3) := by decide +kernel
theorem dX12_sat_18 : decode cX12_sat 18 = .ok (.ifCond .eq 12, 3) := by decide +kernel
theorem dX12_sat_21 : decode cX12_sat 21 = .ok (.aload_n 0, 1) := by decide +kernel
theorem dX12_sat_22 : decode cX12_sat 22 = .ok (.getfield 202, 3) := by decide +kernel
theorem dX12_sat_25 : decode cX12_sat 25 = .ok (.iload_n 1, 1) := by decide +kernel
theorem dX12_sat_26 : decode cX12_sat 26 = .ok (.iaload, 1) := by decide +kernel
theorem dX12_sat_27 : decode cX12_sat 27 = .ok (.goto 4, 3) := by decide +kernel
theorem dX12_sat_30 : decode cX12_sat 30 = .ok (.iconst (-1), 1) := by decide +kernel
theorem dX12_sat_31 : decode cX12_sat 31 = .ok (.ireturn, 1) := by decide +kernel
def fX12_sat (a1 : Int32) (h : Hp) : Option (Int32 × Hp) := lb (sI h 12 0 0 0) (fun h1 => br ((fX12_in a1.toInt64 0 (((gI h1 12 0 77) - 1).toInt64) h1) = 0) (some ((-1), h1)) (gd (ib a1 60) (some (gI h1 112 0 (ix a1), h1))))
set_option maxRecDepth 20000 in
theorem tX12_sat {X : Cz} {a1 : Int32} {h hE : Hp} {rE : Int32} (hF : fX12_sat a1 h = some (rE, hE)) : Ct X mX12_sat true [zr 12 0, zi a1] h (some (zi rE)) hE := by
  refine Ct_of (by decide) (Nat.le_of_ble_eq_true rfl) (ls := [(0, zr 12 0), (1, zi a1)]) rfl ?_
  unfold fX12_sat at hF
  refine v_aload_n (j := 0) dX12_sat_0 rfl ?_
  refine v_iconst (v := 0) dX12_sat_1 (by decide) ?_
  refine v_putI (c := 12) rfl rfl (Nat.le_of_ble_eq_true rfl) cz12 flX12_208 dX12_sat_2 ?_
  refine v_toph fun h1 eh1 => ?_
  replace hF := lb_use eh1 hF
  clear eh1
  refine v_iload_n (j := 1) dX12_sat_5 rfl ?_
  refine v_i2l dX12_sat_6 ?_
  refine v_lconst (v := 0) dX12_sat_7 (by decide) ?_
  refine v_aload_n (j := 0) dX12_sat_8 rfl ?_
  refine v_getI (c := 12) rfl (Or.inl rfl) cz12 flX12_438 dX12_sat_9 ?_
  refine v_iconst (v := 1) dX12_sat_12 (by decide) ?_
  refine v_isub dX12_sat_13 ?_
  refine v_i2l dX12_sat_14 ?_
  refine v_cS (hm := h1) (av := [zj a1.toInt64, zj 0, zj (((gI h1 12 0 77) - 1).toInt64)]) (st := []) (stn := [zi (fX12_in a1.toInt64 0 (((gI h1 12 0 77) - 1).toInt64) h1)]) (tX12_in a1.toInt64 0 (((gI h1 12 0 77) - 1).toInt64) h1) lcX12_in mlX12_213 sxX12_in rfl ⟨by decide, by decide⟩ (Nat.le_of_ble_eq_true rfl) dX12_sat_15 rfl rfl ?_
  refine v_if_eq dX12_sat_18 (by decide : _ = ((30 : Nat) : Int)) (fun q => ?_) (fun q => ?_)
  · replace hF := brT q hF
    refine v_iconst (v := (-1)) dX12_sat_30 (by decide) ?_
    obtain ⟨rfl, rfl⟩ := ret_use hF
    exact v_iret rfl dX12_sat_31
  · replace hF := brF q hF
    refine v_aload_n (j := 0) dX12_sat_21 rfl ?_
    refine v_getL (c := 12) rfl rfl rfl ly12_76 cz12 flX12_202 dX12_sat_22 ?_
    refine v_iload_n (j := 1) dX12_sat_25 rfl ?_
    replace hF := gd_use hF
    obtain ⟨q2, hF⟩ := hF
    refine v_iald rfl q2 dX12_sat_26 ?_
    refine v_goto (tgt := 31) dX12_sat_27 (by decide) ?_
    obtain ⟨rfl, rfl⟩ := ret_use hF
    exact v_iret rfl dX12_sat_31
theorem dX12_householdOf_0 : decode cX12_householdOf 0 = .ok (.aload_n 0, 1) := by decide +kernel
theorem dX12_householdOf_1 : decode cX12_householdOf 1 = .ok (.iconst 0, 1) := by decide +kernel
theorem dX12_householdOf_2 : decode cX12_householdOf 2 = .ok (.putfield 208, 3) := by decide +kernel
theorem dX12_householdOf_5 : decode cX12_householdOf 5 = .ok (.aload_n 0, 1) := by decide +kernel
theorem dX12_householdOf_6 : decode cX12_householdOf 6 = .ok (.iload_n 1, 1) := by decide +kernel
theorem dX12_householdOf_7 : decode cX12_householdOf 7 = .ok (.invokevirtual 298, 3) := by decide +kernel
theorem dX12_householdOf_10 : decode cX12_householdOf 10 = .ok (.ifCond .ne 6, 3) := by decide +kernel
theorem dX12_householdOf_13 : decode cX12_householdOf 13 = .ok (.bipush (-2), 2) := by decide +kernel
theorem dX12_householdOf_15 : decode cX12_householdOf 15 = .ok (.ireturn, 1) := by decide +kernel
theorem dX12_householdOf_16 : decode cX12_householdOf 16 = .ok (.iconst 0, 1) := by decide +kernel
theorem dX12_householdOf_17 : decode cX12_householdOf 17 = .ok (.istore_n 3, 1) := by decide +kernel
theorem dX12_householdOf_18 : decode cX12_householdOf 18 = .ok (.iload_n 2, 1) := by decide +kernel
theorem dX12_householdOf_19 : decode cX12_householdOf 19 = .ok (.tableswitch 164 0 5 #[37, 44, 51, 58, 73, 118], 37) := by decide +kernel
theorem dX12_householdOf_56 : decode cX12_householdOf 56 = .ok (.aload_n 0, 1) := by decide +kernel
theorem dX12_householdOf_57 : decode cX12_householdOf 57 = .ok (.getfield 61, 3) := by decide +kernel
theorem dX12_householdOf_60 : decode cX12_householdOf 60 = .ok (.iload_n 1, 1) := by decide +kernel
theorem dX12_householdOf_61 : decode cX12_householdOf 61 = .ok (.iaload, 1) := by decide +kernel
theorem dX12_householdOf_62 : decode cX12_householdOf 62 = .ok (.ireturn, 1) := by decide +kernel
theorem dX12_householdOf_63 : decode cX12_householdOf 63 = .ok (.aload_n 0, 1) := by decide +kernel
theorem dX12_householdOf_64 : decode cX12_householdOf 64 = .ok (.getfield 64, 3) := by decide +kernel
theorem dX12_householdOf_67 : decode cX12_householdOf 67 = .ok (.iload_n 1, 1) := by decide +kernel
theorem dX12_householdOf_68 : decode cX12_householdOf 68 = .ok (.iaload, 1) := by decide +kernel
theorem dX12_householdOf_69 : decode cX12_householdOf 69 = .ok (.ireturn, 1) := by decide +kernel
theorem dX12_householdOf_70 : decode cX12_householdOf 70 = .ok (.aload_n 0, 1) := by decide +kernel
theorem dX12_householdOf_71 : decode cX12_householdOf 71 = .ok (.getfield 67, 3) := by decide +kernel
theorem dX12_householdOf_74 : decode cX12_householdOf 74 = .ok (.iload_n 1, 1) := by decide +kernel
theorem dX12_householdOf_75 : decode cX12_householdOf 75 = .ok (.iaload, 1) := by decide +kernel
theorem dX12_householdOf_76 : decode cX12_householdOf 76 = .ok (.ireturn, 1) := by decide +kernel
theorem dX12_householdOf_77 : decode cX12_householdOf 77 = .ok (.aload_n 0, 1) := by decide +kernel
theorem dX12_householdOf_78 : decode cX12_householdOf 78 = .ok (.getfield 70, 3) := by decide +kernel
theorem dX12_householdOf_81 : decode cX12_householdOf 81 = .ok (.iload_n 1, 1) := by decide +kernel
theorem dX12_householdOf_82 : decode cX12_householdOf 82 = .ok (.baload, 1) := by decide +kernel
theorem dX12_householdOf_83 : decode cX12_householdOf 83 = .ok (.ifCond .eq 7, 3) := by decide +kernel
theorem dX12_householdOf_86 : decode cX12_householdOf 86 = .ok (.iconst 1, 1) := by decide +kernel
theorem dX12_householdOf_87 : decode cX12_householdOf 87 = .ok (.goto 4, 3) := by decide +kernel
theorem dX12_householdOf_90 : decode cX12_householdOf 90 = .ok (.iconst 0, 1) := by decide +kernel
theorem dX12_householdOf_91 : decode cX12_householdOf 91 = .ok (.ireturn, 1) := by decide +kernel
theorem dX12_householdOf_92 : decode cX12_householdOf 92 = .ok (.iconst 0, 1) := by decide +kernel
theorem dX12_householdOf_93 : decode cX12_householdOf 93 = .ok (.istore 4, 2) := by decide +kernel
theorem dX12_householdOf_95 : decode cX12_householdOf 95 = .ok (.iload 4, 2) := by decide +kernel
theorem dX12_householdOf_97 : decode cX12_householdOf 97 = .ok (.aload_n 0, 1) := by decide +kernel
theorem dX12_householdOf_98 : decode cX12_householdOf 98 = .ok (.getfield 251, 3) := by decide +kernel
theorem dX12_householdOf_101 : decode cX12_householdOf 101 = .ok (.if_icmp .ge 34, 3) := by decide +kernel
theorem dX12_householdOf_104 : decode cX12_householdOf 104 = .ok (.iload_n 3, 1) := by decide +kernel
theorem dX12_householdOf_105 : decode cX12_householdOf 105 = .ok (.aload_n 0, 1) := by decide +kernel
theorem dX12_householdOf_106 : decode cX12_householdOf 106 = .ok (.getfield 130, 3) := by decide +kernel
theorem dX12_householdOf_109 : decode cX12_householdOf 109 = .ok (.sipush 200, 3) := by decide +kernel
theorem dX12_householdOf_112 : decode cX12_householdOf 112 = .ok (.iload_n 1, 1) := by decide +kernel
theorem dX12_householdOf_113 : decode cX12_householdOf 113 = .ok (.imul, 1) := by decide +kernel
theorem dX12_householdOf_114 : decode cX12_householdOf 114 = .ok (.iload 4, 2) := by decide +kernel
theorem dX12_householdOf_116 : decode cX12_householdOf 116 = .ok (.iadd, 1) := by decide +kernel
theorem dX12_householdOf_117 : decode cX12_householdOf 117 = .ok (.iaload, 1) := by decide +kernel
theorem dX12_householdOf_118 : decode cX12_householdOf 118 = .ok (.iconst (-1), 1) := by decide +kernel
theorem dX12_householdOf_119 : decode cX12_householdOf 119 = .ok (.if_icmp .ne 7, 3) := by decide +kernel
theorem dX12_householdOf_122 : decode cX12_householdOf 122 = .ok (.iconst 0, 1) := by decide +kernel
theorem dX12_householdOf_123 : decode cX12_householdOf 123 = .ok (.goto 4, 3) := by decide +kernel
theorem dX12_householdOf_126 : decode cX12_householdOf 126 = .ok (.iconst 1, 1) := by decide +kernel
theorem dX12_householdOf_127 : decode cX12_householdOf 127 = .ok (.iadd, 1) := by decide +kernel
theorem dX12_householdOf_128 : decode cX12_householdOf 128 = .ok (.istore_n 3, 1) := by decide +kernel
theorem dX12_householdOf_129 : decode cX12_householdOf 129 = .ok (.iinc 4 1, 3) := by decide +kernel
theorem dX12_householdOf_132 : decode cX12_householdOf 132 = .ok (.goto (-37), 3) := by decide +kernel
theorem dX12_householdOf_135 : decode cX12_householdOf 135 = .ok (.iload_n 3, 1) := by decide +kernel
theorem dX12_householdOf_136 : decode cX12_householdOf 136 = .ok (.ireturn, 1) := by decide +kernel
theorem dX12_householdOf_137 : decode cX12_householdOf 137 = .ok (.iconst 0, 1) := by decide +kernel
theorem dX12_householdOf_138 : decode cX12_householdOf 138 = .ok (.istore 4, 2) := by decide +kernel
theorem dX12_householdOf_140 : decode cX12_householdOf 140 = .ok (.iload 4, 2) := by decide +kernel
theorem dX12_householdOf_142 : decode cX12_householdOf 142 = .ok (.aload_n 0, 1) := by decide +kernel
theorem dX12_householdOf_143 : decode cX12_householdOf 143 = .ok (.getfield 316, 3) := by decide +kernel
theorem dX12_householdOf_146 : decode cX12_householdOf 146 = .ok (.if_icmp .ge 35, 3) := by decide +kernel
theorem dX12_householdOf_149 : decode cX12_householdOf 149 = .ok (.iload_n 3, 1) := by decide +kernel
theorem dX12_householdOf_150 : decode cX12_householdOf 150 = .ok (.aload_n 0, 1) := by decide +kernel
theorem dX12_householdOf_151 : decode cX12_householdOf 151 = .ok (.iload 4, 2) := by decide +kernel
theorem dX12_householdOf_153 : decode cX12_householdOf 153 = .ok (.aload_n 0, 1) := by decide +kernel
theorem dX12_householdOf_154 : decode cX12_householdOf 154 = .ok (.getfield 251, 3) := by decide +kernel
theorem dX12_householdOf_157 : decode cX12_householdOf 157 = .ok (.aload_n 0, 1) := by decide +kernel
theorem dX12_householdOf_158 : decode cX12_householdOf 158 = .ok (.getfield 251, 3) := by decide +kernel
theorem dX12_householdOf_161 : decode cX12_householdOf 161 = .ok (.invokevirtual 334, 3) := by decide +kernel
theorem dX12_householdOf_164 : decode cX12_householdOf 164 = .ok (.iload_n 1, 1) := by decide +kernel
theorem dX12_householdOf_165 : decode cX12_householdOf 165 = .ok (.if_icmp .ne 7, 3) := by decide +kernel
theorem dX12_householdOf_168 : decode cX12_householdOf 168 = .ok (.iconst 1, 1) := by decide +kernel
theorem dX12_householdOf_169 : decode cX12_householdOf 169 = .ok (.goto 4, 3) := by decide +kernel
theorem dX12_householdOf_172 : decode cX12_householdOf 172 = .ok (.iconst 0, 1) := by decide +kernel
theorem dX12_householdOf_173 : decode cX12_householdOf 173 = .ok (.iadd, 1) := by decide +kernel
theorem dX12_householdOf_174 : decode cX12_householdOf 174 = .ok (.istore_n 3, 1) := by decide +kernel
theorem dX12_householdOf_175 : decode cX12_householdOf 175 = .ok (.iinc 4 1, 3) := by decide +kernel
theorem dX12_householdOf_178 : decode cX12_householdOf 178 = .ok (.goto (-38), 3) := by decide +kernel
theorem dX12_householdOf_181 : decode cX12_householdOf 181 = .ok (.iload_n 3, 1) := by decide +kernel
theorem dX12_householdOf_182 : decode cX12_householdOf 182 = .ok (.ireturn, 1) := by decide +kernel
theorem dX12_householdOf_183 : decode cX12_householdOf 183 = .ok (.bipush (-2), 2) := by decide +kernel
theorem dX12_householdOf_185 : decode cX12_householdOf 185 = .ok (.ireturn, 1) := by decide +kernel
def fX12_householdOf_L95 : Nat → Int32 → Int32 → Int32 → Hp → Option ((Int32 × Int32) × Hp)
  | 0, _, _, _, _ => none
  | n + 1, a1, a3, a4, h => br ((gI h 12 0 5) ≤ a4) (some ((a3, a4), h)) (gd (ib (((200 : Int32) * a1) + a4) 2400) (br ((gI h 88 0 (ix (((200 : Int32) * a1) + a4))) = (-1)) (lb (a3 + 0) (fun v9 => lb (a4 + 1) (fun v10 => fX12_householdOf_L95 n a1 v9 v10 h))) (lb (a3 + 1) (fun v7 => lb (a4 + 1) (fun v8 => fX12_householdOf_L95 n a1 v7 v8 h)))))
def fX12_householdOf_L140 : Nat → Int32 → Int32 → Int32 → Hp → Option ((Int32 × Int32) × Hp)
  | 0, _, _, _, _ => none
  | n + 1, a1, a3, a4, h => br ((gI h 12 0 9) ≤ a4) (some ((a3, a4), h)) (bd (fX12_whose a4 (gI h 12 0 5) (gI h 12 0 5) h) (fun r15 h16 => br (r15 = a1) (lb (a3 + 1) (fun v19 => lb (a4 + 1) (fun v20 => fX12_householdOf_L140 n a1 v19 v20 h16))) (lb (a3 + 0) (fun v17 => lb (a4 + 1) (fun v18 => fX12_householdOf_L140 n a1 v17 v18 h16)))))
def fX12_householdOf (a1 : Int32) (a2 : Int32) (h : Hp) : Option (Int32 × Hp) := lb (sI h 12 0 0 0) (fun h1 => br ((fX12_isHouse a1 h1) = 0) (some ((-2), h1)) (br (a2 = 0) (gd (ib a1 12) (some (gI h1 65 0 (ix a1), h1))) (br (a2 = 1) (gd (ib a1 12) (some (gI h1 66 0 (ix a1), h1))) (br (a2 = 2) (gd (ib a1 12) (some (gI h1 67 0 (ix a1), h1))) (br (a2 = 3) (gd (ib a1 12) (br ((gI h1 68 0 (ix a1)) = 0) (some (0, h1)) (some (1, h1)))) (br (a2 = 4) (bd (fX12_householdOf_L95 FU a1 0 0 h1) (fun t12 h11 => lb t12.1 (fun v13 => lb t12.2 (fun v14 => some (v13, h11))))) (br (a2 = 5) (bd (fX12_householdOf_L140 FU a1 0 0 h1) (fun t22 h21 => lb t22.1 (fun v23 => lb t22.2 (fun v24 => some (v23, h21))))) (some ((-2), h1)))))))))
set_option maxRecDepth 20000 in
theorem tX12_householdOf_L95 {X : Cz} {h0 : Hp} {r : Option AV} {hE : Hp} : ∀ (n : Nat) (a1 : Int32) (a3 : Int32) (a4 : Int32) (h : Hp) (z : (Int32 × Int32) × Hp), fX12_householdOf_L95 n a1 a3 a4 h = some z → V X mX12_householdOf true h0 135 [(0, zr 12 0), (1, zi a1), (3, zi z.1.1), (4, zi z.1.2)] [] z.2 r hE → V X mX12_householdOf true h0 95 [(0, zr 12 0), (1, zi a1), (3, zi a3), (4, zi a4)] [] h r hE := by
  intro n
  induction n with
  | zero => intro a1 a3 a4 h z hF k; cases hF
  | succ n ih =>
    intro a1 a3 a4 h z hF k
    rw [fX12_householdOf_L95] at hF
    refine v_iload (j := 3) dX12_householdOf_95 rfl ?_
    refine v_aload_n (j := 0) dX12_householdOf_97 rfl ?_
    refine v_getI (c := 12) rfl (Or.inl rfl) cz12 flX12_251 dX12_householdOf_98 ?_
    refine v_icmp_ge dX12_householdOf_101 (by decide : _ = ((135 : Nat) : Int)) (fun q => ?_) (fun q => ?_)
    · replace hF := brT q hF
      cases hF
      exact k
    · replace hF := brF q hF
      refine v_iload_n (j := 2) dX12_householdOf_104 rfl ?_
      refine v_aload_n (j := 0) dX12_householdOf_105 rfl ?_
      refine v_getL (c := 12) rfl rfl rfl ly12_48 cz12 flX12_130 dX12_householdOf_106 ?_
      refine v_sipush (v := 200) dX12_householdOf_109 (by decide) ?_
      refine v_iload_n (j := 1) dX12_householdOf_112 rfl ?_
      refine v_imul dX12_householdOf_113 ?_
      refine v_iload (j := 3) dX12_householdOf_114 rfl ?_
      refine v_iadd dX12_householdOf_116 ?_
      replace hF := gd_use hF
      obtain ⟨q6, hF⟩ := hF
      refine v_iald rfl q6 dX12_householdOf_117 ?_
      refine v_iconst (v := (-1)) dX12_householdOf_118 (by decide) ?_
      refine v_icmp_ne dX12_householdOf_119 (by decide : _ = ((126 : Nat) : Int)) (fun q => ?_) (fun q => ?_)
      · replace hF := brF q hF
        refine v_iconst (v := 1) dX12_householdOf_126 (by decide) ?_
        refine v_iadd dX12_householdOf_127 ?_
        refine v_topi fun v7 ev7 => ?_
        replace hF := lb_use ev7 hF
        clear ev7
        refine v_istore_n (ls' := [(3, zi v7), (0, zr 12 0), (1, zi a1), (4, zi a4)]) dX12_householdOf_128 (by decide) rfl ?_
        obtain ⟨v8, ev8⟩ : ∃ y : Int32, y = a4 + 1 := ⟨_, rfl⟩
        replace hF := lb_use ev8 hF
        refine v_iinc (j := 3) (v := v8) (ls' := [(4, zi v8), (3, zi v7), (0, zr 12 0), (1, zi a1)]) dX12_householdOf_129 rfl (by rw [ev8]; rfl) (by decide) rfl ?_
        clear ev8
        refine v_goto (tgt := 95) dX12_householdOf_132 (by decide) ?_
        refine v_sub [2, 3, 1, 0] rfl ?_
        exact ih a1 v7 v8 h _ hF k
      · replace hF := brT (Decidable.not_not.mp q) hF
        refine v_iconst (v := 0) dX12_householdOf_122 (by decide) ?_
        refine v_goto (tgt := 127) dX12_householdOf_123 (by decide) ?_
        refine v_iadd dX12_householdOf_127 ?_
        refine v_topi fun v9 ev9 => ?_
        replace hF := lb_use ev9 hF
        clear ev9
        refine v_istore_n (ls' := [(3, zi v9), (0, zr 12 0), (1, zi a1), (4, zi a4)]) dX12_householdOf_128 (by decide) rfl ?_
        obtain ⟨v10, ev10⟩ : ∃ y : Int32, y = a4 + 1 := ⟨_, rfl⟩
        replace hF := lb_use ev10 hF
        refine v_iinc (j := 3) (v := v10) (ls' := [(4, zi v10), (3, zi v9), (0, zr 12 0), (1, zi a1)]) dX12_householdOf_129 rfl (by rw [ev10]; rfl) (by decide) rfl ?_
        clear ev10
        refine v_goto (tgt := 95) dX12_householdOf_132 (by decide) ?_
        refine v_sub [2, 3, 1, 0] rfl ?_
        exact ih a1 v9 v10 h _ hF k
set_option maxRecDepth 20000 in
theorem tX12_householdOf_L140 {X : Cz} {h0 : Hp} {r : Option AV} {hE : Hp} : ∀ (n : Nat) (a1 : Int32) (a3 : Int32) (a4 : Int32) (h : Hp) (z : (Int32 × Int32) × Hp), fX12_householdOf_L140 n a1 a3 a4 h = some z → V X mX12_householdOf true h0 181 [(0, zr 12 0), (1, zi a1), (3, zi z.1.1), (4, zi z.1.2)] [] z.2 r hE → V X mX12_householdOf true h0 140 [(0, zr 12 0), (1, zi a1), (3, zi a3), (4, zi a4)] [] h r hE := by
  intro n
  induction n with
  | zero => intro a1 a3 a4 h z hF k; cases hF
  | succ n ih =>
    intro a1 a3 a4 h z hF k
    rw [fX12_householdOf_L140] at hF
    refine v_iload (j := 3) dX12_householdOf_140 rfl ?_
    refine v_aload_n (j := 0) dX12_householdOf_142 rfl ?_
    refine v_getI (c := 12) rfl (Or.inl rfl) cz12 flX12_316 dX12_householdOf_143 ?_
    refine v_icmp_ge dX12_householdOf_146 (by decide : _ = ((181 : Nat) : Int)) (fun q => ?_) (fun q => ?_)
    · replace hF := brT q hF
      cases hF
      exact k
    · replace hF := brF q hF
      refine v_iload_n (j := 2) dX12_householdOf_149 rfl ?_
      refine v_aload_n (j := 0) dX12_householdOf_150 rfl ?_
      refine v_iload (j := 3) dX12_householdOf_151 rfl ?_
      refine v_aload_n (j := 0) dX12_householdOf_153 rfl ?_
      refine v_getI (c := 12) rfl (Or.inl rfl) cz12 flX12_251 dX12_householdOf_154 ?_
      refine v_aload_n (j := 0) dX12_householdOf_157 rfl ?_
      refine v_getI (c := 12) rfl (Or.inl rfl) cz12 flX12_251 dX12_householdOf_158 ?_
      replace hF := bd_use hF
      obtain ⟨r15, h16, er15, hF⟩ := hF
      refine v_cV (hm := h16) (av := [zi a4, zi (gI h 12 0 5), zi (gI h 12 0 5)]) (st := [zi a3]) (stn := [zi r15, zi a3]) (tX12_whose er15) lcX12_whose mlX12_334 imX12_whose seX12_whose rfl rfl rfl rfl ⟨by decide, by decide⟩ (Nat.le_of_ble_eq_true rfl) dX12_householdOf_161 rfl rfl ?_
      clear er15
      refine v_iload_n (j := 1) dX12_householdOf_164 rfl ?_
      refine v_icmp_ne dX12_householdOf_165 (by decide : _ = ((172 : Nat) : Int)) (fun q => ?_) (fun q => ?_)
      · replace hF := brF q hF
        refine v_iconst (v := 0) dX12_householdOf_172 (by decide) ?_
        refine v_iadd dX12_householdOf_173 ?_
        refine v_topi fun v17 ev17 => ?_
        replace hF := lb_use ev17 hF
        clear ev17
        refine v_istore_n (ls' := [(3, zi v17), (0, zr 12 0), (1, zi a1), (4, zi a4)]) dX12_householdOf_174 (by decide) rfl ?_
        obtain ⟨v18, ev18⟩ : ∃ y : Int32, y = a4 + 1 := ⟨_, rfl⟩
        replace hF := lb_use ev18 hF
        refine v_iinc (j := 3) (v := v18) (ls' := [(4, zi v18), (3, zi v17), (0, zr 12 0), (1, zi a1)]) dX12_householdOf_175 rfl (by rw [ev18]; rfl) (by decide) rfl ?_
        clear ev18
        refine v_goto (tgt := 140) dX12_householdOf_178 (by decide) ?_
        refine v_sub [2, 3, 1, 0] rfl ?_
        exact ih a1 v17 v18 h16 _ hF k
      · replace hF := brT (Decidable.not_not.mp q) hF
        refine v_iconst (v := 1) dX12_householdOf_168 (by decide) ?_
        refine v_goto (tgt := 173) dX12_householdOf_169 (by decide) ?_
        refine v_iadd dX12_householdOf_173 ?_
        refine v_topi fun v19 ev19 => ?_
        replace hF := lb_use ev19 hF
        clear ev19
        refine v_istore_n (ls' := [(3, zi v19), (0, zr 12 0), (1, zi a1), (4, zi a4)]) dX12_householdOf_174 (by decide) rfl ?_
        obtain ⟨v20, ev20⟩ : ∃ y : Int32, y = a4 + 1 := ⟨_, rfl⟩
        replace hF := lb_use ev20 hF
        refine v_iinc (j := 3) (v := v20) (ls' := [(4, zi v20), (3, zi v19), (0, zr 12 0), (1, zi a1)]) dX12_householdOf_175 rfl (by rw [ev20]; rfl) (by decide) rfl ?_
        clear ev20
        refine v_goto (tgt := 140) dX12_householdOf_178 (by decide) ?_
        refine v_sub [2, 3, 1, 0] rfl ?_
        exact ih a1 v19 v20 h16 _ hF k
set_option maxRecDepth 20000 in
theorem tX12_householdOf {X : Cz} {a1 : Int32} {a2 : Int32} {h hE : Hp} {rE : Int32} (hF : fX12_householdOf a1 a2 h = some (rE, hE)) : Ct X mX12_householdOf true [zr 12 0, zi a1, zi a2] h (some (zi rE)) hE := by
  refine Ct_of (by decide) (Nat.le_of_ble_eq_true rfl) (ls := [(0, zr 12 0), (1, zi a1), (2, zi a2)]) rfl ?_
  unfold fX12_householdOf at hF
  refine v_aload_n (j := 0) dX12_householdOf_0 rfl ?_
  refine v_iconst (v := 0) dX12_householdOf_1 (by decide) ?_
  refine v_putI (c := 12) rfl rfl (Nat.le_of_ble_eq_true rfl) cz12 flX12_208 dX12_householdOf_2 ?_
  refine v_toph fun h1 eh1 => ?_
  replace hF := lb_use eh1 hF
  clear eh1
  refine v_aload_n (j := 0) dX12_householdOf_5 rfl ?_
  refine v_iload_n (j := 1) dX12_householdOf_6 rfl ?_
  refine v_cV (hm := h1) (av := [zi a1]) (st := []) (stn := [zi (fX12_isHouse a1 h1)]) (tX12_isHouse a1 h1) lcX12_isHouse mlX12_298 imX12_isHouse seX12_isHouse rfl rfl rfl rfl ⟨by decide, by decide⟩ (Nat.le_of_ble_eq_true rfl) dX12_householdOf_7 rfl rfl ?_
  refine v_if_ne dX12_householdOf_10 (by decide : _ = ((16 : Nat) : Int)) (fun q => ?_) (fun q => ?_)
  · replace hF := brF q hF
    refine v_iconst (v := 0) dX12_householdOf_16 (by decide) ?_
    refine v_istore_n (ls' := [(3, zi 0), (0, zr 12 0), (1, zi a1), (2, zi a2)]) dX12_householdOf_17 (by decide) rfl ?_
    refine v_iload_n (j := 3) dX12_householdOf_18 rfl ?_
    by_cases q0 : a2 = 0
    · replace hF := brT q0 hF
      subst q0
      refine v_tblIn (tgt := 56) dX12_householdOf_19 (by decide) (by decide) rfl (by decide) ?_
      refine v_aload_n (j := 1) dX12_householdOf_56 rfl ?_
      refine v_getL (c := 12) rfl rfl rfl ly12_25 cz12 flX12_61 dX12_householdOf_57 ?_
      refine v_iload_n (j := 2) dX12_householdOf_60 rfl ?_
      replace hF := gd_use hF
      obtain ⟨q2, hF⟩ := hF
      refine v_iald rfl q2 dX12_householdOf_61 ?_
      obtain ⟨rfl, rfl⟩ := ret_use hF
      exact v_iret rfl dX12_householdOf_62
    replace hF := brF q0 hF
    by_cases q1 : a2 = 1
    · replace hF := brT q1 hF
      subst q1
      refine v_tblIn (tgt := 63) dX12_householdOf_19 (by decide) (by decide) rfl (by decide) ?_
      refine v_aload_n (j := 1) dX12_householdOf_63 rfl ?_
      refine v_getL (c := 12) rfl rfl rfl ly12_26 cz12 flX12_64 dX12_householdOf_64 ?_
      refine v_iload_n (j := 2) dX12_householdOf_67 rfl ?_
      replace hF := gd_use hF
      obtain ⟨q3, hF⟩ := hF
      refine v_iald rfl q3 dX12_householdOf_68 ?_
      obtain ⟨rfl, rfl⟩ := ret_use hF
      exact v_iret rfl dX12_householdOf_69
    replace hF := brF q1 hF
    by_cases q2 : a2 = 2
    · replace hF := brT q2 hF
      subst q2
      refine v_tblIn (tgt := 70) dX12_householdOf_19 (by decide) (by decide) rfl (by decide) ?_
      refine v_aload_n (j := 1) dX12_householdOf_70 rfl ?_
      refine v_getL (c := 12) rfl rfl rfl ly12_27 cz12 flX12_67 dX12_householdOf_71 ?_
      refine v_iload_n (j := 2) dX12_householdOf_74 rfl ?_
      replace hF := gd_use hF
      obtain ⟨q4, hF⟩ := hF
      refine v_iald rfl q4 dX12_householdOf_75 ?_
      obtain ⟨rfl, rfl⟩ := ret_use hF
      exact v_iret rfl dX12_householdOf_76
    replace hF := brF q2 hF
    by_cases q3 : a2 = 3
    · replace hF := brT q3 hF
      subst q3
      refine v_tblIn (tgt := 77) dX12_householdOf_19 (by decide) (by decide) rfl (by decide) ?_
      refine v_aload_n (j := 1) dX12_householdOf_77 rfl ?_
      refine v_getL (c := 12) rfl rfl rfl ly12_28 cz12 flX12_70 dX12_householdOf_78 ?_
      refine v_iload_n (j := 2) dX12_householdOf_81 rfl ?_
      replace hF := gd_use hF
      obtain ⟨q5, hF⟩ := hF
      refine v_zald rfl q5 dX12_householdOf_82 ?_
      refine v_if_eq dX12_householdOf_83 (by decide : _ = ((90 : Nat) : Int)) (fun q => ?_) (fun q => ?_)
      · replace hF := brT q hF
        refine v_iconst (v := 0) dX12_householdOf_90 (by decide) ?_
        obtain ⟨rfl, rfl⟩ := ret_use hF
        exact v_iret rfl dX12_householdOf_91
      · replace hF := brF q hF
        refine v_iconst (v := 1) dX12_householdOf_86 (by decide) ?_
        refine v_goto (tgt := 91) dX12_householdOf_87 (by decide) ?_
        obtain ⟨rfl, rfl⟩ := ret_use hF
        exact v_iret rfl dX12_householdOf_91
    replace hF := brF q3 hF
    by_cases q4 : a2 = 4
    · replace hF := brT q4 hF
      subst q4
      refine v_tblIn (tgt := 92) dX12_householdOf_19 (by decide) (by decide) rfl (by decide) ?_
      refine v_iconst (v := 0) dX12_householdOf_92 (by decide) ?_
      refine v_istore (ls' := [(4, zi 0), (3, zi 0), (0, zr 12 0), (1, zi a1), (2, zi 4)]) dX12_householdOf_93 (by decide) rfl ?_
      refine v_sub [2, 3, 1, 0] rfl ?_
      replace hF := bd_use hF
      obtain ⟨t12, h11, et12, hF⟩ := hF
      refine tX12_householdOf_L95 _ a1 0 0 h1 _ et12 ?_
      clear et12
      obtain ⟨v13, v14⟩ := t12
      replace hF := lb_use (x := v13) rfl hF
      replace hF := lb_use (x := v14) rfl hF
      refine v_iload_n (j := 2) dX12_householdOf_135 rfl ?_
      obtain ⟨rfl, rfl⟩ := ret_use hF
      exact v_iret rfl dX12_householdOf_136
    replace hF := brF q4 hF
    by_cases q5 : a2 = 5
    · replace hF := brT q5 hF
      subst q5
      refine v_tblIn (tgt := 137) dX12_householdOf_19 (by decide) (by decide) rfl (by decide) ?_
      refine v_iconst (v := 0) dX12_householdOf_137 (by decide) ?_
      refine v_istore (ls' := [(4, zi 0), (3, zi 0), (0, zr 12 0), (1, zi a1), (2, zi 5)]) dX12_householdOf_138 (by decide) rfl ?_
      refine v_sub [2, 3, 1, 0] rfl ?_
      replace hF := bd_use hF
      obtain ⟨t22, h21, et22, hF⟩ := hF
      refine tX12_householdOf_L140 _ a1 0 0 h1 _ et22 ?_
      clear et22
      obtain ⟨v23, v24⟩ := t22
      replace hF := lb_use (x := v23) rfl hF
      replace hF := lb_use (x := v24) rfl hF
      refine v_iload_n (j := 2) dX12_householdOf_181 rfl ?_
      obtain ⟨rfl, rfl⟩ := ret_use hF
      exact v_iret rfl dX12_householdOf_182
    replace hF := brF q5 hF
    have nq0 := lv_neT (a := 0) q0 rfl
    have nq1 := lv_neT (a := 1) q1 rfl
    have nq2 := lv_neT (a := 2) q2 rfl
    have nq3 := lv_neT (a := 3) q3 rfl
    have nq4 := lv_neT (a := 4) q4 rfl
    have nq5 := lv_neT (a := 5) q5 rfl
    refine v_tblOut (tgt := 183) dX12_householdOf_19 (by omega) (by decide) ?_
    refine v_bipush (v := (-2)) dX12_householdOf_183 (by decide) ?_
    obtain ⟨rfl, rfl⟩ := ret_use hF
    exact v_iret rfl dX12_householdOf_185
  · replace hF := brT (Decidable.not_not.mp q) hF
    refine v_bipush (v := (-2)) dX12_householdOf_13 (by decide) ?_
    obtain ⟨rfl, rfl⟩ := ret_use hF
    exact v_iret rfl dX12_householdOf_15
theorem dX12_benchOf_0 : decode cX12_benchOf 0 = .ok (.aload_n 0, 1) := by decide +kernel
theorem dX12_benchOf_1 : decode cX12_benchOf 1 = .ok (.iconst 0, 1) := by decide +kernel
theorem dX12_benchOf_2 : decode cX12_benchOf 2 = .ok (.putfield 208, 3) := by decide +kernel
theorem dX12_benchOf_5 : decode cX12_benchOf 5 = .ok (.aload_n 0, 1) := by decide +kernel
theorem dX12_benchOf_6 : decode cX12_benchOf 6 = .ok (.iload_n 1, 1) := by decide +kernel
theorem dX12_benchOf_7 : decode cX12_benchOf 7 = .ok (.invokevirtual 254, 3) := by decide +kernel
theorem dX12_benchOf_10 : decode cX12_benchOf 10 = .ok (.ifCond .ne 6, 3) := by decide +kernel
theorem dX12_benchOf_13 : decode cX12_benchOf 13 = .ok (.bipush (-2), 2) := by decide +kernel
theorem dX12_benchOf_15 : decode cX12_benchOf 15 = .ok (.ireturn, 1) := by decide +kernel
theorem dX12_benchOf_16 : decode cX12_benchOf 16 = .ok (.iconst 0, 1) := by decide +kernel
theorem dX12_benchOf_17 : decode cX12_benchOf 17 = .ok (.istore_n 3, 1) := by decide +kernel
theorem dX12_benchOf_18 : decode cX12_benchOf 18 = .ok (.iconst 0, 1) := by decide +kernel
theorem dX12_benchOf_19 : decode cX12_benchOf 19 = .ok (.istore 4, 2) := by decide +kernel
theorem dX12_benchOf_21 : decode cX12_benchOf 21 = .ok (.iload 4, 2) := by decide +kernel
theorem dX12_benchOf_23 : decode cX12_benchOf 23 = .ok (.aload_n 0, 1) := by decide +kernel
theorem dX12_benchOf_24 : decode cX12_benchOf 24 = .ok (.getfield 54, 3) := by decide +kernel
theorem dX12_benchOf_27 : decode cX12_benchOf 27 = .ok (.iload_n 1, 1) := by decide +kernel
theorem dX12_benchOf_28 : decode cX12_benchOf 28 = .ok (.iaload, 1) := by decide +kernel
theorem dX12_benchOf_29 : decode cX12_benchOf 29 = .ok (.if_icmp .ge 36, 3) := by decide +kernel
theorem dX12_benchOf_32 : decode cX12_benchOf 32 = .ok (.iload_n 3, 1) := by decide +kernel
theorem dX12_benchOf_33 : decode cX12_benchOf 33 = .ok (.aload_n 0, 1) := by decide +kernel
theorem dX12_benchOf_34 : decode cX12_benchOf 34 = .ok (.iload_n 1, 1) := by decide +kernel
theorem dX12_benchOf_35 : decode cX12_benchOf 35 = .ok (.iload 4, 2) := by decide +kernel
theorem dX12_benchOf_37 : decode cX12_benchOf 37 = .ok (.aload_n 0, 1) := by decide +kernel
theorem dX12_benchOf_38 : decode cX12_benchOf 38 = .ok (.getfield 251, 3) := by decide +kernel
theorem dX12_benchOf_41 : decode cX12_benchOf 41 = .ok (.aload_n 0, 1) := by decide +kernel
theorem dX12_benchOf_42 : decode cX12_benchOf 42 = .ok (.getfield 251, 3) := by decide +kernel
theorem dX12_benchOf_45 : decode cX12_benchOf 45 = .ok (.invokevirtual 348, 3) := by decide +kernel
theorem dX12_benchOf_48 : decode cX12_benchOf 48 = .ok (.iconst (-1), 1) := by decide +kernel
theorem dX12_benchOf_49 : decode cX12_benchOf 49 = .ok (.if_icmp .ne 7, 3) := by decide +kernel
theorem dX12_benchOf_52 : decode cX12_benchOf 52 = .ok (.iconst 0, 1) := by decide +kernel
theorem dX12_benchOf_53 : decode cX12_benchOf 53 = .ok (.goto 4, 3) := by decide +kernel
theorem dX12_benchOf_56 : decode cX12_benchOf 56 = .ok (.iconst 1, 1) := by decide +kernel
theorem dX12_benchOf_57 : decode cX12_benchOf 57 = .ok (.iadd, 1) := by decide +kernel
theorem dX12_benchOf_58 : decode cX12_benchOf 58 = .ok (.istore_n 3, 1) := by decide +kernel
theorem dX12_benchOf_59 : decode cX12_benchOf 59 = .ok (.iinc 4 1, 3) := by decide +kernel
theorem dX12_benchOf_62 : decode cX12_benchOf 62 = .ok (.goto (-41), 3) := by decide +kernel
theorem dX12_benchOf_65 : decode cX12_benchOf 65 = .ok (.iload_n 2, 1) := by decide +kernel
theorem dX12_benchOf_66 : decode cX12_benchOf 66 = .ok (.tableswitch 85 0 5 #[38, 45, 52, 59, 74, 76], 38) := by decide +kernel
theorem dX12_benchOf_104 : decode cX12_benchOf 104 = .ok (.aload_n 0, 1) := by decide +kernel
theorem dX12_benchOf_105 : decode cX12_benchOf 105 = .ok (.getfield 48, 3) := by decide +kernel
theorem dX12_benchOf_108 : decode cX12_benchOf 108 = .ok (.iload_n 1, 1) := by decide +kernel
theorem dX12_benchOf_109 : decode cX12_benchOf 109 = .ok (.iaload, 1) := by decide +kernel
theorem dX12_benchOf_110 : decode cX12_benchOf 110 = .ok (.ireturn, 1) := by decide +kernel
theorem dX12_benchOf_111 : decode cX12_benchOf 111 = .ok (.aload_n 0, 1) := by decide +kernel
theorem dX12_benchOf_112 : decode cX12_benchOf 112 = .ok (.getfield 51, 3) := by decide +kernel
theorem dX12_benchOf_115 : decode cX12_benchOf 115 = .ok (.iload_n 1, 1) := by decide +kernel
theorem dX12_benchOf_116 : decode cX12_benchOf 116 = .ok (.iaload, 1) := by decide +kernel
theorem dX12_benchOf_117 : decode cX12_benchOf 117 = .ok (.ireturn, 1) := by decide +kernel
theorem dX12_benchOf_118 : decode cX12_benchOf 118 = .ok (.aload_n 0, 1) := by decide +kernel
theorem dX12_benchOf_119 : decode cX12_benchOf 119 = .ok (.getfield 54, 3) := by decide +kernel
theorem dX12_benchOf_122 : decode cX12_benchOf 122 = .ok (.iload_n 1, 1) := by decide +kernel
theorem dX12_benchOf_123 : decode cX12_benchOf 123 = .ok (.iaload, 1) := by decide +kernel
theorem dX12_benchOf_124 : decode cX12_benchOf 124 = .ok (.ireturn, 1) := by decide +kernel
theorem dX12_benchOf_125 : decode cX12_benchOf 125 = .ok (.aload_n 0, 1) := by decide +kernel
theorem dX12_benchOf_126 : decode cX12_benchOf 126 = .ok (.getfield 57, 3) := by decide +kernel
theorem dX12_benchOf_129 : decode cX12_benchOf 129 = .ok (.iload_n 1, 1) := by decide +kernel
theorem dX12_benchOf_130 : decode cX12_benchOf 130 = .ok (.baload, 1) := by decide +kernel
theorem dX12_benchOf_131 : decode cX12_benchOf 131 = .ok (.ifCond .eq 7, 3) := by decide +kernel
theorem dX12_benchOf_134 : decode cX12_benchOf 134 = .ok (.iconst 1, 1) := by decide +kernel
theorem dX12_benchOf_135 : decode cX12_benchOf 135 = .ok (.goto 4, 3) := by decide +kernel
theorem dX12_benchOf_138 : decode cX12_benchOf 138 = .ok (.iconst 0, 1) := by decide +kernel
theorem dX12_benchOf_139 : decode cX12_benchOf 139 = .ok (.ireturn, 1) := by decide +kernel
theorem dX12_benchOf_140 : decode cX12_benchOf 140 = .ok (.iload_n 3, 1) := by decide +kernel
theorem dX12_benchOf_141 : decode cX12_benchOf 141 = .ok (.ireturn, 1) := by decide +kernel
theorem dX12_benchOf_142 : decode cX12_benchOf 142 = .ok (.aload_n 0, 1) := by decide +kernel
theorem dX12_benchOf_143 : decode cX12_benchOf 143 = .ok (.getfield 54, 3) := by decide +kernel
theorem dX12_benchOf_146 : decode cX12_benchOf 146 = .ok (.iload_n 1, 1) := by decide +kernel
theorem dX12_benchOf_147 : decode cX12_benchOf 147 = .ok (.iaload, 1) := by decide +kernel
theorem dX12_benchOf_148 : decode cX12_benchOf 148 = .ok (.iload_n 3, 1) := by decide +kernel
theorem dX12_benchOf_149 : decode cX12_benchOf 149 = .ok (.isub, 1) := by decide +kernel
theorem dX12_benchOf_150 : decode cX12_benchOf 150 = .ok (.ireturn, 1) := by decide +kernel
theorem dX12_benchOf_151 : decode cX12_benchOf 151 = .ok (.bipush (-2), 2) := by decide +kernel
theorem dX12_benchOf_153 : decode cX12_benchOf 153 = .ok (.ireturn, 1) := by decide +kernel
def fX12_benchOf_L21 : Nat → Int32 → Int32 → Int32 → Int32 → Hp → Option ((Int32 × Int32) × Hp)
  | 0, _, _, _, _, _ => none
  | n + 1, a1, a2, a3, a4, h => gd (ib a1 8) (br ((gI h 63 0 (ix a1)) ≤ a4) (some ((a3, a4), h)) (bd (fX12_ownerOf a1 a4 (gI h 12 0 5) (gI h 12 0 5) h) (fun r3 h4 => br (r3 = (-1)) (lb (a3 + 0) (fun v7 => lb (a4 + 1) (fun v8 => fX12_benchOf_L21 n a1 a2 v7 v8 h4))) (lb (a3 + 1) (fun v5 => lb (a4 + 1) (fun v6 => fX12_benchOf_L21 n a1 a2 v5 v6 h4))))))
def fX12_benchOf (a1 : Int32) (a2 : Int32) (h : Hp) : Option (Int32 × Hp) := lb (sI h 12 0 0 0) (fun h1 => br ((fX12_isBench a1 h1) = 0) (some ((-2), h1)) (bd (fX12_benchOf_L21 FU a1 a2 0 0 h1) (fun t10 h9 => lb t10.1 (fun v11 => lb t10.2 (fun v12 => br (a2 = 0) (gd (ib a1 8) (some (gI h9 61 0 (ix a1), h9))) (br (a2 = 1) (gd (ib a1 8) (some (gI h9 62 0 (ix a1), h9))) (br (a2 = 2) (gd (ib a1 8) (some (gI h9 63 0 (ix a1), h9))) (br (a2 = 3) (gd (ib a1 8) (br ((gI h9 64 0 (ix a1)) = 0) (some (0, h9)) (some (1, h9)))) (br (a2 = 4) (some (v11, h9)) (br (a2 = 5) (gd (ib a1 8) (some ((gI h9 63 0 (ix a1)) - v11, h9))) (some ((-2), h9))))))))))))
set_option maxRecDepth 20000 in
theorem tX12_benchOf_L21 {X : Cz} {h0 : Hp} {r : Option AV} {hE : Hp} : ∀ (n : Nat) (a1 : Int32) (a2 : Int32) (a3 : Int32) (a4 : Int32) (h : Hp) (z : (Int32 × Int32) × Hp), fX12_benchOf_L21 n a1 a2 a3 a4 h = some z → V X mX12_benchOf true h0 65 [(0, zr 12 0), (1, zi a1), (2, zi a2), (3, zi z.1.1), (4, zi z.1.2)] [] z.2 r hE → V X mX12_benchOf true h0 21 [(0, zr 12 0), (1, zi a1), (2, zi a2), (3, zi a3), (4, zi a4)] [] h r hE := by
  intro n
  induction n with
  | zero => intro a1 a2 a3 a4 h z hF k; cases hF
  | succ n ih =>
    intro a1 a2 a3 a4 h z hF k
    rw [fX12_benchOf_L21] at hF
    refine v_iload (j := 4) dX12_benchOf_21 rfl ?_
    refine v_aload_n (j := 0) dX12_benchOf_23 rfl ?_
    refine v_getL (c := 12) rfl rfl rfl ly12_23 cz12 flX12_54 dX12_benchOf_24 ?_
    refine v_iload_n (j := 1) dX12_benchOf_27 rfl ?_
    replace hF := gd_use hF
    obtain ⟨q2, hF⟩ := hF
    refine v_iald rfl q2 dX12_benchOf_28 ?_
    refine v_icmp_ge dX12_benchOf_29 (by decide : _ = ((65 : Nat) : Int)) (fun q => ?_) (fun q => ?_)
    · replace hF := brT q hF
      cases hF
      exact k
    · replace hF := brF q hF
      refine v_iload_n (j := 3) dX12_benchOf_32 rfl ?_
      refine v_aload_n (j := 0) dX12_benchOf_33 rfl ?_
      refine v_iload_n (j := 1) dX12_benchOf_34 rfl ?_
      refine v_iload (j := 4) dX12_benchOf_35 rfl ?_
      refine v_aload_n (j := 0) dX12_benchOf_37 rfl ?_
      refine v_getI (c := 12) rfl (Or.inl rfl) cz12 flX12_251 dX12_benchOf_38 ?_
      refine v_aload_n (j := 0) dX12_benchOf_41 rfl ?_
      refine v_getI (c := 12) rfl (Or.inl rfl) cz12 flX12_251 dX12_benchOf_42 ?_
      replace hF := bd_use hF
      obtain ⟨r3, h4, er3, hF⟩ := hF
      refine v_cV (hm := h4) (av := [zi a1, zi a4, zi (gI h 12 0 5), zi (gI h 12 0 5)]) (st := [zi a3]) (stn := [zi r3, zi a3]) (tX12_ownerOf er3) lcX12_ownerOf mlX12_348 imX12_ownerOf seX12_ownerOf rfl rfl rfl rfl ⟨by decide, by decide⟩ (Nat.le_of_ble_eq_true rfl) dX12_benchOf_45 rfl rfl ?_
      clear er3
      refine v_iconst (v := (-1)) dX12_benchOf_48 (by decide) ?_
      refine v_icmp_ne dX12_benchOf_49 (by decide : _ = ((56 : Nat) : Int)) (fun q => ?_) (fun q => ?_)
      · replace hF := brF q hF
        refine v_iconst (v := 1) dX12_benchOf_56 (by decide) ?_
        refine v_iadd dX12_benchOf_57 ?_
        refine v_topi fun v5 ev5 => ?_
        replace hF := lb_use ev5 hF
        clear ev5
        refine v_istore_n (ls' := [(3, zi v5), (0, zr 12 0), (1, zi a1), (2, zi a2), (4, zi a4)]) dX12_benchOf_58 (by decide) rfl ?_
        obtain ⟨v6, ev6⟩ : ∃ y : Int32, y = a4 + 1 := ⟨_, rfl⟩
        replace hF := lb_use ev6 hF
        refine v_iinc (j := 4) (v := v6) (ls' := [(4, zi v6), (3, zi v5), (0, zr 12 0), (1, zi a1), (2, zi a2)]) dX12_benchOf_59 rfl (by rw [ev6]; rfl) (by decide) rfl ?_
        clear ev6
        refine v_goto (tgt := 21) dX12_benchOf_62 (by decide) ?_
        refine v_sub [2, 3, 4, 1, 0] rfl ?_
        exact ih a1 a2 v5 v6 h4 _ hF k
      · replace hF := brT (Decidable.not_not.mp q) hF
        refine v_iconst (v := 0) dX12_benchOf_52 (by decide) ?_
        refine v_goto (tgt := 57) dX12_benchOf_53 (by decide) ?_
        refine v_iadd dX12_benchOf_57 ?_
        refine v_topi fun v7 ev7 => ?_
        replace hF := lb_use ev7 hF
        clear ev7
        refine v_istore_n (ls' := [(3, zi v7), (0, zr 12 0), (1, zi a1), (2, zi a2), (4, zi a4)]) dX12_benchOf_58 (by decide) rfl ?_
        obtain ⟨v8, ev8⟩ : ∃ y : Int32, y = a4 + 1 := ⟨_, rfl⟩
        replace hF := lb_use ev8 hF
        refine v_iinc (j := 4) (v := v8) (ls' := [(4, zi v8), (3, zi v7), (0, zr 12 0), (1, zi a1), (2, zi a2)]) dX12_benchOf_59 rfl (by rw [ev8]; rfl) (by decide) rfl ?_
        clear ev8
        refine v_goto (tgt := 21) dX12_benchOf_62 (by decide) ?_
        refine v_sub [2, 3, 4, 1, 0] rfl ?_
        exact ih a1 a2 v7 v8 h4 _ hF k
set_option maxRecDepth 20000 in
theorem tX12_benchOf {X : Cz} {a1 : Int32} {a2 : Int32} {h hE : Hp} {rE : Int32} (hF : fX12_benchOf a1 a2 h = some (rE, hE)) : Ct X mX12_benchOf true [zr 12 0, zi a1, zi a2] h (some (zi rE)) hE := by
  refine Ct_of (by decide) (Nat.le_of_ble_eq_true rfl) (ls := [(0, zr 12 0), (1, zi a1), (2, zi a2)]) rfl ?_
  unfold fX12_benchOf at hF
  refine v_aload_n (j := 0) dX12_benchOf_0 rfl ?_
  refine v_iconst (v := 0) dX12_benchOf_1 (by decide) ?_
  refine v_putI (c := 12) rfl rfl (Nat.le_of_ble_eq_true rfl) cz12 flX12_208 dX12_benchOf_2 ?_
  refine v_toph fun h1 eh1 => ?_
  replace hF := lb_use eh1 hF
  clear eh1
  refine v_aload_n (j := 0) dX12_benchOf_5 rfl ?_
  refine v_iload_n (j := 1) dX12_benchOf_6 rfl ?_
  refine v_cV (hm := h1) (av := [zi a1]) (st := []) (stn := [zi (fX12_isBench a1 h1)]) (tX12_isBench a1 h1) lcX12_isBench mlX12_254 imX12_isBench seX12_isBench rfl rfl rfl rfl ⟨by decide, by decide⟩ (Nat.le_of_ble_eq_true rfl) dX12_benchOf_7 rfl rfl ?_
  refine v_if_ne dX12_benchOf_10 (by decide : _ = ((16 : Nat) : Int)) (fun q => ?_) (fun q => ?_)
  · replace hF := brF q hF
    refine v_iconst (v := 0) dX12_benchOf_16 (by decide) ?_
    refine v_istore_n (ls' := [(3, zi 0), (0, zr 12 0), (1, zi a1), (2, zi a2)]) dX12_benchOf_17 (by decide) rfl ?_
    refine v_iconst (v := 0) dX12_benchOf_18 (by decide) ?_
    refine v_istore (ls' := [(4, zi 0), (3, zi 0), (0, zr 12 0), (1, zi a1), (2, zi a2)]) dX12_benchOf_19 (by decide) rfl ?_
    refine v_sub [2, 3, 4, 1, 0] rfl ?_
    replace hF := bd_use hF
    obtain ⟨t10, h9, et10, hF⟩ := hF
    refine tX12_benchOf_L21 _ a1 a2 0 0 h1 _ et10 ?_
    clear et10
    obtain ⟨v11, v12⟩ := t10
    replace hF := lb_use (x := v11) rfl hF
    replace hF := lb_use (x := v12) rfl hF
    refine v_iload_n (j := 2) dX12_benchOf_65 rfl ?_
    by_cases q0 : a2 = 0
    · replace hF := brT q0 hF
      subst q0
      refine v_tblIn (tgt := 104) dX12_benchOf_66 (by decide) (by decide) rfl (by decide) ?_
      refine v_aload_n (j := 0) dX12_benchOf_104 rfl ?_
      refine v_getL (c := 12) rfl rfl rfl ly12_21 cz12 flX12_48 dX12_benchOf_105 ?_
      refine v_iload_n (j := 1) dX12_benchOf_108 rfl ?_
      replace hF := gd_use hF
      obtain ⟨q13, hF⟩ := hF
      refine v_iald rfl q13 dX12_benchOf_109 ?_
      obtain ⟨rfl, rfl⟩ := ret_use hF
      exact v_iret rfl dX12_benchOf_110
    replace hF := brF q0 hF
    by_cases q1 : a2 = 1
    · replace hF := brT q1 hF
      subst q1
      refine v_tblIn (tgt := 111) dX12_benchOf_66 (by decide) (by decide) rfl (by decide) ?_
      refine v_aload_n (j := 0) dX12_benchOf_111 rfl ?_
      refine v_getL (c := 12) rfl rfl rfl ly12_22 cz12 flX12_51 dX12_benchOf_112 ?_
      refine v_iload_n (j := 1) dX12_benchOf_115 rfl ?_
      replace hF := gd_use hF
      obtain ⟨q14, hF⟩ := hF
      refine v_iald rfl q14 dX12_benchOf_116 ?_
      obtain ⟨rfl, rfl⟩ := ret_use hF
      exact v_iret rfl dX12_benchOf_117
    replace hF := brF q1 hF
    by_cases q2 : a2 = 2
    · replace hF := brT q2 hF
      subst q2
      refine v_tblIn (tgt := 118) dX12_benchOf_66 (by decide) (by decide) rfl (by decide) ?_
      refine v_aload_n (j := 0) dX12_benchOf_118 rfl ?_
      refine v_getL (c := 12) rfl rfl rfl ly12_23 cz12 flX12_54 dX12_benchOf_119 ?_
      refine v_iload_n (j := 1) dX12_benchOf_122 rfl ?_
      replace hF := gd_use hF
      obtain ⟨q15, hF⟩ := hF
      refine v_iald rfl q15 dX12_benchOf_123 ?_
      obtain ⟨rfl, rfl⟩ := ret_use hF
      exact v_iret rfl dX12_benchOf_124
    replace hF := brF q2 hF
    by_cases q3 : a2 = 3
    · replace hF := brT q3 hF
      subst q3
      refine v_tblIn (tgt := 125) dX12_benchOf_66 (by decide) (by decide) rfl (by decide) ?_
      refine v_aload_n (j := 0) dX12_benchOf_125 rfl ?_
      refine v_getL (c := 12) rfl rfl rfl ly12_24 cz12 flX12_57 dX12_benchOf_126 ?_
      refine v_iload_n (j := 1) dX12_benchOf_129 rfl ?_
      replace hF := gd_use hF
      obtain ⟨q16, hF⟩ := hF
      refine v_zald rfl q16 dX12_benchOf_130 ?_
      refine v_if_eq dX12_benchOf_131 (by decide : _ = ((138 : Nat) : Int)) (fun q => ?_) (fun q => ?_)
      · replace hF := brT q hF
        refine v_iconst (v := 0) dX12_benchOf_138 (by decide) ?_
        obtain ⟨rfl, rfl⟩ := ret_use hF
        exact v_iret rfl dX12_benchOf_139
      · replace hF := brF q hF
        refine v_iconst (v := 1) dX12_benchOf_134 (by decide) ?_
        refine v_goto (tgt := 139) dX12_benchOf_135 (by decide) ?_
        obtain ⟨rfl, rfl⟩ := ret_use hF
        exact v_iret rfl dX12_benchOf_139
    replace hF := brF q3 hF
    by_cases q4 : a2 = 4
    · replace hF := brT q4 hF
      subst q4
      refine v_tblIn (tgt := 140) dX12_benchOf_66 (by decide) (by decide) rfl (by decide) ?_
      refine v_iload_n (j := 3) dX12_benchOf_140 rfl ?_
      obtain ⟨rfl, rfl⟩ := ret_use hF
      exact v_iret rfl dX12_benchOf_141
    replace hF := brF q4 hF
    by_cases q5 : a2 = 5
    · replace hF := brT q5 hF
      subst q5
      refine v_tblIn (tgt := 142) dX12_benchOf_66 (by decide) (by decide) rfl (by decide) ?_
      refine v_aload_n (j := 0) dX12_benchOf_142 rfl ?_
      refine v_getL (c := 12) rfl rfl rfl ly12_23 cz12 flX12_54 dX12_benchOf_143 ?_
      refine v_iload_n (j := 1) dX12_benchOf_146 rfl ?_
      replace hF := gd_use hF
      obtain ⟨q17, hF⟩ := hF
      refine v_iald rfl q17 dX12_benchOf_147 ?_
      refine v_iload_n (j := 3) dX12_benchOf_148 rfl ?_
      refine v_isub dX12_benchOf_149 ?_
      obtain ⟨rfl, rfl⟩ := ret_use hF
      exact v_iret rfl dX12_benchOf_150
    replace hF := brF q5 hF
    have nq0 := lv_neT (a := 0) q0 rfl
    have nq1 := lv_neT (a := 1) q1 rfl
    have nq2 := lv_neT (a := 2) q2 rfl
    have nq3 := lv_neT (a := 3) q3 rfl
    have nq4 := lv_neT (a := 4) q4 rfl
    have nq5 := lv_neT (a := 5) q5 rfl
    refine v_tblOut (tgt := 151) dX12_benchOf_66 (by omega) (by decide) ?_
    refine v_bipush (v := (-2)) dX12_benchOf_151 (by decide) ?_
    obtain ⟨rfl, rfl⟩ := ret_use hF
    exact v_iret rfl dX12_benchOf_153
  · replace hF := brT (Decidable.not_not.mp q) hF
    refine v_bipush (v := (-2)) dX12_benchOf_13 (by decide) ?_
    obtain ⟨rfl, rfl⟩ := ret_use hF
    exact v_iret rfl dX12_benchOf_15
theorem dX12_count_0 : decode cX12_count 0 = .ok (.aload_n 0, 1) := by decide +kernel
theorem dX12_count_1 : decode cX12_count 1 = .ok (.iconst 0, 1) := by decide +kernel
theorem dX12_count_2 : decode cX12_count 2 = .ok (.putfield 208, 3) := by decide +kernel
theorem dX12_count_5 : decode cX12_count 5 = .ok (.iconst 0, 1) := by decide +kernel
theorem dX12_count_6 : decode cX12_count 6 = .ok (.istore_n 2, 1) := by decide +kernel
theorem dX12_count_7 : decode cX12_count 7 = .ok (.iload_n 1, 1) := by decide +kernel
theorem dX12_count_8 : decode cX12_count 8 = .ok (.tableswitch 154 0 8 #[52, 57, 62, 67, 72, 77, 82, 87, 119], 52) := by decide +kernel
theorem dX12_count_60 : decode cX12_count 60 = .ok (.aload_n 0, 1) := by decide +kernel
theorem dX12_count_61 : decode cX12_count 61 = .ok (.getfield 251, 3) := by decide +kernel
theorem dX12_count_64 : decode cX12_count 64 = .ok (.ireturn, 1) := by decide +kernel
theorem dX12_count_65 : decode cX12_count 65 = .ok (.aload_n 0, 1) := by decide +kernel
theorem dX12_count_66 : decode cX12_count 66 = .ok (.getfield 248, 3) := by decide +kernel
theorem dX12_count_69 : decode cX12_count 69 = .ok (.ireturn, 1) := by decide +kernel
theorem dX12_count_70 : decode cX12_count 70 = .ok (.aload_n 0, 1) := by decide +kernel
theorem dX12_count_71 : decode cX12_count 71 = .ok (.getfield 241, 3) := by decide +kernel
theorem dX12_count_74 : decode cX12_count 74 = .ok (.ireturn, 1) := by decide +kernel
theorem dX12_count_75 : decode cX12_count 75 = .ok (.aload_n 0, 1) := by decide +kernel
theorem dX12_count_76 : decode cX12_count 76 = .ok (.getfield 295, 3) := by decide +kernel
theorem dX12_count_79 : decode cX12_count 79 = .ok (.ireturn, 1) := by decide +kernel
theorem dX12_count_80 : decode cX12_count 80 = .ok (.aload_n 0, 1) := by decide +kernel
theorem dX12_count_81 : decode cX12_count 81 = .ok (.getfield 316, 3) := by decide +kernel
theorem dX12_count_84 : decode cX12_count 84 = .ok (.ireturn, 1) := by decide +kernel
theorem dX12_count_85 : decode cX12_count 85 = .ok (.aload_n 0, 1) := by decide +kernel
theorem dX12_count_86 : decode cX12_count 86 = .ok (.getfield 358, 3) := by decide +kernel
theorem dX12_count_89 : decode cX12_count 89 = .ok (.ireturn, 1) := by decide +kernel
theorem dX12_count_90 : decode cX12_count 90 = .ok (.aload_n 0, 1) := by decide +kernel
theorem dX12_count_91 : decode cX12_count 91 = .ok (.getfield 355, 3) := by decide +kernel
theorem dX12_count_94 : decode cX12_count 94 = .ok (.ireturn, 1) := by decide +kernel
theorem dX12_count_95 : decode cX12_count 95 = .ok (.iconst 0, 1) := by decide +kernel
theorem dX12_count_96 : decode cX12_count 96 = .ok (.istore_n 3, 1) := by decide +kernel
theorem dX12_count_97 : decode cX12_count 97 = .ok (.iload_n 3, 1) := by decide +kernel
theorem dX12_count_98 : decode cX12_count 98 = .ok (.iconst 4, 1) := by decide +kernel
theorem dX12_count_99 : decode cX12_count 99 = .ok (.if_icmp .ge 26, 3) := by decide +kernel
theorem dX12_count_102 : decode cX12_count 102 = .ok (.iload_n 2, 1) := by decide +kernel
theorem dX12_count_103 : decode cX12_count 103 = .ok (.aload_n 0, 1) := by decide +kernel
theorem dX12_count_104 : decode cX12_count 104 = .ok (.getfield 9, 3) := by decide +kernel
theorem dX12_count_107 : decode cX12_count 107 = .ok (.iload_n 3, 1) := by decide +kernel
theorem dX12_count_108 : decode cX12_count 108 = .ok (.iaload, 1) := by decide +kernel
theorem dX12_count_109 : decode cX12_count 109 = .ok (.ifCond .lt 7, 3) := by decide +kernel
theorem dX12_count_112 : decode cX12_count 112 = .ok (.iconst 1, 1) := by decide +kernel
theorem dX12_count_113 : decode cX12_count 113 = .ok (.goto 4, 3) := by decide +kernel
theorem dX12_count_116 : decode cX12_count 116 = .ok (.iconst 0, 1) := by decide +kernel
theorem dX12_count_117 : decode cX12_count 117 = .ok (.iadd, 1) := by decide +kernel
theorem dX12_count_118 : decode cX12_count 118 = .ok (.istore_n 2, 1) := by decide +kernel
theorem dX12_count_119 : decode cX12_count 119 = .ok (.iinc 3 1, 3) := by decide +kernel
theorem dX12_count_122 : decode cX12_count 122 = .ok (.goto (-25), 3) := by decide +kernel
theorem dX12_count_125 : decode cX12_count 125 = .ok (.iload_n 2, 1) := by decide +kernel
theorem dX12_count_126 : decode cX12_count 126 = .ok (.ireturn, 1) := by decide +kernel
theorem dX12_count_127 : decode cX12_count 127 = .ok (.iconst 0, 1) := by decide +kernel
theorem dX12_count_128 : decode cX12_count 128 = .ok (.istore_n 3, 1) := by decide +kernel
theorem dX12_count_129 : decode cX12_count 129 = .ok (.iload_n 3, 1) := by decide +kernel
theorem dX12_count_130 : decode cX12_count 130 = .ok (.aload_n 0, 1) := by decide +kernel
theorem dX12_count_131 : decode cX12_count 131 = .ok (.getfield 295, 3) := by decide +kernel
theorem dX12_count_134 : decode cX12_count 134 = .ok (.if_icmp .ge 26, 3) := by decide +kernel
theorem dX12_count_137 : decode cX12_count 137 = .ok (.iload_n 2, 1) := by decide +kernel
theorem dX12_count_138 : decode cX12_count 138 = .ok (.aload_n 0, 1) := by decide +kernel
theorem dX12_count_139 : decode cX12_count 139 = .ok (.getfield 70, 3) := by decide +kernel
theorem dX12_count_142 : decode cX12_count 142 = .ok (.iload_n 3, 1) := by decide +kernel
theorem dX12_count_143 : decode cX12_count 143 = .ok (.baload, 1) := by decide +kernel
theorem dX12_count_144 : decode cX12_count 144 = .ok (.ifCond .eq 7, 3) := by decide +kernel
theorem dX12_count_147 : decode cX12_count 147 = .ok (.iconst 0, 1) := by decide +kernel
theorem dX12_count_148 : decode cX12_count 148 = .ok (.goto 4, 3) := by decide +kernel
theorem dX12_count_151 : decode cX12_count 151 = .ok (.iconst 1, 1) := by decide +kernel
theorem dX12_count_152 : decode cX12_count 152 = .ok (.iadd, 1) := by decide +kernel
theorem dX12_count_153 : decode cX12_count 153 = .ok (.istore_n 2, 1) := by decide +kernel
theorem dX12_count_154 : decode cX12_count 154 = .ok (.iinc 3 1, 3) := by decide +kernel
theorem dX12_count_157 : decode cX12_count 157 = .ok (.goto (-28), 3) := by decide +kernel
theorem dX12_count_160 : decode cX12_count 160 = .ok (.iload_n 2, 1) := by decide +kernel
theorem dX12_count_161 : decode cX12_count 161 = .ok (.ireturn, 1) := by decide +kernel
theorem dX12_count_162 : decode cX12_count 162 = .ok (.iconst (-1), 1) := by decide +kernel
theorem dX12_count_163 : decode cX12_count 163 = .ok (.ireturn, 1) := by decide +kernel
def fX12_count_L97 : Nat → Int32 → Int32 → Hp → Option ((Int32 × Int32) × Hp)
  | 0, _, _, _ => none
  | n + 1, a2, a3, h => br (4 ≤ a3) (some ((a2, a3), h)) (gd (ib a3 4) (br ((gI h 54 0 (ix a3)) < 0) (lb (a2 + 0) (fun v3 => lb (a3 + 1) (fun v4 => fX12_count_L97 n v3 v4 h))) (lb (a2 + 1) (fun v5 => lb (a3 + 1) (fun v6 => fX12_count_L97 n v5 v6 h)))))
def fX12_count_L129 : Nat → Int32 → Int32 → Hp → Option ((Int32 × Int32) × Hp)
  | 0, _, _, _ => none
  | n + 1, a2, a3, h => br ((gI h 12 0 8) ≤ a3) (some ((a2, a3), h)) (gd (ib a3 12) (br ((gI h 68 0 (ix a3)) = 0) (lb (a2 + 1) (fun v12 => lb (a3 + 1) (fun v13 => fX12_count_L129 n v12 v13 h))) (lb (a2 + 0) (fun v14 => lb (a3 + 1) (fun v15 => fX12_count_L129 n v14 v15 h)))))
def fX12_count (a1 : Int32) (h : Hp) : Option (Int32 × Hp) := lb (sI h 12 0 0 0) (fun h1 => br (a1 = 0) (some (gI h1 12 0 5, h1)) (br (a1 = 1) (some (gI h1 12 0 7, h1)) (br (a1 = 2) (some (gI h1 12 0 6, h1)) (br (a1 = 3) (some (gI h1 12 0 8, h1)) (br (a1 = 4) (some (gI h1 12 0 9, h1)) (br (a1 = 5) (some (gI h1 12 0 10, h1)) (br (a1 = 6) (some (gI h1 12 0 11, h1)) (br (a1 = 7) (bd (fX12_count_L97 FU 0 0 h1) (fun t8 h7 => lb t8.1 (fun v9 => lb t8.2 (fun v10 => some (v9, h7))))) (br (a1 = 8) (bd (fX12_count_L129 FU 0 0 h1) (fun t17 h16 => lb t17.1 (fun v18 => lb t17.2 (fun v19 => some (v18, h16))))) (some ((-1), h1)))))))))))
set_option maxRecDepth 20000 in
theorem tX12_count_L97 {X : Cz} {h0 : Hp} {r : Option AV} {hE : Hp} : ∀ (n : Nat) (a2 : Int32) (a3 : Int32) (h : Hp) (z : (Int32 × Int32) × Hp), fX12_count_L97 n a2 a3 h = some z → V X mX12_count true h0 125 [(0, zr 12 0), (2, zi z.1.1), (3, zi z.1.2)] [] z.2 r hE → V X mX12_count true h0 97 [(0, zr 12 0), (2, zi a2), (3, zi a3)] [] h r hE := by
  intro n
  induction n with
  | zero => intro a2 a3 h z hF k; cases hF
  | succ n ih =>
    intro a2 a3 h z hF k
    rw [fX12_count_L97] at hF
    refine v_iload_n (j := 2) dX12_count_97 rfl ?_
    refine v_iconst (v := 4) dX12_count_98 (by decide) ?_
    refine v_icmp_ge dX12_count_99 (by decide : _ = ((125 : Nat) : Int)) (fun q => ?_) (fun q => ?_)
    · replace hF := brT q hF
      cases hF
      exact k
    · replace hF := brF q hF
      refine v_iload_n (j := 1) dX12_count_102 rfl ?_
      refine v_aload_n (j := 0) dX12_count_103 rfl ?_
      refine v_getL (c := 12) rfl rfl rfl ly12_1 cz12 flX12_9 dX12_count_104 ?_
      refine v_iload_n (j := 2) dX12_count_107 rfl ?_
      replace hF := gd_use hF
      obtain ⟨q2, hF⟩ := hF
      refine v_iald rfl q2 dX12_count_108 ?_
      refine v_if_lt dX12_count_109 (by decide : _ = ((116 : Nat) : Int)) (fun q => ?_) (fun q => ?_)
      · replace hF := brT q hF
        refine v_iconst (v := 0) dX12_count_116 (by decide) ?_
        refine v_iadd dX12_count_117 ?_
        refine v_topi fun v3 ev3 => ?_
        replace hF := lb_use ev3 hF
        clear ev3
        refine v_istore_n (ls' := [(2, zi v3), (0, zr 12 0), (3, zi a3)]) dX12_count_118 (by decide) rfl ?_
        obtain ⟨v4, ev4⟩ : ∃ y : Int32, y = a3 + 1 := ⟨_, rfl⟩
        replace hF := lb_use ev4 hF
        refine v_iinc (j := 2) (v := v4) (ls' := [(3, zi v4), (2, zi v3), (0, zr 12 0)]) dX12_count_119 rfl (by rw [ev4]; rfl) (by decide) rfl ?_
        clear ev4
        refine v_goto (tgt := 97) dX12_count_122 (by decide) ?_
        refine v_sub [2, 1, 0] rfl ?_
        exact ih v3 v4 h _ hF k
      · replace hF := brF q hF
        refine v_iconst (v := 1) dX12_count_112 (by decide) ?_
        refine v_goto (tgt := 117) dX12_count_113 (by decide) ?_
        refine v_iadd dX12_count_117 ?_
        refine v_topi fun v5 ev5 => ?_
        replace hF := lb_use ev5 hF
        clear ev5
        refine v_istore_n (ls' := [(2, zi v5), (0, zr 12 0), (3, zi a3)]) dX12_count_118 (by decide) rfl ?_
        obtain ⟨v6, ev6⟩ : ∃ y : Int32, y = a3 + 1 := ⟨_, rfl⟩
        replace hF := lb_use ev6 hF
        refine v_iinc (j := 2) (v := v6) (ls' := [(3, zi v6), (2, zi v5), (0, zr 12 0)]) dX12_count_119 rfl (by rw [ev6]; rfl) (by decide) rfl ?_
        clear ev6
        refine v_goto (tgt := 97) dX12_count_122 (by decide) ?_
        refine v_sub [2, 1, 0] rfl ?_
        exact ih v5 v6 h _ hF k
set_option maxRecDepth 20000 in
theorem tX12_count_L129 {X : Cz} {h0 : Hp} {r : Option AV} {hE : Hp} : ∀ (n : Nat) (a2 : Int32) (a3 : Int32) (h : Hp) (z : (Int32 × Int32) × Hp), fX12_count_L129 n a2 a3 h = some z → V X mX12_count true h0 160 [(0, zr 12 0), (2, zi z.1.1), (3, zi z.1.2)] [] z.2 r hE → V X mX12_count true h0 129 [(0, zr 12 0), (2, zi a2), (3, zi a3)] [] h r hE := by
  intro n
  induction n with
  | zero => intro a2 a3 h z hF k; cases hF
  | succ n ih =>
    intro a2 a3 h z hF k
    rw [fX12_count_L129] at hF
    refine v_iload_n (j := 2) dX12_count_129 rfl ?_
    refine v_aload_n (j := 0) dX12_count_130 rfl ?_
    refine v_getI (c := 12) rfl (Or.inl rfl) cz12 flX12_295 dX12_count_131 ?_
    refine v_icmp_ge dX12_count_134 (by decide : _ = ((160 : Nat) : Int)) (fun q => ?_) (fun q => ?_)
    · replace hF := brT q hF
      cases hF
      exact k
    · replace hF := brF q hF
      refine v_iload_n (j := 1) dX12_count_137 rfl ?_
      refine v_aload_n (j := 0) dX12_count_138 rfl ?_
      refine v_getL (c := 12) rfl rfl rfl ly12_28 cz12 flX12_70 dX12_count_139 ?_
      refine v_iload_n (j := 2) dX12_count_142 rfl ?_
      replace hF := gd_use hF
      obtain ⟨q11, hF⟩ := hF
      refine v_zald rfl q11 dX12_count_143 ?_
      refine v_if_eq dX12_count_144 (by decide : _ = ((151 : Nat) : Int)) (fun q => ?_) (fun q => ?_)
      · replace hF := brT q hF
        refine v_iconst (v := 1) dX12_count_151 (by decide) ?_
        refine v_iadd dX12_count_152 ?_
        refine v_topi fun v12 ev12 => ?_
        replace hF := lb_use ev12 hF
        clear ev12
        refine v_istore_n (ls' := [(2, zi v12), (0, zr 12 0), (3, zi a3)]) dX12_count_153 (by decide) rfl ?_
        obtain ⟨v13, ev13⟩ : ∃ y : Int32, y = a3 + 1 := ⟨_, rfl⟩
        replace hF := lb_use ev13 hF
        refine v_iinc (j := 2) (v := v13) (ls' := [(3, zi v13), (2, zi v12), (0, zr 12 0)]) dX12_count_154 rfl (by rw [ev13]; rfl) (by decide) rfl ?_
        clear ev13
        refine v_goto (tgt := 129) dX12_count_157 (by decide) ?_
        refine v_sub [2, 1, 0] rfl ?_
        exact ih v12 v13 h _ hF k
      · replace hF := brF q hF
        refine v_iconst (v := 0) dX12_count_147 (by decide) ?_
        refine v_goto (tgt := 152) dX12_count_148 (by decide) ?_
        refine v_iadd dX12_count_152 ?_
        refine v_topi fun v14 ev14 => ?_
        replace hF := lb_use ev14 hF
        clear ev14
        refine v_istore_n (ls' := [(2, zi v14), (0, zr 12 0), (3, zi a3)]) dX12_count_153 (by decide) rfl ?_
        obtain ⟨v15, ev15⟩ : ∃ y : Int32, y = a3 + 1 := ⟨_, rfl⟩
        replace hF := lb_use ev15 hF
        refine v_iinc (j := 2) (v := v15) (ls' := [(3, zi v15), (2, zi v14), (0, zr 12 0)]) dX12_count_154 rfl (by rw [ev15]; rfl) (by decide) rfl ?_
        clear ev15
        refine v_goto (tgt := 129) dX12_count_157 (by decide) ?_
        refine v_sub [2, 1, 0] rfl ?_
        exact ih v14 v15 h _ hF k
set_option maxRecDepth 20000 in
theorem tX12_count {X : Cz} {a1 : Int32} {h hE : Hp} {rE : Int32} (hF : fX12_count a1 h = some (rE, hE)) : Ct X mX12_count true [zr 12 0, zi a1] h (some (zi rE)) hE := by
  refine Ct_of (by decide) (Nat.le_of_ble_eq_true rfl) (ls := [(0, zr 12 0), (1, zi a1)]) rfl ?_
  unfold fX12_count at hF
  refine v_aload_n (j := 0) dX12_count_0 rfl ?_
  refine v_iconst (v := 0) dX12_count_1 (by decide) ?_
  refine v_putI (c := 12) rfl rfl (Nat.le_of_ble_eq_true rfl) cz12 flX12_208 dX12_count_2 ?_
  refine v_toph fun h1 eh1 => ?_
  replace hF := lb_use eh1 hF
  clear eh1
  refine v_iconst (v := 0) dX12_count_5 (by decide) ?_
  refine v_istore_n (ls' := [(2, zi 0), (0, zr 12 0), (1, zi a1)]) dX12_count_6 (by decide) rfl ?_
  refine v_iload_n (j := 2) dX12_count_7 rfl ?_
  by_cases q0 : a1 = 0
  · replace hF := brT q0 hF
    subst q0
    refine v_tblIn (tgt := 60) dX12_count_8 (by decide) (by decide) rfl (by decide) ?_
    refine v_aload_n (j := 1) dX12_count_60 rfl ?_
    refine v_getI (c := 12) rfl (Or.inl rfl) cz12 flX12_251 dX12_count_61 ?_
    obtain ⟨rfl, rfl⟩ := ret_use hF
    exact v_iret rfl dX12_count_64
  replace hF := brF q0 hF
  by_cases q1 : a1 = 1
  · replace hF := brT q1 hF
    subst q1
    refine v_tblIn (tgt := 65) dX12_count_8 (by decide) (by decide) rfl (by decide) ?_
    refine v_aload_n (j := 1) dX12_count_65 rfl ?_
    refine v_getI (c := 12) rfl (Or.inl rfl) cz12 flX12_248 dX12_count_66 ?_
    obtain ⟨rfl, rfl⟩ := ret_use hF
    exact v_iret rfl dX12_count_69
  replace hF := brF q1 hF
  by_cases q2 : a1 = 2
  · replace hF := brT q2 hF
    subst q2
    refine v_tblIn (tgt := 70) dX12_count_8 (by decide) (by decide) rfl (by decide) ?_
    refine v_aload_n (j := 1) dX12_count_70 rfl ?_
    refine v_getI (c := 12) rfl (Or.inl rfl) cz12 flX12_241 dX12_count_71 ?_
    obtain ⟨rfl, rfl⟩ := ret_use hF
    exact v_iret rfl dX12_count_74
  replace hF := brF q2 hF
  by_cases q3 : a1 = 3
  · replace hF := brT q3 hF
    subst q3
    refine v_tblIn (tgt := 75) dX12_count_8 (by decide) (by decide) rfl (by decide) ?_
    refine v_aload_n (j := 1) dX12_count_75 rfl ?_
    refine v_getI (c := 12) rfl (Or.inl rfl) cz12 flX12_295 dX12_count_76 ?_
    obtain ⟨rfl, rfl⟩ := ret_use hF
    exact v_iret rfl dX12_count_79
  replace hF := brF q3 hF
  by_cases q4 : a1 = 4
  · replace hF := brT q4 hF
    subst q4
    refine v_tblIn (tgt := 80) dX12_count_8 (by decide) (by decide) rfl (by decide) ?_
    refine v_aload_n (j := 1) dX12_count_80 rfl ?_
    refine v_getI (c := 12) rfl (Or.inl rfl) cz12 flX12_316 dX12_count_81 ?_
    obtain ⟨rfl, rfl⟩ := ret_use hF
    exact v_iret rfl dX12_count_84
  replace hF := brF q4 hF
  by_cases q5 : a1 = 5
  · replace hF := brT q5 hF
    subst q5
    refine v_tblIn (tgt := 85) dX12_count_8 (by decide) (by decide) rfl (by decide) ?_
    refine v_aload_n (j := 1) dX12_count_85 rfl ?_
    refine v_getI (c := 12) rfl (Or.inl rfl) cz12 flX12_358 dX12_count_86 ?_
    obtain ⟨rfl, rfl⟩ := ret_use hF
    exact v_iret rfl dX12_count_89
  replace hF := brF q5 hF
  by_cases q6 : a1 = 6
  · replace hF := brT q6 hF
    subst q6
    refine v_tblIn (tgt := 90) dX12_count_8 (by decide) (by decide) rfl (by decide) ?_
    refine v_aload_n (j := 1) dX12_count_90 rfl ?_
    refine v_getI (c := 12) rfl (Or.inl rfl) cz12 flX12_355 dX12_count_91 ?_
    obtain ⟨rfl, rfl⟩ := ret_use hF
    exact v_iret rfl dX12_count_94
  replace hF := brF q6 hF
  by_cases q7 : a1 = 7
  · replace hF := brT q7 hF
    subst q7
    refine v_tblIn (tgt := 95) dX12_count_8 (by decide) (by decide) rfl (by decide) ?_
    refine v_iconst (v := 0) dX12_count_95 (by decide) ?_
    refine v_istore_n (ls' := [(3, zi 0), (2, zi 0), (0, zr 12 0), (1, zi 7)]) dX12_count_96 (by decide) rfl ?_
    refine v_sub [2, 1, 0] rfl ?_
    replace hF := bd_use hF
    obtain ⟨t8, h7, et8, hF⟩ := hF
    refine tX12_count_L97 _ 0 0 h1 _ et8 ?_
    clear et8
    obtain ⟨v9, v10⟩ := t8
    replace hF := lb_use (x := v9) rfl hF
    replace hF := lb_use (x := v10) rfl hF
    refine v_iload_n (j := 1) dX12_count_125 rfl ?_
    obtain ⟨rfl, rfl⟩ := ret_use hF
    exact v_iret rfl dX12_count_126
  replace hF := brF q7 hF
  by_cases q8 : a1 = 8
  · replace hF := brT q8 hF
    subst q8
    refine v_tblIn (tgt := 127) dX12_count_8 (by decide) (by decide) rfl (by decide) ?_
    refine v_iconst (v := 0) dX12_count_127 (by decide) ?_
    refine v_istore_n (ls' := [(3, zi 0), (2, zi 0), (0, zr 12 0), (1, zi 8)]) dX12_count_128 (by decide) rfl ?_
    refine v_sub [2, 1, 0] rfl ?_
    replace hF := bd_use hF
    obtain ⟨t17, h16, et17, hF⟩ := hF
    refine tX12_count_L129 _ 0 0 h1 _ et17 ?_
    clear et17
    obtain ⟨v18, v19⟩ := t17
    replace hF := lb_use (x := v18) rfl hF
    replace hF := lb_use (x := v19) rfl hF
    refine v_iload_n (j := 1) dX12_count_160 rfl ?_
    obtain ⟨rfl, rfl⟩ := ret_use hF
    exact v_iret rfl dX12_count_161
  replace hF := brF q8 hF
  have nq0 := lv_neT (a := 0) q0 rfl
  have nq1 := lv_neT (a := 1) q1 rfl
  have nq2 := lv_neT (a := 2) q2 rfl
  have nq3 := lv_neT (a := 3) q3 rfl
  have nq4 := lv_neT (a := 4) q4 rfl
  have nq5 := lv_neT (a := 5) q5 rfl
  have nq6 := lv_neT (a := 6) q6 rfl
  have nq7 := lv_neT (a := 7) q7 rfl
  have nq8 := lv_neT (a := 8) q8 rfl
  refine v_tblOut (tgt := 162) dX12_count_8 (by omega) (by decide) ?_
  refine v_iconst (v := (-1)) dX12_count_162 (by decide) ?_
  obtain ⟨rfl, rfl⟩ := ret_use hF
  exact v_iret rfl dX12_count_163
theorem dX12_fund_0 : decode cX12_fund 0 = .ok (.aload_n 0, 1) := by decide +kernel
theorem dX12_fund_1 : decode cX12_fund 1 = .ok (.iconst 0, 1) := by decide +kernel
theorem dX12_fund_2 : decode cX12_fund 2 = .ok (.putfield 208, 3) := by decide +kernel
theorem dX12_fund_5 : decode cX12_fund 5 = .ok (.aload_n 0, 1) := by decide +kernel
theorem dX12_fund_6 : decode cX12_fund 6 = .ok (.getfield 378, 3) := by decide +kernel
theorem dX12_fund_9 : decode cX12_fund 9 = .ok (.lreturn, 1) := by decide +kernel
def fX12_fund (h : Hp) : Option (Int64 × Hp) := lb (sI h 12 0 0 0) (fun h1 => some (gJ h1 12 0 12, h1))
set_option maxRecDepth 20000 in
theorem tX12_fund {X : Cz} {h hE : Hp} {rE : Int64} (hF : fX12_fund h = some (rE, hE)) : Ct X mX12_fund true [zr 12 0] h (some (zj rE)) hE := by
  refine Ct_of (by decide) (Nat.le_of_ble_eq_true rfl) (ls := [(0, zr 12 0)]) rfl ?_
  unfold fX12_fund at hF
  refine v_aload_n (j := 0) dX12_fund_0 rfl ?_
  refine v_iconst (v := 0) dX12_fund_1 (by decide) ?_
  refine v_putI (c := 12) rfl rfl (Nat.le_of_ble_eq_true rfl) cz12 flX12_208 dX12_fund_2 ?_
  refine v_toph fun h1 eh1 => ?_
  replace hF := lb_use eh1 hF
  clear eh1
  refine v_aload_n (j := 0) dX12_fund_5 rfl ?_
  refine v_getJ (c := 12) rfl rfl cz12 flX12_378 dX12_fund_6 ?_
  obtain ⟨rfl, rfl⟩ := ret_use hF
  exact v_lret rfl dX12_fund_9
