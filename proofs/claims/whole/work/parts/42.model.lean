/-! functions and ties, printed by program (wip/gen/dec.py) -/
theorem dX12_adds_0 : decode cX12_adds 0 = .ok (.aload_n 0, 1) := by decide +kernel
theorem dX12_adds_1 : decode cX12_adds 1 = .ok (.getfield 76, 3) := by decide +kernel
theorem dX12_adds_4 : decode cX12_adds 4 = .ok (.aload_n 0, 1) := by decide +kernel
theorem dX12_adds_5 : decode cX12_adds 5 = .ok (.getfield 316, 3) := by decide +kernel
theorem dX12_adds_8 : decode cX12_adds 8 = .ok (.iload_n 1, 1) := by decide +kernel
theorem dX12_adds_9 : decode cX12_adds 9 = .ok (.iastore, 1) := by decide +kernel
theorem dX12_adds_10 : decode cX12_adds 10 = .ok (.aload_n 0, 1) := by decide +kernel
theorem dX12_adds_11 : decode cX12_adds 11 = .ok (.getfield 79, 3) := by decide +kernel
theorem dX12_adds_14 : decode cX12_adds 14 = .ok (.aload_n 0, 1) := by decide +kernel
theorem dX12_adds_15 : decode cX12_adds 15 = .ok (.getfield 316, 3) := by decide +kernel
theorem dX12_adds_18 : decode cX12_adds 18 = .ok (.iload_n 2, 1) := by decide +kernel
theorem dX12_adds_19 : decode cX12_adds 19 = .ok (.iastore, 1) := by decide +kernel
theorem dX12_adds_20 : decode cX12_adds 20 = .ok (.aload_n 0, 1) := by decide +kernel
theorem dX12_adds_21 : decode cX12_adds 21 = .ok (.getfield 82, 3) := by decide +kernel
theorem dX12_adds_24 : decode cX12_adds 24 = .ok (.aload_n 0, 1) := by decide +kernel
theorem dX12_adds_25 : decode cX12_adds 25 = .ok (.getfield 316, 3) := by decide +kernel
theorem dX12_adds_28 : decode cX12_adds 28 = .ok (.iload_n 3, 1) := by decide +kernel
theorem dX12_adds_29 : decode cX12_adds 29 = .ok (.iastore, 1) := by decide +kernel
theorem dX12_adds_30 : decode cX12_adds 30 = .ok (.aload_n 0, 1) := by decide +kernel
theorem dX12_adds_31 : decode cX12_adds 31 = .ok (.getfield 85, 3) := by decide +kernel
theorem dX12_adds_34 : decode cX12_adds 34 = .ok (.aload_n 0, 1) := by decide +kernel
theorem dX12_adds_35 : decode cX12_adds 35 = .ok (.getfield 316, 3) := by decide +kernel
theorem dX12_adds_38 : decode cX12_adds 38 = .ok (.iload 4, 2) := by decide +kernel
theorem dX12_adds_40 : decode cX12_adds 40 = .ok (.iastore, 1) := by decide +kernel
theorem dX12_adds_41 : decode cX12_adds 41 = .ok (.aload_n 0, 1) := by decide +kernel
theorem dX12_adds_42 : decode cX12_adds 42 = .ok (.getfield 88, 3) := by decide +kernel
theorem dX12_adds_45 : decode cX12_adds 45 = .ok (.aload_n 0, 1) := by decide +kernel
theorem dX12_adds_46 : decode cX12_adds 46 = .ok (.getfield 316, 3) := by decide +kernel
theorem dX12_adds_49 : decode cX12_adds 49 = .ok (.iload 5, 2) := by decide +kernel
theorem dX12_adds_51 : decode cX12_adds 51 = .ok (.iastore, 1) := by decide +kernel
theorem dX12_adds_52 : decode cX12_adds 52 = .ok (.aload_n 0, 1) := by decide +kernel
theorem dX12_adds_53 : decode cX12_adds 53 = .ok (.getfield 91, 3) := by decide +kernel
theorem dX12_adds_56 : decode cX12_adds 56 = .ok (.aload_n 0, 1) := by decide +kernel
theorem dX12_adds_57 : decode cX12_adds 57 = .ok (.getfield 316, 3) := by decide +kernel
theorem dX12_adds_60 : decode cX12_adds 60 = .ok (.iload 6, 2) := by decide +kernel
theorem dX12_adds_62 : decode cX12_adds 62 = .ok (.iastore, 1) := by decide +kernel
theorem dX12_adds_63 : decode cX12_adds 63 = .ok (.aload_n 0, 1) := by decide +kernel
theorem dX12_adds_64 : decode cX12_adds 64 = .ok (.getfield 94, 3) := by decide +kernel
theorem dX12_adds_67 : decode cX12_adds 67 = .ok (.aload_n 0, 1) := by decide +kernel
theorem dX12_adds_68 : decode cX12_adds 68 = .ok (.getfield 316, 3) := by decide +kernel
theorem dX12_adds_71 : decode cX12_adds 71 = .ok (.iload 7, 2) := by decide +kernel
theorem dX12_adds_73 : decode cX12_adds 73 = .ok (.iastore, 1) := by decide +kernel
theorem dX12_adds_74 : decode cX12_adds 74 = .ok (.aload_n 0, 1) := by decide +kernel
theorem dX12_adds_75 : decode cX12_adds 75 = .ok (.getfield 97, 3) := by decide +kernel
theorem dX12_adds_78 : decode cX12_adds 78 = .ok (.aload_n 0, 1) := by decide +kernel
theorem dX12_adds_79 : decode cX12_adds 79 = .ok (.getfield 316, 3) := by decide +kernel
theorem dX12_adds_82 : decode cX12_adds 82 = .ok (.iload 8, 2) := by decide +kernel
theorem dX12_adds_84 : decode cX12_adds 84 = .ok (.iastore, 1) := by decide +kernel
theorem dX12_adds_85 : decode cX12_adds 85 = .ok (.aload_n 0, 1) := by decide +kernel
theorem dX12_adds_86 : decode cX12_adds 86 = .ok (.getfield 100, 3) := by decide +kernel
theorem dX12_adds_89 : decode cX12_adds 89 = .ok (.aload_n 0, 1) := by decide +kernel
theorem dX12_adds_90 : decode cX12_adds 90 = .ok (.getfield 316, 3) := by decide +kernel
theorem dX12_adds_93 : decode cX12_adds 93 = .ok (.iload 8, 2) := by decide +kernel
theorem dX12_adds_95 : decode cX12_adds 95 = .ok (.iastore, 1) := by decide +kernel
theorem dX12_adds_96 : decode cX12_adds 96 = .ok (.aload_n 0, 1) := by decide +kernel
theorem dX12_adds_97 : decode cX12_adds 97 = .ok (.getfield 103, 3) := by decide +kernel
theorem dX12_adds_100 : decode cX12_adds 100 = .ok (.aload_n 0, 1) := by decide +kernel
theorem dX12_adds_101 : decode cX12_adds 101 = .ok (.getfield 316, 3) := by decide +kernel
theorem dX12_adds_104 : decode cX12_adds 104 = .ok (.iconst (-1), 1) := by decide +kernel
theorem dX12_adds_105 : decode cX12_adds 105 = .ok (.iastore, 1) := by decide +kernel
theorem dX12_adds_106 : decode cX12_adds 106 = .ok (.aload_n 0, 1) := by decide +kernel
theorem dX12_adds_107 : decode cX12_adds 107 = .ok (.getfield 106, 3) := by decide +kernel
theorem dX12_adds_110 : decode cX12_adds 110 = .ok (.aload_n 0, 1) := by decide +kernel
theorem dX12_adds_111 : decode cX12_adds 111 = .ok (.getfield 316, 3) := by decide +kernel
theorem dX12_adds_114 : decode cX12_adds 114 = .ok (.aload_n 0, 1) := by decide +kernel
theorem dX12_adds_115 : decode cX12_adds 115 = .ok (.getfield 251, 3) := by decide +kernel
theorem dX12_adds_118 : decode cX12_adds 118 = .ok (.iastore, 1) := by decide +kernel
theorem dX12_adds_119 : decode cX12_adds 119 = .ok (.aload_n 0, 1) := by decide +kernel
theorem dX12_adds_120 : decode cX12_adds 120 = .ok (.getfield 109, 3) := by decide +kernel
theorem dX12_adds_123 : decode cX12_adds 123 = .ok (.aload_n 0, 1) := by decide +kernel
theorem dX12_adds_124 : decode cX12_adds 124 = .ok (.getfield 316, 3) := by decide +kernel
theorem dX12_adds_127 : decode cX12_adds 127 = .ok (.iload 9, 2) := by decide +kernel
theorem dX12_adds_129 : decode cX12_adds 129 = .ok (.bastore, 1) := by decide +kernel
theorem dX12_adds_130 : decode cX12_adds 130 = .ok (.aload_n 0, 1) := by decide +kernel
theorem dX12_adds_131 : decode cX12_adds 131 = .ok (.getfield 112, 3) := by decide +kernel
theorem dX12_adds_134 : decode cX12_adds 134 = .ok (.aload_n 0, 1) := by decide +kernel
theorem dX12_adds_135 : decode cX12_adds 135 = .ok (.getfield 316, 3) := by decide +kernel
theorem dX12_adds_138 : decode cX12_adds 138 = .ok (.lload 10, 2) := by decide +kernel
theorem dX12_adds_140 : decode cX12_adds 140 = .ok (.lastore, 1) := by decide +kernel
theorem dX12_adds_141 : decode cX12_adds 141 = .ok (.aload_n 0, 1) := by decide +kernel
theorem dX12_adds_142 : decode cX12_adds 142 = .ok (.dup, 1) := by decide +kernel
theorem dX12_adds_143 : decode cX12_adds 143 = .ok (.getfield 316, 3) := by decide +kernel
theorem dX12_adds_146 : decode cX12_adds 146 = .ok (.iconst 1, 1) := by decide +kernel
theorem dX12_adds_147 : decode cX12_adds 147 = .ok (.iadd, 1) := by decide +kernel
theorem dX12_adds_148 : decode cX12_adds 148 = .ok (.putfield 316, 3) := by decide +kernel
theorem dX12_adds_151 : decode cX12_adds 151 = .ok (.aload_n 0, 1) := by decide +kernel
theorem dX12_adds_152 : decode cX12_adds 152 = .ok (.getfield 316, 3) := by decide +kernel
theorem dX12_adds_155 : decode cX12_adds 155 = .ok (.iconst 1, 1) := by decide +kernel
theorem dX12_adds_156 : decode cX12_adds 156 = .ok (.isub, 1) := by decide +kernel
theorem dX12_adds_157 : decode cX12_adds 157 = .ok (.ireturn, 1) := by decide +kernel
def fX12_adds (a1 : Int32) (a2 : Int32) (a3 : Int32) (a4 : Int32) (a5 : Int32) (a6 : Int32) (a7 : Int32) (a8 : Int32) (a9 : Int32) (a10 : Int64) (h : Hp) : Option (Int32 × Hp) := gd (ib (gI h 12 0 9) 100) (lb (sI h 70 0 (ix (gI h 12 0 9)) a1) (fun h2 => gd (ib (gI h2 12 0 9) 100) (lb (sI h2 71 0 (ix (gI h2 12 0 9)) a2) (fun h4 => gd (ib (gI h4 12 0 9) 100) (lb (sI h4 72 0 (ix (gI h4 12 0 9)) a3) (fun h6 => gd (ib (gI h6 12 0 9) 100) (lb (sI h6 73 0 (ix (gI h6 12 0 9)) a4) (fun h8 => gd (ib (gI h8 12 0 9) 100) (lb (sI h8 74 0 (ix (gI h8 12 0 9)) a5) (fun h10 => gd (ib (gI h10 12 0 9) 100) (lb (sI h10 75 0 (ix (gI h10 12 0 9)) a6) (fun h12 => gd (ib (gI h12 12 0 9) 100) (lb (sI h12 76 0 (ix (gI h12 12 0 9)) a7) (fun h14 => gd (ib (gI h14 12 0 9) 100) (lb (sI h14 77 0 (ix (gI h14 12 0 9)) a8) (fun h16 => gd (ib (gI h16 12 0 9) 100) (lb (sI h16 78 0 (ix (gI h16 12 0 9)) a8) (fun h18 => gd (ib (gI h18 12 0 9) 100) (lb (sI h18 79 0 (ix (gI h18 12 0 9)) (-1)) (fun h20 => gd (ib (gI h20 12 0 9) 100) (lb (sI h20 80 0 (ix (gI h20 12 0 9)) (gI h20 12 0 5)) (fun h22 => gd (ib (gI h22 12 0 9) 100) (lb (sI h22 81 0 (ix (gI h22 12 0 9)) (a9 &&& 1)) (fun h24 => gd (ib (gI h24 12 0 9) 100) (lb (sJ h24 82 0 (ix (gI h24 12 0 9)) a10) (fun h26 => lb (sI h26 12 0 9 ((gI h26 12 0 9) + 1)) (fun h27 => some ((gI h27 12 0 9) - 1, h27))))))))))))))))))))))))))))
set_option maxRecDepth 20000 in
theorem tX12_adds {X : Cz} {a1 : Int32} {a2 : Int32} {a3 : Int32} {a4 : Int32} {a5 : Int32} {a6 : Int32} {a7 : Int32} {a8 : Int32} {a9 : Int32} {a10 : Int64} {h hE : Hp} {rE : Int32} (hF : fX12_adds a1 a2 a3 a4 a5 a6 a7 a8 a9 a10 h = some (rE, hE)) : Ct X mX12_adds true [zr 12 0, zi a1, zi a2, zi a3, zi a4, zi a5, zi a6, zi a7, zi a8, zi a9, zj a10] h (some (zi rE)) hE := by
  refine Ct_of (by decide) (Nat.le_of_ble_eq_true rfl) (ls := [(0, zr 12 0), (1, zi a1), (2, zi a2), (3, zi a3), (4, zi a4), (5, zi a5), (6, zi a6), (7, zi a7), (8, zi a8), (9, zi a9), (10, zj a10)]) rfl ?_
  unfold fX12_adds at hF
  refine v_aload_n (j := 0) dX12_adds_0 rfl ?_
  refine v_getL (c := 12) rfl rfl rfl ly12_30 cz12 flX12_76 dX12_adds_1 ?_
  refine v_aload_n (j := 0) dX12_adds_4 rfl ?_
  refine v_getI (c := 12) rfl (Or.inl rfl) cz12 flX12_316 dX12_adds_5 ?_
  refine v_iload_n (j := 1) dX12_adds_8 rfl ?_
  replace hF := gd_use hF
  obtain ⟨q1, hF⟩ := hF
  refine v_iast rfl q1 dX12_adds_9 ?_
  refine v_toph fun h2 eh2 => ?_
  replace hF := lb_use eh2 hF
  clear eh2
  refine v_aload_n (j := 0) dX12_adds_10 rfl ?_
  refine v_getL (c := 12) rfl rfl rfl ly12_31 cz12 flX12_79 dX12_adds_11 ?_
  refine v_aload_n (j := 0) dX12_adds_14 rfl ?_
  refine v_getI (c := 12) rfl (Or.inl rfl) cz12 flX12_316 dX12_adds_15 ?_
  refine v_iload_n (j := 2) dX12_adds_18 rfl ?_
  replace hF := gd_use hF
  obtain ⟨q3, hF⟩ := hF
  refine v_iast rfl q3 dX12_adds_19 ?_
  refine v_toph fun h4 eh4 => ?_
  replace hF := lb_use eh4 hF
  clear eh4
  refine v_aload_n (j := 0) dX12_adds_20 rfl ?_
  refine v_getL (c := 12) rfl rfl rfl ly12_32 cz12 flX12_82 dX12_adds_21 ?_
  refine v_aload_n (j := 0) dX12_adds_24 rfl ?_
  refine v_getI (c := 12) rfl (Or.inl rfl) cz12 flX12_316 dX12_adds_25 ?_
  refine v_iload_n (j := 3) dX12_adds_28 rfl ?_
  replace hF := gd_use hF
  obtain ⟨q5, hF⟩ := hF
  refine v_iast rfl q5 dX12_adds_29 ?_
  refine v_toph fun h6 eh6 => ?_
  replace hF := lb_use eh6 hF
  clear eh6
  refine v_aload_n (j := 0) dX12_adds_30 rfl ?_
  refine v_getL (c := 12) rfl rfl rfl ly12_33 cz12 flX12_85 dX12_adds_31 ?_
  refine v_aload_n (j := 0) dX12_adds_34 rfl ?_
  refine v_getI (c := 12) rfl (Or.inl rfl) cz12 flX12_316 dX12_adds_35 ?_
  refine v_iload (j := 4) dX12_adds_38 rfl ?_
  replace hF := gd_use hF
  obtain ⟨q7, hF⟩ := hF
  refine v_iast rfl q7 dX12_adds_40 ?_
  refine v_toph fun h8 eh8 => ?_
  replace hF := lb_use eh8 hF
  clear eh8
  refine v_aload_n (j := 0) dX12_adds_41 rfl ?_
  refine v_getL (c := 12) rfl rfl rfl ly12_34 cz12 flX12_88 dX12_adds_42 ?_
  refine v_aload_n (j := 0) dX12_adds_45 rfl ?_
  refine v_getI (c := 12) rfl (Or.inl rfl) cz12 flX12_316 dX12_adds_46 ?_
  refine v_iload (j := 5) dX12_adds_49 rfl ?_
  replace hF := gd_use hF
  obtain ⟨q9, hF⟩ := hF
  refine v_iast rfl q9 dX12_adds_51 ?_
  refine v_toph fun h10 eh10 => ?_
  replace hF := lb_use eh10 hF
  clear eh10
  refine v_aload_n (j := 0) dX12_adds_52 rfl ?_
  refine v_getL (c := 12) rfl rfl rfl ly12_35 cz12 flX12_91 dX12_adds_53 ?_
  refine v_aload_n (j := 0) dX12_adds_56 rfl ?_
  refine v_getI (c := 12) rfl (Or.inl rfl) cz12 flX12_316 dX12_adds_57 ?_
  refine v_iload (j := 6) dX12_adds_60 rfl ?_
  replace hF := gd_use hF
  obtain ⟨q11, hF⟩ := hF
  refine v_iast rfl q11 dX12_adds_62 ?_
  refine v_toph fun h12 eh12 => ?_
  replace hF := lb_use eh12 hF
  clear eh12
  refine v_aload_n (j := 0) dX12_adds_63 rfl ?_
  refine v_getL (c := 12) rfl rfl rfl ly12_36 cz12 flX12_94 dX12_adds_64 ?_
  refine v_aload_n (j := 0) dX12_adds_67 rfl ?_
  refine v_getI (c := 12) rfl (Or.inl rfl) cz12 flX12_316 dX12_adds_68 ?_
  refine v_iload (j := 7) dX12_adds_71 rfl ?_
  replace hF := gd_use hF
  obtain ⟨q13, hF⟩ := hF
  refine v_iast rfl q13 dX12_adds_73 ?_
  refine v_toph fun h14 eh14 => ?_
  replace hF := lb_use eh14 hF
  clear eh14
  refine v_aload_n (j := 0) dX12_adds_74 rfl ?_
  refine v_getL (c := 12) rfl rfl rfl ly12_37 cz12 flX12_97 dX12_adds_75 ?_
  refine v_aload_n (j := 0) dX12_adds_78 rfl ?_
  refine v_getI (c := 12) rfl (Or.inl rfl) cz12 flX12_316 dX12_adds_79 ?_
  refine v_iload (j := 8) dX12_adds_82 rfl ?_
  replace hF := gd_use hF
  obtain ⟨q15, hF⟩ := hF
  refine v_iast rfl q15 dX12_adds_84 ?_
  refine v_toph fun h16 eh16 => ?_
  replace hF := lb_use eh16 hF
  clear eh16
  refine v_aload_n (j := 0) dX12_adds_85 rfl ?_
  refine v_getL (c := 12) rfl rfl rfl ly12_38 cz12 flX12_100 dX12_adds_86 ?_
  refine v_aload_n (j := 0) dX12_adds_89 rfl ?_
  refine v_getI (c := 12) rfl (Or.inl rfl) cz12 flX12_316 dX12_adds_90 ?_
  refine v_iload (j := 8) dX12_adds_93 rfl ?_
  replace hF := gd_use hF
  obtain ⟨q17, hF⟩ := hF
  refine v_iast rfl q17 dX12_adds_95 ?_
  refine v_toph fun h18 eh18 => ?_
  replace hF := lb_use eh18 hF
  clear eh18
  refine v_aload_n (j := 0) dX12_adds_96 rfl ?_
  refine v_getL (c := 12) rfl rfl rfl ly12_39 cz12 flX12_103 dX12_adds_97 ?_
  refine v_aload_n (j := 0) dX12_adds_100 rfl ?_
  refine v_getI (c := 12) rfl (Or.inl rfl) cz12 flX12_316 dX12_adds_101 ?_
  refine v_iconst (v := (-1)) dX12_adds_104 (by decide) ?_
  replace hF := gd_use hF
  obtain ⟨q19, hF⟩ := hF
  refine v_iast rfl q19 dX12_adds_105 ?_
  refine v_toph fun h20 eh20 => ?_
  replace hF := lb_use eh20 hF
  clear eh20
  refine v_aload_n (j := 0) dX12_adds_106 rfl ?_
  refine v_getL (c := 12) rfl rfl rfl ly12_40 cz12 flX12_106 dX12_adds_107 ?_
  refine v_aload_n (j := 0) dX12_adds_110 rfl ?_
  refine v_getI (c := 12) rfl (Or.inl rfl) cz12 flX12_316 dX12_adds_111 ?_
  refine v_aload_n (j := 0) dX12_adds_114 rfl ?_
  refine v_getI (c := 12) rfl (Or.inl rfl) cz12 flX12_251 dX12_adds_115 ?_
  replace hF := gd_use hF
  obtain ⟨q21, hF⟩ := hF
  refine v_iast rfl q21 dX12_adds_118 ?_
  refine v_toph fun h22 eh22 => ?_
  replace hF := lb_use eh22 hF
  clear eh22
  refine v_aload_n (j := 0) dX12_adds_119 rfl ?_
  refine v_getL (c := 12) rfl rfl rfl ly12_41 cz12 flX12_109 dX12_adds_120 ?_
  refine v_aload_n (j := 0) dX12_adds_123 rfl ?_
  refine v_getI (c := 12) rfl (Or.inl rfl) cz12 flX12_316 dX12_adds_124 ?_
  refine v_iload (j := 9) dX12_adds_127 rfl ?_
  replace hF := gd_use hF
  obtain ⟨q23, hF⟩ := hF
  refine v_zast rfl q23 dX12_adds_129 ?_
  refine v_toph fun h24 eh24 => ?_
  replace hF := lb_use eh24 hF
  clear eh24
  refine v_aload_n (j := 0) dX12_adds_130 rfl ?_
  refine v_getL (c := 12) rfl rfl rfl ly12_42 cz12 flX12_112 dX12_adds_131 ?_
  refine v_aload_n (j := 0) dX12_adds_134 rfl ?_
  refine v_getI (c := 12) rfl (Or.inl rfl) cz12 flX12_316 dX12_adds_135 ?_
  refine v_lload (j := 10) dX12_adds_138 rfl ?_
  replace hF := gd_use hF
  obtain ⟨q25, hF⟩ := hF
  refine v_last rfl q25 dX12_adds_140 ?_
  refine v_toph fun h26 eh26 => ?_
  replace hF := lb_use eh26 hF
  clear eh26
  refine v_aload_n (j := 0) dX12_adds_141 rfl ?_
  refine v_dup dX12_adds_142 rfl ?_
  refine v_getI (c := 12) rfl (Or.inl rfl) cz12 flX12_316 dX12_adds_143 ?_
  refine v_iconst (v := 1) dX12_adds_146 (by decide) ?_
  refine v_iadd dX12_adds_147 ?_
  refine v_putI (c := 12) rfl rfl (Nat.le_of_ble_eq_true rfl) cz12 flX12_316 dX12_adds_148 ?_
  refine v_toph fun h27 eh27 => ?_
  replace hF := lb_use eh27 hF
  clear eh27
  refine v_aload_n (j := 0) dX12_adds_151 rfl ?_
  refine v_getI (c := 12) rfl (Or.inl rfl) cz12 flX12_316 dX12_adds_152 ?_
  refine v_iconst (v := 1) dX12_adds_155 (by decide) ?_
  refine v_isub dX12_adds_156 ?_
  obtain ⟨rfl, rfl⟩ := ret_use hF
  exact v_iret rfl dX12_adds_157
theorem dX12_right_0 : decode cX12_right 0 = .ok (.aload_n 0, 1) := by decide +kernel
theorem dX12_right_1 : decode cX12_right 1 = .ok (.iconst 0, 1) := by decide +kernel
theorem dX12_right_2 : decode cX12_right 2 = .ok (.putfield 208, 3) := by decide +kernel
theorem dX12_right_5 : decode cX12_right 5 = .ok (.iload_n 1, 1) := by decide +kernel
theorem dX12_right_6 : decode cX12_right 6 = .ok (.iconst 1, 1) := by decide +kernel
theorem dX12_right_7 : decode cX12_right 7 = .ok (.if_icmp .ne 15, 3) := by decide +kernel
theorem dX12_right_10 : decode cX12_right 10 = .ok (.iload_n 2, 1) := by decide +kernel
theorem dX12_right_11 : decode cX12_right 11 = .ok (.i2l, 1) := by decide +kernel
theorem dX12_right_12 : decode cX12_right 12 = .ok (.lconst 0, 1) := by decide +kernel
theorem dX12_right_13 : decode cX12_right 13 = .ok (.ldc2_w 319, 3) := by decide +kernel
theorem dX12_right_16 : decode cX12_right 16 = .ok (.invokestatic 213, 3) := by decide +kernel
theorem dX12_right_19 : decode cX12_right 19 = .ok (.goto 8, 3) := by decide +kernel
theorem dX12_right_22 : decode cX12_right 22 = .ok (.aload_n 0, 1) := by decide +kernel
theorem dX12_right_23 : decode cX12_right 23 = .ok (.iload_n 2, 1) := by decide +kernel
theorem dX12_right_24 : decode cX12_right 24 = .ok (.invokevirtual 298, 3) := by decide +kernel
theorem dX12_right_27 : decode cX12_right 27 = .ok (.istore 9, 2) := by decide +kernel
theorem dX12_right_29 : decode cX12_right 29 = .ok (.iload_n 1, 1) := by decide +kernel
theorem dX12_right_30 : decode cX12_right 30 = .ok (.i2l, 1) := by decide +kernel
theorem dX12_right_31 : decode cX12_right 31 = .ok (.lconst 0, 1) := by decide +kernel
theorem dX12_right_32 : decode cX12_right 32 = .ok (.ldc2_w 211, 3) := by decide +kernel
theorem dX12_right_35 : decode cX12_right 35 = .ok (.invokestatic 213, 3) := by decide +kernel
theorem dX12_right_38 : decode cX12_right 38 = .ok (.ifCond .eq 48, 3) := by decide +kernel
theorem dX12_right_41 : decode cX12_right 41 = .ok (.aload_n 0, 1) := by decide +kernel
theorem dX12_right_42 : decode cX12_right 42 = .ok (.iload_n 3, 1) := by decide +kernel
theorem dX12_right_43 : decode cX12_right 43 = .ok (.iload 4, 2) := by decide +kernel
theorem dX12_right_45 : decode cX12_right 45 = .ok (.iload 5, 2) := by decide +kernel
theorem dX12_right_47 : decode cX12_right 47 = .ok (.invokevirtual 307, 3) := by decide +kernel
theorem dX12_right_50 : decode cX12_right 50 = .ok (.ifCond .eq 36, 3) := by decide +kernel
theorem dX12_right_53 : decode cX12_right 53 = .ok (.iload 9, 2) := by decide +kernel
theorem dX12_right_55 : decode cX12_right 55 = .ok (.ifCond .eq 31, 3) := by decide +kernel
theorem dX12_right_58 : decode cX12_right 58 = .ok (.iload 6, 2) := by decide +kernel
theorem dX12_right_60 : decode cX12_right 60 = .ok (.i2l, 1) := by decide +kernel
theorem dX12_right_61 : decode cX12_right 61 = .ok (.lconst 0, 1) := by decide +kernel
theorem dX12_right_62 : decode cX12_right 62 = .ok (.ldc2_w 321, 3) := by decide +kernel
theorem dX12_right_65 : decode cX12_right 65 = .ok (.invokestatic 213, 3) := by decide +kernel
theorem dX12_right_68 : decode cX12_right 68 = .ok (.ifCond .eq 18, 3) := by decide +kernel
theorem dX12_right_71 : decode cX12_right 71 = .ok (.iload 7, 2) := by decide +kernel
theorem dX12_right_73 : decode cX12_right 73 = .ok (.i2l, 1) := by decide +kernel
theorem dX12_right_74 : decode cX12_right 74 = .ok (.iload 6, 2) := by decide +kernel
theorem dX12_right_76 : decode cX12_right 76 = .ok (.i2l, 1) := by decide +kernel
theorem dX12_right_77 : decode cX12_right 77 = .ok (.ldc2_w 321, 3) := by decide +kernel
theorem dX12_right_80 : decode cX12_right 80 = .ok (.invokestatic 213, 3) := by decide +kernel
theorem dX12_right_83 : decode cX12_right 83 = .ok (.ifCond .ne 6, 3) := by decide +kernel
theorem dX12_right_86 : decode cX12_right 86 = .ok (.bipush (-2), 2) := by decide +kernel
theorem dX12_right_88 : decode cX12_right 88 = .ok (.ireturn, 1) := by decide +kernel
theorem dX12_right_89 : decode cX12_right 89 = .ok (.aload_n 0, 1) := by decide +kernel
theorem dX12_right_90 : decode cX12_right 90 = .ok (.getfield 316, 3) := by decide +kernel
theorem dX12_right_93 : decode cX12_right 93 = .ok (.bipush 100, 2) := by decide +kernel
theorem dX12_right_95 : decode cX12_right 95 = .ok (.if_icmp .ne 6, 3) := by decide +kernel
theorem dX12_right_98 : decode cX12_right 98 = .ok (.bipush (-3), 2) := by decide +kernel
theorem dX12_right_100 : decode cX12_right 100 = .ok (.ireturn, 1) := by decide +kernel
theorem dX12_right_101 : decode cX12_right 101 = .ok (.aload_n 0, 1) := by decide +kernel
theorem dX12_right_102 : decode cX12_right 102 = .ok (.iload_n 1, 1) := by decide +kernel
theorem dX12_right_103 : decode cX12_right 103 = .ok (.iload_n 2, 1) := by decide +kernel
theorem dX12_right_104 : decode cX12_right 104 = .ok (.iload_n 3, 1) := by decide +kernel
theorem dX12_right_105 : decode cX12_right 105 = .ok (.iload 4, 2) := by decide +kernel
theorem dX12_right_107 : decode cX12_right 107 = .ok (.iload 5, 2) := by decide +kernel
theorem dX12_right_109 : decode cX12_right 109 = .ok (.iload 6, 2) := by decide +kernel
theorem dX12_right_111 : decode cX12_right 111 = .ok (.iload 6, 2) := by decide +kernel
theorem dX12_right_113 : decode cX12_right 113 = .ok (.iload 7, 2) := by decide +kernel
theorem dX12_right_115 : decode cX12_right 115 = .ok (.iload 8, 2) := by decide +kernel
theorem dX12_right_117 : decode cX12_right 117 = .ok (.lconst 0, 1) := by decide +kernel
theorem dX12_right_118 : decode cX12_right 118 = .ok (.invokevirtual 323, 3) := by decide +kernel
theorem dX12_right_121 : decode cX12_right 121 = .ok (.ireturn, 1) := by decide +kernel
def fX12_right (a1 : Int32) (a2 : Int32) (a3 : Int32) (a4 : Int32) (a5 : Int32) (a6 : Int32) (a7 : Int32) (a8 : Int32) (h : Hp) : Option (Int32 × Hp) := lb (sI h 12 0 0 0) (fun h1 => lb (fun (x3 : Int32) (h4 : Hp) => br ((fX12_in a1.toInt64 0 3 h4) = 0) (some ((-2), h4)) (bd (fX12_isRun a3 a4 a5 h4) (fun r5 h6 => br (r5 = 0) (some ((-2), h6)) (br (x3 = 0) (some ((-2), h6)) (br ((fX12_in a6.toInt64 0 199 h6) = 0) (some ((-2), h6)) (br ((fX12_in a7.toInt64 a6.toInt64 199 h6) = 0) (some ((-2), h6)) (br ((gI h6 12 0 9) = 100) (some ((-3), h6)) (bd (fX12_adds a1 a2 a3 a4 a5 a6 a6 a7 a8 0 h6) (fun r7 h8 => some (r7, h8)))))))))) (fun j2 => br (a1 = 1) (j2 (fX12_in a2.toInt64 0 7 h1) h1) (j2 (fX12_isHouse a2 h1) h1)))
set_option maxRecDepth 20000 in
theorem tX12_right {X : Cz} {a1 : Int32} {a2 : Int32} {a3 : Int32} {a4 : Int32} {a5 : Int32} {a6 : Int32} {a7 : Int32} {a8 : Int32} {h hE : Hp} {rE : Int32} (hF : fX12_right a1 a2 a3 a4 a5 a6 a7 a8 h = some (rE, hE)) : Ct X mX12_right true [zr 12 0, zi a1, zi a2, zi a3, zi a4, zi a5, zi a6, zi a7, zi a8] h (some (zi rE)) hE := by
  refine Ct_of (by decide) (Nat.le_of_ble_eq_true rfl) (ls := [(0, zr 12 0), (1, zi a1), (2, zi a2), (3, zi a3), (4, zi a4), (5, zi a5), (6, zi a6), (7, zi a7), (8, zi a8)]) rfl ?_
  unfold fX12_right at hF
  refine v_aload_n (j := 0) dX12_right_0 rfl ?_
  refine v_iconst (v := 0) dX12_right_1 (by decide) ?_
  refine v_putI (c := 12) rfl rfl (Nat.le_of_ble_eq_true rfl) cz12 flX12_208 dX12_right_2 ?_
  refine v_toph fun h1 eh1 => ?_
  replace hF := lb_use eh1 hF
  clear eh1
  refine v_iload_n (j := 1) dX12_right_5 rfl ?_
  refine v_iconst (v := 1) dX12_right_6 (by decide) ?_
  replace hF := lb_ex hF
  obtain ⟨j2, ej2, hF⟩ := hF
  have j2V : ∀ (x3 : Int32) (h4 : Hp), j2 x3 h4 = some (rE, hE) → V X mX12_right true h 27 [(0, zr 12 0), (1, zi a1), (2, zi a2), (3, zi a3), (4, zi a4), (5, zi a5), (6, zi a6), (7, zi a7), (8, zi a8)] [zi x3] h4 (some (zi rE)) hE := by
    intro x3 h4 hF
    subst ej2
    refine v_istore (ls' := [(9, zi x3), (0, zr 12 0), (1, zi a1), (2, zi a2), (3, zi a3), (4, zi a4), (5, zi a5), (6, zi a6), (7, zi a7), (8, zi a8)]) dX12_right_27 (by decide) rfl ?_
    refine v_iload_n (j := 2) dX12_right_29 rfl ?_
    refine v_i2l dX12_right_30 ?_
    refine v_lconst (v := 0) dX12_right_31 (by decide) ?_
    refine v_ldc2 dX12_right_32 kcX12_211 ?_
    refine v_cS (hm := h4) (av := [zj a1.toInt64, zj 0, zj 3]) (st := []) (stn := [zi (fX12_in a1.toInt64 0 3 h4)]) (tX12_in a1.toInt64 0 3 h4) lcX12_in mlX12_213 sxX12_in rfl ⟨by decide, by decide⟩ (Nat.le_of_ble_eq_true rfl) dX12_right_35 rfl rfl ?_
    refine v_if_eq dX12_right_38 (by decide : _ = ((86 : Nat) : Int)) (fun q => ?_) (fun q => ?_)
    · replace hF := brT q hF
      refine v_bipush (v := (-2)) dX12_right_86 (by decide) ?_
      obtain ⟨rfl, rfl⟩ := ret_use hF
      exact v_iret rfl dX12_right_88
    · replace hF := brF q hF
      refine v_aload_n (j := 1) dX12_right_41 rfl ?_
      refine v_iload_n (j := 4) dX12_right_42 rfl ?_
      refine v_iload (j := 5) dX12_right_43 rfl ?_
      refine v_iload (j := 6) dX12_right_45 rfl ?_
      replace hF := bd_use hF
      obtain ⟨r5, h6, er5, hF⟩ := hF
      refine v_cV (hm := h6) (av := [zi a3, zi a4, zi a5]) (st := []) (stn := [zi r5]) (tX12_isRun er5) lcX12_isRun mlX12_307 imX12_isRun seX12_isRun rfl rfl rfl rfl ⟨by decide, by decide⟩ (Nat.le_of_ble_eq_true rfl) dX12_right_47 rfl rfl ?_
      clear er5
      refine v_if_eq dX12_right_50 (by decide : _ = ((86 : Nat) : Int)) (fun q => ?_) (fun q => ?_)
      · replace hF := brT q hF
        refine v_bipush (v := (-2)) dX12_right_86 (by decide) ?_
        obtain ⟨rfl, rfl⟩ := ret_use hF
        exact v_iret rfl dX12_right_88
      · replace hF := brF q hF
        refine v_iload (j := 0) dX12_right_53 rfl ?_
        refine v_if_eq dX12_right_55 (by decide : _ = ((86 : Nat) : Int)) (fun q => ?_) (fun q => ?_)
        · replace hF := brT q hF
          refine v_bipush (v := (-2)) dX12_right_86 (by decide) ?_
          obtain ⟨rfl, rfl⟩ := ret_use hF
          exact v_iret rfl dX12_right_88
        · replace hF := brF q hF
          refine v_iload (j := 7) dX12_right_58 rfl ?_
          refine v_i2l dX12_right_60 ?_
          refine v_lconst (v := 0) dX12_right_61 (by decide) ?_
          refine v_ldc2 dX12_right_62 kcX12_321 ?_
          refine v_cS (hm := h6) (av := [zj a6.toInt64, zj 0, zj 199]) (st := []) (stn := [zi (fX12_in a6.toInt64 0 199 h6)]) (tX12_in a6.toInt64 0 199 h6) lcX12_in mlX12_213 sxX12_in rfl ⟨by decide, by decide⟩ (Nat.le_of_ble_eq_true rfl) dX12_right_65 rfl rfl ?_
          refine v_if_eq dX12_right_68 (by decide : _ = ((86 : Nat) : Int)) (fun q => ?_) (fun q => ?_)
          · replace hF := brT q hF
            refine v_bipush (v := (-2)) dX12_right_86 (by decide) ?_
            obtain ⟨rfl, rfl⟩ := ret_use hF
            exact v_iret rfl dX12_right_88
          · replace hF := brF q hF
            refine v_iload (j := 8) dX12_right_71 rfl ?_
            refine v_i2l dX12_right_73 ?_
            refine v_iload (j := 7) dX12_right_74 rfl ?_
            refine v_i2l dX12_right_76 ?_
            refine v_ldc2 dX12_right_77 kcX12_321 ?_
            refine v_cS (hm := h6) (av := [zj a7.toInt64, zj a6.toInt64, zj 199]) (st := []) (stn := [zi (fX12_in a7.toInt64 a6.toInt64 199 h6)]) (tX12_in a7.toInt64 a6.toInt64 199 h6) lcX12_in mlX12_213 sxX12_in rfl ⟨by decide, by decide⟩ (Nat.le_of_ble_eq_true rfl) dX12_right_80 rfl rfl ?_
            refine v_if_ne dX12_right_83 (by decide : _ = ((89 : Nat) : Int)) (fun q => ?_) (fun q => ?_)
            · replace hF := brF q hF
              refine v_aload_n (j := 1) dX12_right_89 rfl ?_
              refine v_getI (c := 12) rfl (Or.inl rfl) cz12 flX12_316 dX12_right_90 ?_
              refine v_bipush (v := 100) dX12_right_93 (by decide) ?_
              refine v_icmp_ne dX12_right_95 (by decide : _ = ((101 : Nat) : Int)) (fun q => ?_) (fun q => ?_)
              · replace hF := brF q hF
                refine v_aload_n (j := 1) dX12_right_101 rfl ?_
                refine v_iload_n (j := 2) dX12_right_102 rfl ?_
                refine v_iload_n (j := 3) dX12_right_103 rfl ?_
                refine v_iload_n (j := 4) dX12_right_104 rfl ?_
                refine v_iload (j := 5) dX12_right_105 rfl ?_
                refine v_iload (j := 6) dX12_right_107 rfl ?_
                refine v_iload (j := 7) dX12_right_109 rfl ?_
                refine v_iload (j := 7) dX12_right_111 rfl ?_
                refine v_iload (j := 8) dX12_right_113 rfl ?_
                refine v_iload (j := 9) dX12_right_115 rfl ?_
                refine v_lconst (v := 0) dX12_right_117 (by decide) ?_
                replace hF := bd_use hF
                obtain ⟨r7, h8, er7, hF⟩ := hF
                refine v_cV (hm := h8) (av := [zi a1, zi a2, zi a3, zi a4, zi a5, zi a6, zi a6, zi a7, zi a8, zj 0]) (st := []) (stn := [zi r7]) (tX12_adds er7) lcX12_adds mlX12_323 imX12_adds seX12_adds rfl rfl rfl rfl ⟨by decide, by decide⟩ (Nat.le_of_ble_eq_true rfl) dX12_right_118 rfl rfl ?_
                clear er7
                obtain ⟨rfl, rfl⟩ := ret_use hF
                exact v_iret rfl dX12_right_121
              · replace hF := brT (Decidable.not_not.mp q) hF
                refine v_bipush (v := (-3)) dX12_right_98 (by decide) ?_
                obtain ⟨rfl, rfl⟩ := ret_use hF
                exact v_iret rfl dX12_right_100
            · replace hF := brT (Decidable.not_not.mp q) hF
              refine v_bipush (v := (-2)) dX12_right_86 (by decide) ?_
              obtain ⟨rfl, rfl⟩ := ret_use hF
              exact v_iret rfl dX12_right_88
  clear ej2
  refine v_icmp_ne dX12_right_7 (by decide : _ = ((22 : Nat) : Int)) (fun q => ?_) (fun q => ?_)
  · replace hF := brF q hF
    refine v_aload_n (j := 0) dX12_right_22 rfl ?_
    refine v_iload_n (j := 2) dX12_right_23 rfl ?_
    refine v_cV (hm := h1) (av := [zi a2]) (st := []) (stn := [zi (fX12_isHouse a2 h1)]) (tX12_isHouse a2 h1) lcX12_isHouse mlX12_298 imX12_isHouse seX12_isHouse rfl rfl rfl rfl ⟨by decide, by decide⟩ (Nat.le_of_ble_eq_true rfl) dX12_right_24 rfl rfl ?_
    exact j2V (fX12_isHouse a2 h1) h1 hF
  · replace hF := brT (Decidable.not_not.mp q) hF
    refine v_iload_n (j := 2) dX12_right_10 rfl ?_
    refine v_i2l dX12_right_11 ?_
    refine v_lconst (v := 0) dX12_right_12 (by decide) ?_
    refine v_ldc2 dX12_right_13 kcX12_319 ?_
    refine v_cS (hm := h1) (av := [zj a2.toInt64, zj 0, zj 7]) (st := []) (stn := [zi (fX12_in a2.toInt64 0 7 h1)]) (tX12_in a2.toInt64 0 7 h1) lcX12_in mlX12_213 sxX12_in rfl ⟨by decide, by decide⟩ (Nat.le_of_ble_eq_true rfl) dX12_right_16 rfl rfl ?_
    refine v_goto (tgt := 27) dX12_right_19 (by decide) ?_
    exact j2V (fX12_in a2.toInt64 0 7 h1) h1 hF
theorem dX12_stops_0 : decode cX12_stops 0 = .ok (.aload_n 0, 1) := by decide +kernel
theorem dX12_stops_1 : decode cX12_stops 1 = .ok (.getfield 97, 3) := by decide +kernel
theorem dX12_stops_4 : decode cX12_stops 4 = .ok (.iload_n 1, 1) := by decide +kernel
theorem dX12_stops_5 : decode cX12_stops 5 = .ok (.aload_n 0, 1) := by decide +kernel
theorem dX12_stops_6 : decode cX12_stops 6 = .ok (.getfield 251, 3) := by decide +kernel
theorem dX12_stops_9 : decode cX12_stops 9 = .ok (.iconst 1, 1) := by decide +kernel
theorem dX12_stops_10 : decode cX12_stops 10 = .ok (.isub, 1) := by decide +kernel
theorem dX12_stops_11 : decode cX12_stops 11 = .ok (.iastore, 1) := by decide +kernel
theorem dX12_stops_12 : decode cX12_stops 12 = .ok (.aload_n 0, 1) := by decide +kernel
theorem dX12_stops_13 : decode cX12_stops 13 = .ok (.getfield 103, 3) := by decide +kernel
theorem dX12_stops_16 : decode cX12_stops 16 = .ok (.iload_n 1, 1) := by decide +kernel
theorem dX12_stops_17 : decode cX12_stops 17 = .ok (.aload_n 0, 1) := by decide +kernel
theorem dX12_stops_18 : decode cX12_stops 18 = .ok (.getfield 251, 3) := by decide +kernel
theorem dX12_stops_21 : decode cX12_stops 21 = .ok (.iastore, 1) := by decide +kernel
theorem dX12_stops_22 : decode cX12_stops 22 = .ok (.return_, 1) := by decide +kernel
def fX12_stops (a1 : Int32) (h : Hp) : Option (Unit × Hp) := gd (ib a1 100) (lb (sI h 77 0 (ix a1) ((gI h 12 0 5) - 1)) (fun h2 => gd (ib a1 100) (lb (sI h2 79 0 (ix a1) (gI h2 12 0 5)) (fun h4 => some ((), h4)))))
set_option maxRecDepth 20000 in
theorem tX12_stops {X : Cz} {a1 : Int32} {h hE : Hp} {rE : Unit} (hF : fX12_stops a1 h = some (rE, hE)) : Ct X mX12_stops true [zr 12 0, zi a1] h (none) hE := by
  refine Ct_of (by decide) (Nat.le_of_ble_eq_true rfl) (ls := [(0, zr 12 0), (1, zi a1)]) rfl ?_
  unfold fX12_stops at hF
  refine v_aload_n (j := 0) dX12_stops_0 rfl ?_
  refine v_getL (c := 12) rfl rfl rfl ly12_37 cz12 flX12_97 dX12_stops_1 ?_
  refine v_iload_n (j := 1) dX12_stops_4 rfl ?_
  refine v_aload_n (j := 0) dX12_stops_5 rfl ?_
  refine v_getI (c := 12) rfl (Or.inl rfl) cz12 flX12_251 dX12_stops_6 ?_
  refine v_iconst (v := 1) dX12_stops_9 (by decide) ?_
  refine v_isub dX12_stops_10 ?_
  replace hF := gd_use hF
  obtain ⟨q1, hF⟩ := hF
  refine v_iast rfl q1 dX12_stops_11 ?_
  refine v_toph fun h2 eh2 => ?_
  replace hF := lb_use eh2 hF
  clear eh2
  refine v_aload_n (j := 0) dX12_stops_12 rfl ?_
  refine v_getL (c := 12) rfl rfl rfl ly12_39 cz12 flX12_103 dX12_stops_13 ?_
  refine v_iload_n (j := 1) dX12_stops_16 rfl ?_
  refine v_aload_n (j := 0) dX12_stops_17 rfl ?_
  refine v_getI (c := 12) rfl (Or.inl rfl) cz12 flX12_251 dX12_stops_18 ?_
  replace hF := gd_use hF
  obtain ⟨q3, hF⟩ := hF
  refine v_iast rfl q3 dX12_stops_21 ?_
  refine v_toph fun h4 eh4 => ?_
  replace hF := lb_use eh4 hF
  clear eh4
  cases hF
  exact v_vret rfl dX12_stops_22
theorem dX12_ends_0 : decode cX12_ends 0 = .ok (.aload_n 0, 1) := by decide +kernel
theorem dX12_ends_1 : decode cX12_ends 1 = .ok (.iconst 0, 1) := by decide +kernel
theorem dX12_ends_2 : decode cX12_ends 2 = .ok (.putfield 208, 3) := by decide +kernel
theorem dX12_ends_5 : decode cX12_ends 5 = .ok (.iload_n 1, 1) := by decide +kernel
theorem dX12_ends_6 : decode cX12_ends 6 = .ok (.i2l, 1) := by decide +kernel
theorem dX12_ends_7 : decode cX12_ends 7 = .ok (.lconst 0, 1) := by decide +kernel
theorem dX12_ends_8 : decode cX12_ends 8 = .ok (.aload_n 0, 1) := by decide +kernel
theorem dX12_ends_9 : decode cX12_ends 9 = .ok (.getfield 316, 3) := by decide +kernel
theorem dX12_ends_12 : decode cX12_ends 12 = .ok (.iconst 1, 1) := by decide +kernel
theorem dX12_ends_13 : decode cX12_ends 13 = .ok (.isub, 1) := by decide +kernel
theorem dX12_ends_14 : decode cX12_ends 14 = .ok (.i2l, 1) := by decide +kernel
theorem dX12_ends_15 : decode cX12_ends 15 = .ok (.invokestatic 213, 3) := by decide +kernel
theorem dX12_ends_18 : decode cX12_ends 18 = .ok (.ifCond .eq 16, 3) := by decide +kernel
theorem dX12_ends_21 : decode cX12_ends 21 = .ok (.aload_n 0, 1) := by decide +kernel
theorem dX12_ends_22 : decode cX12_ends 22 = .ok (.getfield 97, 3) := by decide +kernel
theorem dX12_ends_25 : decode cX12_ends 25 = .ok (.iload_n 1, 1) := by decide +kernel
theorem dX12_ends_26 : decode cX12_ends 26 = .ok (.iaload, 1) := by decide +kernel
theorem dX12_ends_27 : decode cX12_ends 27 = .ok (.aload_n 0, 1) := by decide +kernel
theorem dX12_ends_28 : decode cX12_ends 28 = .ok (.getfield 251, 3) := by decide +kernel
theorem dX12_ends_31 : decode cX12_ends 31 = .ok (.if_icmp .ge 5, 3) := by decide +kernel
theorem dX12_ends_34 : decode cX12_ends 34 = .ok (.iconst 0, 1) := by decide +kernel
theorem dX12_ends_35 : decode cX12_ends 35 = .ok (.ireturn, 1) := by decide +kernel
theorem dX12_ends_36 : decode cX12_ends 36 = .ok (.aload_n 0, 1) := by decide +kernel
theorem dX12_ends_37 : decode cX12_ends 37 = .ok (.iload_n 1, 1) := by decide +kernel
theorem dX12_ends_38 : decode cX12_ends 38 = .ok (.invokevirtual 327, 3) := by decide +kernel
theorem dX12_ends_41 : decode cX12_ends 41 = .ok (.iconst 1, 1) := by decide +kernel
theorem dX12_ends_42 : decode cX12_ends 42 = .ok (.ireturn, 1) := by decide +kernel
def fX12_ends (a1 : Int32) (h : Hp) : Option (Int32 × Hp) := lb (sI h 12 0 0 0) (fun h1 => br ((fX12_in a1.toInt64 0 (((gI h1 12 0 9) - 1).toInt64) h1) = 0) (some (0, h1)) (gd (ib a1 100) (br ((gI h1 12 0 5) ≤ (gI h1 77 0 (ix a1))) (bd (fX12_stops a1 h1) (fun r3 h4 => some (1, h4))) (some (0, h1)))))
set_option maxRecDepth 20000 in
theorem tX12_ends {X : Cz} {a1 : Int32} {h hE : Hp} {rE : Int32} (hF : fX12_ends a1 h = some (rE, hE)) : Ct X mX12_ends true [zr 12 0, zi a1] h (some (zi rE)) hE := by
  refine Ct_of (by decide) (Nat.le_of_ble_eq_true rfl) (ls := [(0, zr 12 0), (1, zi a1)]) rfl ?_
  unfold fX12_ends at hF
  refine v_aload_n (j := 0) dX12_ends_0 rfl ?_
  refine v_iconst (v := 0) dX12_ends_1 (by decide) ?_
  refine v_putI (c := 12) rfl rfl (Nat.le_of_ble_eq_true rfl) cz12 flX12_208 dX12_ends_2 ?_
  refine v_toph fun h1 eh1 => ?_
  replace hF := lb_use eh1 hF
  clear eh1
  refine v_iload_n (j := 1) dX12_ends_5 rfl ?_
  refine v_i2l dX12_ends_6 ?_
  refine v_lconst (v := 0) dX12_ends_7 (by decide) ?_
  refine v_aload_n (j := 0) dX12_ends_8 rfl ?_
  refine v_getI (c := 12) rfl (Or.inl rfl) cz12 flX12_316 dX12_ends_9 ?_
  refine v_iconst (v := 1) dX12_ends_12 (by decide) ?_
  refine v_isub dX12_ends_13 ?_
  refine v_i2l dX12_ends_14 ?_
  refine v_cS (hm := h1) (av := [zj a1.toInt64, zj 0, zj (((gI h1 12 0 9) - 1).toInt64)]) (st := []) (stn := [zi (fX12_in a1.toInt64 0 (((gI h1 12 0 9) - 1).toInt64) h1)]) (tX12_in a1.toInt64 0 (((gI h1 12 0 9) - 1).toInt64) h1) lcX12_in mlX12_213 sxX12_in rfl ⟨by decide, by decide⟩ (Nat.le_of_ble_eq_true rfl) dX12_ends_15 rfl rfl ?_
  refine v_if_eq dX12_ends_18 (by decide : _ = ((34 : Nat) : Int)) (fun q => ?_) (fun q => ?_)
  · replace hF := brT q hF
    refine v_iconst (v := 0) dX12_ends_34 (by decide) ?_
    obtain ⟨rfl, rfl⟩ := ret_use hF
    exact v_zret rfl (Or.inl rfl) dX12_ends_35
  · replace hF := brF q hF
    refine v_aload_n (j := 0) dX12_ends_21 rfl ?_
    refine v_getL (c := 12) rfl rfl rfl ly12_37 cz12 flX12_97 dX12_ends_22 ?_
    refine v_iload_n (j := 1) dX12_ends_25 rfl ?_
    replace hF := gd_use hF
    obtain ⟨q2, hF⟩ := hF
    refine v_iald rfl q2 dX12_ends_26 ?_
    refine v_aload_n (j := 0) dX12_ends_27 rfl ?_
    refine v_getI (c := 12) rfl (Or.inl rfl) cz12 flX12_251 dX12_ends_28 ?_
    refine v_icmp_ge dX12_ends_31 (by decide : _ = ((36 : Nat) : Int)) (fun q => ?_) (fun q => ?_)
    · replace hF := brT q hF
      refine v_aload_n (j := 0) dX12_ends_36 rfl ?_
      refine v_iload_n (j := 1) dX12_ends_37 rfl ?_
      replace hF := bd_use hF
      obtain ⟨r3, h4, er3, hF⟩ := hF
      refine v_cV (hm := h4) (av := [zi a1]) (st := []) (stn := []) (tX12_stops er3) lcX12_stops mlX12_327 imX12_stops seX12_stops rfl rfl rfl rfl ⟨by decide, by decide⟩ (Nat.le_of_ble_eq_true rfl) dX12_ends_38 rfl rfl ?_
      clear er3
      refine v_iconst (v := 1) dX12_ends_41 (by decide) ?_
      obtain ⟨rfl, rfl⟩ := ret_use hF
      exact v_zret rfl (Or.inr rfl) dX12_ends_42
    · replace hF := brF q hF
      refine v_iconst (v := 0) dX12_ends_34 (by decide) ?_
      obtain ⟨rfl, rfl⟩ := ret_use hF
      exact v_zret rfl (Or.inl rfl) dX12_ends_35
theorem dX12_rightOf_0 : decode cX12_rightOf 0 = .ok (.aload_n 0, 1) := by decide +kernel
theorem dX12_rightOf_1 : decode cX12_rightOf 1 = .ok (.iconst 0, 1) := by decide +kernel
theorem dX12_rightOf_2 : decode cX12_rightOf 2 = .ok (.putfield 208, 3) := by decide +kernel
theorem dX12_rightOf_5 : decode cX12_rightOf 5 = .ok (.iload_n 1, 1) := by decide +kernel
theorem dX12_rightOf_6 : decode cX12_rightOf 6 = .ok (.i2l, 1) := by decide +kernel
theorem dX12_rightOf_7 : decode cX12_rightOf 7 = .ok (.lconst 0, 1) := by decide +kernel
theorem dX12_rightOf_8 : decode cX12_rightOf 8 = .ok (.aload_n 0, 1) := by decide +kernel
theorem dX12_rightOf_9 : decode cX12_rightOf 9 = .ok (.getfield 316, 3) := by decide +kernel
theorem dX12_rightOf_12 : decode cX12_rightOf 12 = .ok (.iconst 1, 1) := by decide +kernel
theorem dX12_rightOf_13 : decode cX12_rightOf 13 = .ok (.isub, 1) := by decide +kernel
theorem dX12_rightOf_14 : decode cX12_rightOf 14 = .ok (.i2l, 1) := by decide +kernel
theorem dX12_rightOf_15 : decode cX12_rightOf 15 = .ok (.invokestatic 213, 3) := by decide +kernel
theorem dX12_rightOf_18 : decode cX12_rightOf 18 = .ok (.ifCond .ne 6, 3) := by decide +kernel
theorem dX12_rightOf_21 : decode cX12_rightOf 21 = .ok (.bipush (-2), 2) := by decide +kernel
theorem dX12_rightOf_23 : decode cX12_rightOf 23 = .ok (.ireturn, 1) := by decide +kernel
theorem dX12_rightOf_24 : decode cX12_rightOf 24 = .ok (.iload_n 2, 1) := by decide +kernel
theorem dX12_rightOf_25 : decode cX12_rightOf 25 = .ok (.tableswitch 134 0 9 #[55, 62, 69, 76, 83, 90, 97, 104, 111, 126], 55) := by decide +kernel
theorem dX12_rightOf_80 : decode cX12_rightOf 80 = .ok (.aload_n 0, 1) := by decide +kernel
theorem dX12_rightOf_81 : decode cX12_rightOf 81 = .ok (.getfield 76, 3) := by decide +kernel
theorem dX12_rightOf_84 : decode cX12_rightOf 84 = .ok (.iload_n 1, 1) := by decide +kernel
theorem dX12_rightOf_85 : decode cX12_rightOf 85 = .ok (.iaload, 1) := by decide +kernel
theorem dX12_rightOf_86 : decode cX12_rightOf 86 = .ok (.ireturn, 1) := by decide +kernel
theorem dX12_rightOf_87 : decode cX12_rightOf 87 = .ok (.aload_n 0, 1) := by decide +kernel
theorem dX12_rightOf_88 : decode cX12_rightOf 88 = .ok (.getfield 79, 3) := by decide +kernel
theorem dX12_rightOf_91 : decode cX12_rightOf 91 = .ok (.iload_n 1, 1) := by decide +kernel
theorem dX12_rightOf_92 : decode cX12_rightOf 92 = .ok (.iaload, 1) := by decide +kernel
theorem dX12_rightOf_93 : decode cX12_rightOf 93 = .ok (.ireturn, 1) := by decide +kernel
theorem dX12_rightOf_94 : decode cX12_rightOf 94 = .ok (.aload_n 0, 1) := by decide +kernel
theorem dX12_rightOf_95 : decode cX12_rightOf 95 = .ok (.getfield 82, 3) := by decide +kernel
theorem dX12_rightOf_98 : decode cX12_rightOf 98 = .ok (.iload_n 1, 1) := by decide +kernel
theorem dX12_rightOf_99 : decode cX12_rightOf 99 = .ok (.iaload, 1) := by decide +kernel
theorem dX12_rightOf_100 : decode cX12_rightOf 100 = .ok (.ireturn, 1) := by decide +kernel
theorem dX12_rightOf_101 : decode cX12_rightOf 101 = .ok (.aload_n 0, 1) := by decide +kernel
theorem dX12_rightOf_102 : decode cX12_rightOf 102 = .ok (.getfield 85, 3) := by decide +kernel
theorem dX12_rightOf_105 : decode cX12_rightOf 105 = .ok (.iload_n 1, 1) := by decide +kernel
theorem dX12_rightOf_106 : decode cX12_rightOf 106 = .ok (.iaload, 1) := by decide +kernel
theorem dX12_rightOf_107 : decode cX12_rightOf 107 = .ok (.ireturn, 1) := by decide +kernel
theorem dX12_rightOf_108 : decode cX12_rightOf 108 = .ok (.aload_n 0, 1) := by decide +kernel
theorem dX12_rightOf_109 : decode cX12_rightOf 109 = .ok (.getfield 88, 3) := by decide +kernel
theorem dX12_rightOf_112 : decode cX12_rightOf 112 = .ok (.iload_n 1, 1) := by decide +kernel
theorem dX12_rightOf_113 : decode cX12_rightOf 113 = .ok (.iaload, 1) := by decide +kernel
theorem dX12_rightOf_114 : decode cX12_rightOf 114 = .ok (.ireturn, 1) := by decide +kernel
theorem dX12_rightOf_115 : decode cX12_rightOf 115 = .ok (.aload_n 0, 1) := by decide +kernel
theorem dX12_rightOf_116 : decode cX12_rightOf 116 = .ok (.getfield 91, 3) := by decide +kernel
theorem dX12_rightOf_119 : decode cX12_rightOf 119 = .ok (.iload_n 1, 1) := by decide +kernel
theorem dX12_rightOf_120 : decode cX12_rightOf 120 = .ok (.iaload, 1) := by decide +kernel
theorem dX12_rightOf_121 : decode cX12_rightOf 121 = .ok (.ireturn, 1) := by decide +kernel
theorem dX12_rightOf_122 : decode cX12_rightOf 122 = .ok (.aload_n 0, 1) := by decide +kernel
theorem dX12_rightOf_123 : decode cX12_rightOf 123 = .ok (.getfield 97, 3) := by decide +kernel
theorem dX12_rightOf_126 : decode cX12_rightOf 126 = .ok (.iload_n 1, 1) := by decide +kernel
theorem dX12_rightOf_127 : decode cX12_rightOf 127 = .ok (.iaload, 1) := by decide +kernel
theorem dX12_rightOf_128 : decode cX12_rightOf 128 = .ok (.ireturn, 1) := by decide +kernel
theorem dX12_rightOf_129 : decode cX12_rightOf 129 = .ok (.aload_n 0, 1) := by decide +kernel
theorem dX12_rightOf_130 : decode cX12_rightOf 130 = .ok (.getfield 106, 3) := by decide +kernel
theorem dX12_rightOf_133 : decode cX12_rightOf 133 = .ok (.iload_n 1, 1) := by decide +kernel
theorem dX12_rightOf_134 : decode cX12_rightOf 134 = .ok (.iaload, 1) := by decide +kernel
theorem dX12_rightOf_135 : decode cX12_rightOf 135 = .ok (.ireturn, 1) := by decide +kernel
theorem dX12_rightOf_136 : decode cX12_rightOf 136 = .ok (.aload_n 0, 1) := by decide +kernel
theorem dX12_rightOf_137 : decode cX12_rightOf 137 = .ok (.getfield 109, 3) := by decide +kernel
theorem dX12_rightOf_140 : decode cX12_rightOf 140 = .ok (.iload_n 1, 1) := by decide +kernel
theorem dX12_rightOf_141 : decode cX12_rightOf 141 = .ok (.baload, 1) := by decide +kernel
theorem dX12_rightOf_142 : decode cX12_rightOf 142 = .ok (.ifCond .eq 7, 3) := by decide +kernel
theorem dX12_rightOf_145 : decode cX12_rightOf 145 = .ok (.iconst 1, 1) := by decide +kernel
theorem dX12_rightOf_146 : decode cX12_rightOf 146 = .ok (.goto 4, 3) := by decide +kernel
theorem dX12_rightOf_149 : decode cX12_rightOf 149 = .ok (.iconst 0, 1) := by decide +kernel
theorem dX12_rightOf_150 : decode cX12_rightOf 150 = .ok (.ireturn, 1) := by decide +kernel
theorem dX12_rightOf_151 : decode cX12_rightOf 151 = .ok (.aload_n 0, 1) := by decide +kernel
theorem dX12_rightOf_152 : decode cX12_rightOf 152 = .ok (.getfield 112, 3) := by decide +kernel
theorem dX12_rightOf_155 : decode cX12_rightOf 155 = .ok (.iload_n 1, 1) := by decide +kernel
theorem dX12_rightOf_156 : decode cX12_rightOf 156 = .ok (.laload, 1) := by decide +kernel
theorem dX12_rightOf_157 : decode cX12_rightOf 157 = .ok (.l2i, 1) := by decide +kernel
theorem dX12_rightOf_158 : decode cX12_rightOf 158 = .ok (.ireturn, 1) := by decide +kernel
theorem dX12_rightOf_159 : decode cX12_rightOf 159 = .ok (.bipush (-2), 2) := by decide +kernel
theorem dX12_rightOf_161 : decode cX12_rightOf 161 = .ok (.ireturn, 1) := by decide +kernel
def fX12_rightOf (a1 : Int32) (a2 : Int32) (h : Hp) : Option (Int32 × Hp) := lb (sI h 12 0 0 0) (fun h1 => br ((fX12_in a1.toInt64 0 (((gI h1 12 0 9) - 1).toInt64) h1) = 0) (some ((-2), h1)) (br (a2 = 0) (gd (ib a1 100) (some (gI h1 70 0 (ix a1), h1))) (br (a2 = 1) (gd (ib a1 100) (some (gI h1 71 0 (ix a1), h1))) (br (a2 = 2) (gd (ib a1 100) (some (gI h1 72 0 (ix a1), h1))) (br (a2 = 3) (gd (ib a1 100) (some (gI h1 73 0 (ix a1), h1))) (br (a2 = 4) (gd (ib a1 100) (some (gI h1 74 0 (ix a1), h1))) (br (a2 = 5) (gd (ib a1 100) (some (gI h1 75 0 (ix a1), h1))) (br (a2 = 6) (gd (ib a1 100) (some (gI h1 77 0 (ix a1), h1))) (br (a2 = 7) (gd (ib a1 100) (some (gI h1 80 0 (ix a1), h1))) (br (a2 = 8) (gd (ib a1 100) (br ((gI h1 81 0 (ix a1)) = 0) (some (0, h1)) (some (1, h1)))) (br (a2 = 9) (gd (ib a1 100) (some ((gJ h1 82 0 (ix a1)).toInt32, h1))) (some ((-2), h1)))))))))))))
set_option maxRecDepth 20000 in
theorem tX12_rightOf {X : Cz} {a1 : Int32} {a2 : Int32} {h hE : Hp} {rE : Int32} (hF : fX12_rightOf a1 a2 h = some (rE, hE)) : Ct X mX12_rightOf true [zr 12 0, zi a1, zi a2] h (some (zi rE)) hE := by
  refine Ct_of (by decide) (Nat.le_of_ble_eq_true rfl) (ls := [(0, zr 12 0), (1, zi a1), (2, zi a2)]) rfl ?_
  unfold fX12_rightOf at hF
  refine v_aload_n (j := 0) dX12_rightOf_0 rfl ?_
  refine v_iconst (v := 0) dX12_rightOf_1 (by decide) ?_
  refine v_putI (c := 12) rfl rfl (Nat.le_of_ble_eq_true rfl) cz12 flX12_208 dX12_rightOf_2 ?_
  refine v_toph fun h1 eh1 => ?_
  replace hF := lb_use eh1 hF
  clear eh1
  refine v_iload_n (j := 1) dX12_rightOf_5 rfl ?_
  refine v_i2l dX12_rightOf_6 ?_
  refine v_lconst (v := 0) dX12_rightOf_7 (by decide) ?_
  refine v_aload_n (j := 0) dX12_rightOf_8 rfl ?_
  refine v_getI (c := 12) rfl (Or.inl rfl) cz12 flX12_316 dX12_rightOf_9 ?_
  refine v_iconst (v := 1) dX12_rightOf_12 (by decide) ?_
  refine v_isub dX12_rightOf_13 ?_
  refine v_i2l dX12_rightOf_14 ?_
  refine v_cS (hm := h1) (av := [zj a1.toInt64, zj 0, zj (((gI h1 12 0 9) - 1).toInt64)]) (st := []) (stn := [zi (fX12_in a1.toInt64 0 (((gI h1 12 0 9) - 1).toInt64) h1)]) (tX12_in a1.toInt64 0 (((gI h1 12 0 9) - 1).toInt64) h1) lcX12_in mlX12_213 sxX12_in rfl ⟨by decide, by decide⟩ (Nat.le_of_ble_eq_true rfl) dX12_rightOf_15 rfl rfl ?_
  refine v_if_ne dX12_rightOf_18 (by decide : _ = ((24 : Nat) : Int)) (fun q => ?_) (fun q => ?_)
  · replace hF := brF q hF
    refine v_iload_n (j := 2) dX12_rightOf_24 rfl ?_
    by_cases q0 : a2 = 0
    · replace hF := brT q0 hF
      subst q0
      refine v_tblIn (tgt := 80) dX12_rightOf_25 (by decide) (by decide) rfl (by decide) ?_
      refine v_aload_n (j := 0) dX12_rightOf_80 rfl ?_
      refine v_getL (c := 12) rfl rfl rfl ly12_30 cz12 flX12_76 dX12_rightOf_81 ?_
      refine v_iload_n (j := 1) dX12_rightOf_84 rfl ?_
      replace hF := gd_use hF
      obtain ⟨q2, hF⟩ := hF
      refine v_iald rfl q2 dX12_rightOf_85 ?_
      obtain ⟨rfl, rfl⟩ := ret_use hF
      exact v_iret rfl dX12_rightOf_86
    replace hF := brF q0 hF
    by_cases q1 : a2 = 1
    · replace hF := brT q1 hF
      subst q1
      refine v_tblIn (tgt := 87) dX12_rightOf_25 (by decide) (by decide) rfl (by decide) ?_
      refine v_aload_n (j := 0) dX12_rightOf_87 rfl ?_
      refine v_getL (c := 12) rfl rfl rfl ly12_31 cz12 flX12_79 dX12_rightOf_88 ?_
      refine v_iload_n (j := 1) dX12_rightOf_91 rfl ?_
      replace hF := gd_use hF
      obtain ⟨q3, hF⟩ := hF
      refine v_iald rfl q3 dX12_rightOf_92 ?_
      obtain ⟨rfl, rfl⟩ := ret_use hF
      exact v_iret rfl dX12_rightOf_93
    replace hF := brF q1 hF
    by_cases q2 : a2 = 2
    · replace hF := brT q2 hF
      subst q2
      refine v_tblIn (tgt := 94) dX12_rightOf_25 (by decide) (by decide) rfl (by decide) ?_
      refine v_aload_n (j := 0) dX12_rightOf_94 rfl ?_
      refine v_getL (c := 12) rfl rfl rfl ly12_32 cz12 flX12_82 dX12_rightOf_95 ?_
      refine v_iload_n (j := 1) dX12_rightOf_98 rfl ?_
      replace hF := gd_use hF
      obtain ⟨q4, hF⟩ := hF
      refine v_iald rfl q4 dX12_rightOf_99 ?_
      obtain ⟨rfl, rfl⟩ := ret_use hF
      exact v_iret rfl dX12_rightOf_100
    replace hF := brF q2 hF
    by_cases q3 : a2 = 3
    · replace hF := brT q3 hF
      subst q3
      refine v_tblIn (tgt := 101) dX12_rightOf_25 (by decide) (by decide) rfl (by decide) ?_
      refine v_aload_n (j := 0) dX12_rightOf_101 rfl ?_
      refine v_getL (c := 12) rfl rfl rfl ly12_33 cz12 flX12_85 dX12_rightOf_102 ?_
      refine v_iload_n (j := 1) dX12_rightOf_105 rfl ?_
      replace hF := gd_use hF
      obtain ⟨q5, hF⟩ := hF
      refine v_iald rfl q5 dX12_rightOf_106 ?_
      obtain ⟨rfl, rfl⟩ := ret_use hF
      exact v_iret rfl dX12_rightOf_107
    replace hF := brF q3 hF
    by_cases q4 : a2 = 4
    · replace hF := brT q4 hF
      subst q4
      refine v_tblIn (tgt := 108) dX12_rightOf_25 (by decide) (by decide) rfl (by decide) ?_
      refine v_aload_n (j := 0) dX12_rightOf_108 rfl ?_
      refine v_getL (c := 12) rfl rfl rfl ly12_34 cz12 flX12_88 dX12_rightOf_109 ?_
      refine v_iload_n (j := 1) dX12_rightOf_112 rfl ?_
      replace hF := gd_use hF
      obtain ⟨q6, hF⟩ := hF
      refine v_iald rfl q6 dX12_rightOf_113 ?_
      obtain ⟨rfl, rfl⟩ := ret_use hF
      exact v_iret rfl dX12_rightOf_114
    replace hF := brF q4 hF
    by_cases q5 : a2 = 5
    · replace hF := brT q5 hF
      subst q5
      refine v_tblIn (tgt := 115) dX12_rightOf_25 (by decide) (by decide) rfl (by decide) ?_
      refine v_aload_n (j := 0) dX12_rightOf_115 rfl ?_
      refine v_getL (c := 12) rfl rfl rfl ly12_35 cz12 flX12_91 dX12_rightOf_116 ?_
      refine v_iload_n (j := 1) dX12_rightOf_119 rfl ?_
      replace hF := gd_use hF
      obtain ⟨q7, hF⟩ := hF
      refine v_iald rfl q7 dX12_rightOf_120 ?_
      obtain ⟨rfl, rfl⟩ := ret_use hF
      exact v_iret rfl dX12_rightOf_121
    replace hF := brF q5 hF
    by_cases q6 : a2 = 6
    · replace hF := brT q6 hF
      subst q6
      refine v_tblIn (tgt := 122) dX12_rightOf_25 (by decide) (by decide) rfl (by decide) ?_
      refine v_aload_n (j := 0) dX12_rightOf_122 rfl ?_
      refine v_getL (c := 12) rfl rfl rfl ly12_37 cz12 flX12_97 dX12_rightOf_123 ?_
      refine v_iload_n (j := 1) dX12_rightOf_126 rfl ?_
      replace hF := gd_use hF
      obtain ⟨q8, hF⟩ := hF
      refine v_iald rfl q8 dX12_rightOf_127 ?_
      obtain ⟨rfl, rfl⟩ := ret_use hF
      exact v_iret rfl dX12_rightOf_128
    replace hF := brF q6 hF
    by_cases q7 : a2 = 7
    · replace hF := brT q7 hF
      subst q7
      refine v_tblIn (tgt := 129) dX12_rightOf_25 (by decide) (by decide) rfl (by decide) ?_
      refine v_aload_n (j := 0) dX12_rightOf_129 rfl ?_
      refine v_getL (c := 12) rfl rfl rfl ly12_40 cz12 flX12_106 dX12_rightOf_130 ?_
      refine v_iload_n (j := 1) dX12_rightOf_133 rfl ?_
      replace hF := gd_use hF
      obtain ⟨q9, hF⟩ := hF
      refine v_iald rfl q9 dX12_rightOf_134 ?_
      obtain ⟨rfl, rfl⟩ := ret_use hF
      exact v_iret rfl dX12_rightOf_135
    replace hF := brF q7 hF
    by_cases q8 : a2 = 8
    · replace hF := brT q8 hF
      subst q8
      refine v_tblIn (tgt := 136) dX12_rightOf_25 (by decide) (by decide) rfl (by decide) ?_
      refine v_aload_n (j := 0) dX12_rightOf_136 rfl ?_
      refine v_getL (c := 12) rfl rfl rfl ly12_41 cz12 flX12_109 dX12_rightOf_137 ?_
      refine v_iload_n (j := 1) dX12_rightOf_140 rfl ?_
      replace hF := gd_use hF
      obtain ⟨q10, hF⟩ := hF
      refine v_zald rfl q10 dX12_rightOf_141 ?_
      refine v_if_eq dX12_rightOf_142 (by decide : _ = ((149 : Nat) : Int)) (fun q => ?_) (fun q => ?_)
      · replace hF := brT q hF
        refine v_iconst (v := 0) dX12_rightOf_149 (by decide) ?_
        obtain ⟨rfl, rfl⟩ := ret_use hF
        exact v_iret rfl dX12_rightOf_150
      · replace hF := brF q hF
        refine v_iconst (v := 1) dX12_rightOf_145 (by decide) ?_
        refine v_goto (tgt := 150) dX12_rightOf_146 (by decide) ?_
        obtain ⟨rfl, rfl⟩ := ret_use hF
        exact v_iret rfl dX12_rightOf_150
    replace hF := brF q8 hF
    by_cases q9 : a2 = 9
    · replace hF := brT q9 hF
      subst q9
      refine v_tblIn (tgt := 151) dX12_rightOf_25 (by decide) (by decide) rfl (by decide) ?_
      refine v_aload_n (j := 0) dX12_rightOf_151 rfl ?_
      refine v_getL (c := 12) rfl rfl rfl ly12_42 cz12 flX12_112 dX12_rightOf_152 ?_
      refine v_iload_n (j := 1) dX12_rightOf_155 rfl ?_
      replace hF := gd_use hF
      obtain ⟨q11, hF⟩ := hF
      refine v_lald rfl q11 dX12_rightOf_156 ?_
      refine v_l2i dX12_rightOf_157 ?_
      obtain ⟨rfl, rfl⟩ := ret_use hF
      exact v_iret rfl dX12_rightOf_158
    replace hF := brF q9 hF
    have nq0 := lv_neT (a := 0) q0 rfl
    have nq1 := lv_neT (a := 1) q1 rfl
    have nq2 := lv_neT (a := 2) q2 rfl
    have nq3 := lv_neT (a := 3) q3 rfl
    have nq4 := lv_neT (a := 4) q4 rfl
    have nq5 := lv_neT (a := 5) q5 rfl
    have nq6 := lv_neT (a := 6) q6 rfl
    have nq7 := lv_neT (a := 7) q7 rfl
    have nq8 := lv_neT (a := 8) q8 rfl
    have nq9 := lv_neT (a := 9) q9 rfl
    refine v_tblOut (tgt := 159) dX12_rightOf_25 (by omega) (by decide) ?_
    refine v_bipush (v := (-2)) dX12_rightOf_159 (by decide) ?_
    obtain ⟨rfl, rfl⟩ := ret_use hF
    exact v_iret rfl dX12_rightOf_161
  · replace hF := brT (Decidable.not_not.mp q) hF
    refine v_bipush (v := (-2)) dX12_rightOf_21 (by decide) ?_
    obtain ⟨rfl, rfl⟩ := ret_use hF
    exact v_iret rfl dX12_rightOf_23
theorem dX12_whose_0 : decode cX12_whose 0 = .ok (.aload_n 0, 1) := by decide +kernel
theorem dX12_whose_1 : decode cX12_whose 1 = .ok (.getfield 103, 3) := by decide +kernel
theorem dX12_whose_4 : decode cX12_whose 4 = .ok (.iload_n 1, 1) := by decide +kernel
theorem dX12_whose_5 : decode cX12_whose 5 = .ok (.iaload, 1) := by decide +kernel
theorem dX12_whose_6 : decode cX12_whose 6 = .ok (.iconst (-1), 1) := by decide +kernel
theorem dX12_whose_7 : decode cX12_whose 7 = .ok (.if_icmp .eq 22, 3) := by decide +kernel
theorem dX12_whose_10 : decode cX12_whose 10 = .ok (.iload_n 3, 1) := by decide +kernel
theorem dX12_whose_11 : decode cX12_whose 11 = .ok (.aload_n 0, 1) := by decide +kernel
theorem dX12_whose_12 : decode cX12_whose 12 = .ok (.getfield 103, 3) := by decide +kernel
theorem dX12_whose_15 : decode cX12_whose 15 = .ok (.iload_n 1, 1) := by decide +kernel
theorem dX12_whose_16 : decode cX12_whose 16 = .ok (.iaload, 1) := by decide +kernel
theorem dX12_whose_17 : decode cX12_whose 17 = .ok (.if_icmp .lt 12, 3) := by decide +kernel
theorem dX12_whose_20 : decode cX12_whose 20 = .ok (.aload_n 0, 1) := by decide +kernel
theorem dX12_whose_21 : decode cX12_whose 21 = .ok (.getfield 97, 3) := by decide +kernel
theorem dX12_whose_24 : decode cX12_whose 24 = .ok (.iload_n 1, 1) := by decide +kernel
theorem dX12_whose_25 : decode cX12_whose 25 = .ok (.iaload, 1) := by decide +kernel
theorem dX12_whose_26 : decode cX12_whose 26 = .ok (.goto 9, 3) := by decide +kernel
theorem dX12_whose_29 : decode cX12_whose 29 = .ok (.aload_n 0, 1) := by decide +kernel
theorem dX12_whose_30 : decode cX12_whose 30 = .ok (.getfield 100, 3) := by decide +kernel
theorem dX12_whose_33 : decode cX12_whose 33 = .ok (.iload_n 1, 1) := by decide +kernel
theorem dX12_whose_34 : decode cX12_whose 34 = .ok (.iaload, 1) := by decide +kernel
theorem dX12_whose_35 : decode cX12_whose 35 = .ok (.istore 4, 2) := by decide +kernel
theorem dX12_whose_37 : decode cX12_whose 37 = .ok (.aload_n 0, 1) := by decide +kernel
theorem dX12_whose_38 : decode cX12_whose 38 = .ok (.getfield 106, 3) := by decide +kernel
theorem dX12_whose_41 : decode cX12_whose 41 = .ok (.iload_n 1, 1) := by decide +kernel
theorem dX12_whose_42 : decode cX12_whose 42 = .ok (.iaload, 1) := by decide +kernel
theorem dX12_whose_43 : decode cX12_whose 43 = .ok (.iload_n 3, 1) := by decide +kernel
theorem dX12_whose_44 : decode cX12_whose 44 = .ok (.if_icmp .gt 21, 3) := by decide +kernel
theorem dX12_whose_47 : decode cX12_whose 47 = .ok (.iload_n 2, 1) := by decide +kernel
theorem dX12_whose_48 : decode cX12_whose 48 = .ok (.i2l, 1) := by decide +kernel
theorem dX12_whose_49 : decode cX12_whose 49 = .ok (.aload_n 0, 1) := by decide +kernel
theorem dX12_whose_50 : decode cX12_whose 50 = .ok (.getfield 94, 3) := by decide +kernel
theorem dX12_whose_53 : decode cX12_whose 53 = .ok (.iload_n 1, 1) := by decide +kernel
theorem dX12_whose_54 : decode cX12_whose 54 = .ok (.iaload, 1) := by decide +kernel
theorem dX12_whose_55 : decode cX12_whose 55 = .ok (.i2l, 1) := by decide +kernel
theorem dX12_whose_56 : decode cX12_whose 56 = .ok (.iload 4, 2) := by decide +kernel
theorem dX12_whose_58 : decode cX12_whose 58 = .ok (.i2l, 1) := by decide +kernel
theorem dX12_whose_59 : decode cX12_whose 59 = .ok (.invokestatic 213, 3) := by decide +kernel
theorem dX12_whose_62 : decode cX12_whose 62 = .ok (.ifCond .ne 5, 3) := by decide +kernel
theorem dX12_whose_65 : decode cX12_whose 65 = .ok (.iconst (-1), 1) := by decide +kernel
theorem dX12_whose_66 : decode cX12_whose 66 = .ok (.ireturn, 1) := by decide +kernel
theorem dX12_whose_67 : decode cX12_whose 67 = .ok (.aload_n 0, 1) := by decide +kernel
theorem dX12_whose_68 : decode cX12_whose 68 = .ok (.getfield 76, 3) := by decide +kernel
theorem dX12_whose_71 : decode cX12_whose 71 = .ok (.iload_n 1, 1) := by decide +kernel
theorem dX12_whose_72 : decode cX12_whose 72 = .ok (.iaload, 1) := by decide +kernel
theorem dX12_whose_73 : decode cX12_whose 73 = .ok (.iconst 1, 1) := by decide +kernel
theorem dX12_whose_74 : decode cX12_whose 74 = .ok (.if_icmp .ne 23, 3) := by decide +kernel
theorem dX12_whose_77 : decode cX12_whose 77 = .ok (.aload_n 0, 1) := by decide +kernel
theorem dX12_whose_78 : decode cX12_whose 78 = .ok (.getfield 73, 3) := by decide +kernel
theorem dX12_whose_81 : decode cX12_whose 81 = .ok (.sipush 200, 3) := by decide +kernel
theorem dX12_whose_84 : decode cX12_whose 84 = .ok (.aload_n 0, 1) := by decide +kernel
theorem dX12_whose_85 : decode cX12_whose 85 = .ok (.getfield 79, 3) := by decide +kernel
theorem dX12_whose_88 : decode cX12_whose 88 = .ok (.iload_n 1, 1) := by decide +kernel
theorem dX12_whose_89 : decode cX12_whose 89 = .ok (.iaload, 1) := by decide +kernel
theorem dX12_whose_90 : decode cX12_whose 90 = .ok (.imul, 1) := by decide +kernel
theorem dX12_whose_91 : decode cX12_whose 91 = .ok (.iload_n 2, 1) := by decide +kernel
theorem dX12_whose_92 : decode cX12_whose 92 = .ok (.iadd, 1) := by decide +kernel
theorem dX12_whose_93 : decode cX12_whose 93 = .ok (.iaload, 1) := by decide +kernel
theorem dX12_whose_94 : decode cX12_whose 94 = .ok (.goto 9, 3) := by decide +kernel
theorem dX12_whose_97 : decode cX12_whose 97 = .ok (.aload_n 0, 1) := by decide +kernel
theorem dX12_whose_98 : decode cX12_whose 98 = .ok (.getfield 79, 3) := by decide +kernel
theorem dX12_whose_101 : decode cX12_whose 101 = .ok (.iload_n 1, 1) := by decide +kernel
theorem dX12_whose_102 : decode cX12_whose 102 = .ok (.iaload, 1) := by decide +kernel
theorem dX12_whose_103 : decode cX12_whose 103 = .ok (.ireturn, 1) := by decide +kernel
def fX12_whose (a1 : Int32) (a2 : Int32) (a3 : Int32) (h : Hp) : Option (Int32 × Hp) := gd (ib a1 100) (lb (fun (x3 : Int32) (h4 : Hp) => gd (ib a1 100) (br (a3 < (gI h4 80 0 (ix a1))) (some ((-1), h4)) (gd (ib a1 100) (br ((fX12_in a2.toInt64 ((gI h4 76 0 (ix a1)).toInt64) x3.toInt64 h4) = 0) (some ((-1), h4)) (gd (ib a1 100) (br ((gI h4 70 0 (ix a1)) = 1) (gd (ib a1 100) (gd (ib (((200 : Int32) * (gI h4 71 0 (ix a1))) + a2) 1600) (some (gI h4 69 0 (ix (((200 : Int32) * (gI h4 71 0 (ix a1))) + a2)), h4)))) (gd (ib a1 100) (some (gI h4 71 0 (ix a1), h4))))))))) (fun j2 => lb (fun (h12 : Hp) => gd (ib a1 100) (j2 (gI h12 78 0 (ix a1)) h12)) (fun j11 => br ((gI h 79 0 (ix a1)) = (-1)) (j11 h) (gd (ib a1 100) (br (a3 < (gI h 79 0 (ix a1))) (j11 h) (gd (ib a1 100) (j2 (gI h 77 0 (ix a1)) h)))))))
set_option maxRecDepth 20000 in
theorem tX12_whose {X : Cz} {a1 : Int32} {a2 : Int32} {a3 : Int32} {h hE : Hp} {rE : Int32} (hF : fX12_whose a1 a2 a3 h = some (rE, hE)) : Ct X mX12_whose true [zr 12 0, zi a1, zi a2, zi a3] h (some (zi rE)) hE := by
  refine Ct_of (by decide) (Nat.le_of_ble_eq_true rfl) (ls := [(0, zr 12 0), (1, zi a1), (2, zi a2), (3, zi a3)]) rfl ?_
  unfold fX12_whose at hF
  refine v_aload_n (j := 0) dX12_whose_0 rfl ?_
  refine v_getL (c := 12) rfl rfl rfl ly12_39 cz12 flX12_103 dX12_whose_1 ?_
  refine v_iload_n (j := 1) dX12_whose_4 rfl ?_
  replace hF := gd_use hF
  obtain ⟨q1, hF⟩ := hF
  refine v_iald rfl q1 dX12_whose_5 ?_
  refine v_iconst (v := (-1)) dX12_whose_6 (by decide) ?_
  replace hF := lb_ex hF
  obtain ⟨j2, ej2, hF⟩ := hF
  have j2V : ∀ (x3 : Int32) (h4 : Hp), j2 x3 h4 = some (rE, hE) → V X mX12_whose true h 35 [(0, zr 12 0), (1, zi a1), (2, zi a2), (3, zi a3)] [zi x3] h4 (some (zi rE)) hE := by
    intro x3 h4 hF
    subst ej2
    refine v_istore (ls' := [(4, zi x3), (0, zr 12 0), (1, zi a1), (2, zi a2), (3, zi a3)]) dX12_whose_35 (by decide) rfl ?_
    refine v_aload_n (j := 1) dX12_whose_37 rfl ?_
    refine v_getL (c := 12) rfl rfl rfl ly12_40 cz12 flX12_106 dX12_whose_38 ?_
    refine v_iload_n (j := 2) dX12_whose_41 rfl ?_
    replace hF := gd_use hF
    obtain ⟨q5, hF⟩ := hF
    refine v_iald rfl q5 dX12_whose_42 ?_
    refine v_iload_n (j := 4) dX12_whose_43 rfl ?_
    refine v_icmp_gt dX12_whose_44 (by decide : _ = ((65 : Nat) : Int)) (fun q => ?_) (fun q => ?_)
    · replace hF := brT q hF
      refine v_iconst (v := (-1)) dX12_whose_65 (by decide) ?_
      obtain ⟨rfl, rfl⟩ := ret_use hF
      exact v_iret rfl dX12_whose_66
    · replace hF := brF q hF
      refine v_iload_n (j := 3) dX12_whose_47 rfl ?_
      refine v_i2l dX12_whose_48 ?_
      refine v_aload_n (j := 1) dX12_whose_49 rfl ?_
      refine v_getL (c := 12) rfl rfl rfl ly12_36 cz12 flX12_94 dX12_whose_50 ?_
      refine v_iload_n (j := 2) dX12_whose_53 rfl ?_
      replace hF := gd_use hF
      obtain ⟨q6, hF⟩ := hF
      refine v_iald rfl q6 dX12_whose_54 ?_
      refine v_i2l dX12_whose_55 ?_
      refine v_iload (j := 0) dX12_whose_56 rfl ?_
      refine v_i2l dX12_whose_58 ?_
      refine v_cS (hm := h4) (av := [zj a2.toInt64, zj ((gI h4 76 0 (ix a1)).toInt64), zj x3.toInt64]) (st := []) (stn := [zi (fX12_in a2.toInt64 ((gI h4 76 0 (ix a1)).toInt64) x3.toInt64 h4)]) (tX12_in a2.toInt64 ((gI h4 76 0 (ix a1)).toInt64) x3.toInt64 h4) lcX12_in mlX12_213 sxX12_in rfl ⟨by decide, by decide⟩ (Nat.le_of_ble_eq_true rfl) dX12_whose_59 rfl rfl ?_
      refine v_if_ne dX12_whose_62 (by decide : _ = ((67 : Nat) : Int)) (fun q => ?_) (fun q => ?_)
      · replace hF := brF q hF
        refine v_aload_n (j := 1) dX12_whose_67 rfl ?_
        refine v_getL (c := 12) rfl rfl rfl ly12_30 cz12 flX12_76 dX12_whose_68 ?_
        refine v_iload_n (j := 2) dX12_whose_71 rfl ?_
        replace hF := gd_use hF
        obtain ⟨q7, hF⟩ := hF
        refine v_iald rfl q7 dX12_whose_72 ?_
        refine v_iconst (v := 1) dX12_whose_73 (by decide) ?_
        refine v_icmp_ne dX12_whose_74 (by decide : _ = ((97 : Nat) : Int)) (fun q => ?_) (fun q => ?_)
        · replace hF := brF q hF
          refine v_aload_n (j := 1) dX12_whose_97 rfl ?_
          refine v_getL (c := 12) rfl rfl rfl ly12_31 cz12 flX12_79 dX12_whose_98 ?_
          refine v_iload_n (j := 2) dX12_whose_101 rfl ?_
          replace hF := gd_use hF
          obtain ⟨q8, hF⟩ := hF
          refine v_iald rfl q8 dX12_whose_102 ?_
          obtain ⟨rfl, rfl⟩ := ret_use hF
          exact v_iret rfl dX12_whose_103
        · replace hF := brT (Decidable.not_not.mp q) hF
          refine v_aload_n (j := 1) dX12_whose_77 rfl ?_
          refine v_getL (c := 12) rfl rfl rfl ly12_29 cz12 flX12_73 dX12_whose_78 ?_
          refine v_sipush (v := 200) dX12_whose_81 (by decide) ?_
          refine v_aload_n (j := 1) dX12_whose_84 rfl ?_
          refine v_getL (c := 12) rfl rfl rfl ly12_31 cz12 flX12_79 dX12_whose_85 ?_
          refine v_iload_n (j := 2) dX12_whose_88 rfl ?_
          replace hF := gd_use hF
          obtain ⟨q9, hF⟩ := hF
          refine v_iald rfl q9 dX12_whose_89 ?_
          refine v_imul dX12_whose_90 ?_
          refine v_iload_n (j := 3) dX12_whose_91 rfl ?_
          refine v_iadd dX12_whose_92 ?_
          replace hF := gd_use hF
          obtain ⟨q10, hF⟩ := hF
          refine v_iald rfl q10 dX12_whose_93 ?_
          refine v_goto (tgt := 103) dX12_whose_94 (by decide) ?_
          obtain ⟨rfl, rfl⟩ := ret_use hF
          exact v_iret rfl dX12_whose_103
      · replace hF := brT (Decidable.not_not.mp q) hF
        refine v_iconst (v := (-1)) dX12_whose_65 (by decide) ?_
        obtain ⟨rfl, rfl⟩ := ret_use hF
        exact v_iret rfl dX12_whose_66
  clear ej2
  replace hF := lb_ex hF
  obtain ⟨j11, ej11, hF⟩ := hF
  have j11V : ∀ (h12 : Hp), j11 h12 = some (rE, hE) → V X mX12_whose true h 29 [(0, zr 12 0), (1, zi a1), (2, zi a2), (3, zi a3)] [] h12 (some (zi rE)) hE := by
    intro h12 hF
    subst ej11
    refine v_aload_n (j := 0) dX12_whose_29 rfl ?_
    refine v_getL (c := 12) rfl rfl rfl ly12_38 cz12 flX12_100 dX12_whose_30 ?_
    refine v_iload_n (j := 1) dX12_whose_33 rfl ?_
    replace hF := gd_use hF
    obtain ⟨q13, hF⟩ := hF
    refine v_iald rfl q13 dX12_whose_34 ?_
    exact j2V (gI h12 78 0 (ix a1)) h12 hF
  clear ej11
  refine v_icmp_eq dX12_whose_7 (by decide : _ = ((29 : Nat) : Int)) (fun q => ?_) (fun q => ?_)
  · replace hF := brT q hF
    exact j11V h hF
  · replace hF := brF q hF
    refine v_iload_n (j := 3) dX12_whose_10 rfl ?_
    refine v_aload_n (j := 0) dX12_whose_11 rfl ?_
    refine v_getL (c := 12) rfl rfl rfl ly12_39 cz12 flX12_103 dX12_whose_12 ?_
    refine v_iload_n (j := 1) dX12_whose_15 rfl ?_
    replace hF := gd_use hF
    obtain ⟨q14, hF⟩ := hF
    refine v_iald rfl q14 dX12_whose_16 ?_
    refine v_icmp_lt dX12_whose_17 (by decide : _ = ((29 : Nat) : Int)) (fun q => ?_) (fun q => ?_)
    · replace hF := brT q hF
      exact j11V h hF
    · replace hF := brF q hF
      refine v_aload_n (j := 0) dX12_whose_20 rfl ?_
      refine v_getL (c := 12) rfl rfl rfl ly12_37 cz12 flX12_97 dX12_whose_21 ?_
      refine v_iload_n (j := 1) dX12_whose_24 rfl ?_
      replace hF := gd_use hF
      obtain ⟨q15, hF⟩ := hF
      refine v_iald rfl q15 dX12_whose_25 ?_
      refine v_goto (tgt := 35) dX12_whose_26 (by decide) ?_
      exact j2V (gI h 77 0 (ix a1)) h hF
theorem dX12_isBetter_0 : decode cX12_isBetter 0 = .ok (.aload_n 0, 1) := by decide +kernel
theorem dX12_isBetter_1 : decode cX12_isBetter 1 = .ok (.getfield 76, 3) := by decide +kernel
theorem dX12_isBetter_4 : decode cX12_isBetter 4 = .ok (.iload_n 1, 1) := by decide +kernel
theorem dX12_isBetter_5 : decode cX12_isBetter 5 = .ok (.iaload, 1) := by decide +kernel
theorem dX12_isBetter_6 : decode cX12_isBetter 6 = .ok (.aload_n 0, 1) := by decide +kernel
theorem dX12_isBetter_7 : decode cX12_isBetter 7 = .ok (.getfield 76, 3) := by decide +kernel
theorem dX12_isBetter_10 : decode cX12_isBetter 10 = .ok (.iload_n 2, 1) := by decide +kernel
theorem dX12_isBetter_11 : decode cX12_isBetter 11 = .ok (.iaload, 1) := by decide +kernel
theorem dX12_isBetter_12 : decode cX12_isBetter 12 = .ok (.if_icmp .eq 24, 3) := by decide +kernel
theorem dX12_isBetter_15 : decode cX12_isBetter 15 = .ok (.aload_n 0, 1) := by decide +kernel
theorem dX12_isBetter_16 : decode cX12_isBetter 16 = .ok (.getfield 76, 3) := by decide +kernel
theorem dX12_isBetter_19 : decode cX12_isBetter 19 = .ok (.iload_n 1, 1) := by decide +kernel
theorem dX12_isBetter_20 : decode cX12_isBetter 20 = .ok (.iaload, 1) := by decide +kernel
theorem dX12_isBetter_21 : decode cX12_isBetter 21 = .ok (.aload_n 0, 1) := by decide +kernel
theorem dX12_isBetter_22 : decode cX12_isBetter 22 = .ok (.getfield 76, 3) := by decide +kernel
theorem dX12_isBetter_25 : decode cX12_isBetter 25 = .ok (.iload_n 2, 1) := by decide +kernel
theorem dX12_isBetter_26 : decode cX12_isBetter 26 = .ok (.iaload, 1) := by decide +kernel
theorem dX12_isBetter_27 : decode cX12_isBetter 27 = .ok (.if_icmp .ge 7, 3) := by decide +kernel
theorem dX12_isBetter_30 : decode cX12_isBetter 30 = .ok (.iconst 1, 1) := by decide +kernel
theorem dX12_isBetter_31 : decode cX12_isBetter 31 = .ok (.goto 4, 3) := by decide +kernel
theorem dX12_isBetter_34 : decode cX12_isBetter 34 = .ok (.iconst 0, 1) := by decide +kernel
theorem dX12_isBetter_35 : decode cX12_isBetter 35 = .ok (.ireturn, 1) := by decide +kernel
theorem dX12_isBetter_36 : decode cX12_isBetter 36 = .ok (.aload_n 0, 1) := by decide +kernel
theorem dX12_isBetter_37 : decode cX12_isBetter 37 = .ok (.getfield 91, 3) := by decide +kernel
theorem dX12_isBetter_40 : decode cX12_isBetter 40 = .ok (.iload_n 1, 1) := by decide +kernel
theorem dX12_isBetter_41 : decode cX12_isBetter 41 = .ok (.iaload, 1) := by decide +kernel
theorem dX12_isBetter_42 : decode cX12_isBetter 42 = .ok (.aload_n 0, 1) := by decide +kernel
theorem dX12_isBetter_43 : decode cX12_isBetter 43 = .ok (.getfield 91, 3) := by decide +kernel
theorem dX12_isBetter_46 : decode cX12_isBetter 46 = .ok (.iload_n 2, 1) := by decide +kernel
theorem dX12_isBetter_47 : decode cX12_isBetter 47 = .ok (.iaload, 1) := by decide +kernel
theorem dX12_isBetter_48 : decode cX12_isBetter 48 = .ok (.if_icmp .eq 26, 3) := by decide +kernel
theorem dX12_isBetter_51 : decode cX12_isBetter 51 = .ok (.aload_n 0, 1) := by decide +kernel
theorem dX12_isBetter_52 : decode cX12_isBetter 52 = .ok (.getfield 91, 3) := by decide +kernel
theorem dX12_isBetter_55 : decode cX12_isBetter 55 = .ok (.iload_n 1, 1) := by decide +kernel
theorem dX12_isBetter_56 : decode cX12_isBetter 56 = .ok (.iaload, 1) := by decide +kernel
theorem dX12_isBetter_57 : decode cX12_isBetter 57 = .ok (.aload_n 0, 1) := by decide +kernel
theorem dX12_isBetter_58 : decode cX12_isBetter 58 = .ok (.getfield 91, 3) := by decide +kernel
theorem dX12_isBetter_61 : decode cX12_isBetter 61 = .ok (.iload_n 2, 1) := by decide +kernel
theorem dX12_isBetter_62 : decode cX12_isBetter 62 = .ok (.iaload, 1) := by decide +kernel
theorem dX12_isBetter_63 : decode cX12_isBetter 63 = .ok (.if_icmp .ge 7, 3) := by decide +kernel
theorem dX12_isBetter_66 : decode cX12_isBetter 66 = .ok (.iconst 1, 1) := by decide +kernel
theorem dX12_isBetter_67 : decode cX12_isBetter 67 = .ok (.goto 17, 3) := by decide +kernel
theorem dX12_isBetter_70 : decode cX12_isBetter 70 = .ok (.iconst 0, 1) := by decide +kernel
theorem dX12_isBetter_71 : decode cX12_isBetter 71 = .ok (.goto 13, 3) := by decide +kernel
theorem dX12_isBetter_74 : decode cX12_isBetter 74 = .ok (.iload_n 1, 1) := by decide +kernel
theorem dX12_isBetter_75 : decode cX12_isBetter 75 = .ok (.iload_n 2, 1) := by decide +kernel
theorem dX12_isBetter_76 : decode cX12_isBetter 76 = .ok (.if_icmp .ge 7, 3) := by decide +kernel
theorem dX12_isBetter_79 : decode cX12_isBetter 79 = .ok (.iconst 1, 1) := by decide +kernel
theorem dX12_isBetter_80 : decode cX12_isBetter 80 = .ok (.goto 4, 3) := by decide +kernel
theorem dX12_isBetter_83 : decode cX12_isBetter 83 = .ok (.iconst 0, 1) := by decide +kernel
theorem dX12_isBetter_84 : decode cX12_isBetter 84 = .ok (.ireturn, 1) := by decide +kernel
def fX12_isBetter (a1 : Int32) (a2 : Int32) (h : Hp) : Option (Int32 × Hp) := gd (ib a1 100) (gd (ib a2 100) (br ((gI h 70 0 (ix a1)) = (gI h 70 0 (ix a2))) (gd (ib a1 100) (gd (ib a2 100) (br ((gI h 75 0 (ix a1)) = (gI h 75 0 (ix a2))) (br (a2 ≤ a1) (some (0, h)) (some (1, h))) (gd (ib a1 100) (gd (ib a2 100) (br ((gI h 75 0 (ix a2)) ≤ (gI h 75 0 (ix a1))) (some (0, h)) (some (1, h)))))))) (gd (ib a1 100) (gd (ib a2 100) (br ((gI h 70 0 (ix a2)) ≤ (gI h 70 0 (ix a1))) (some (0, h)) (some (1, h)))))))
set_option maxRecDepth 20000 in
theorem tX12_isBetter {X : Cz} {a1 : Int32} {a2 : Int32} {h hE : Hp} {rE : Int32} (hF : fX12_isBetter a1 a2 h = some (rE, hE)) : Ct X mX12_isBetter true [zr 12 0, zi a1, zi a2] h (some (zi rE)) hE := by
  refine Ct_of (by decide) (Nat.le_of_ble_eq_true rfl) (ls := [(0, zr 12 0), (1, zi a1), (2, zi a2)]) rfl ?_
  unfold fX12_isBetter at hF
  refine v_aload_n (j := 0) dX12_isBetter_0 rfl ?_
  refine v_getL (c := 12) rfl rfl rfl ly12_30 cz12 flX12_76 dX12_isBetter_1 ?_
  refine v_iload_n (j := 1) dX12_isBetter_4 rfl ?_
  replace hF := gd_use hF
  obtain ⟨q1, hF⟩ := hF
  refine v_iald rfl q1 dX12_isBetter_5 ?_
  refine v_aload_n (j := 0) dX12_isBetter_6 rfl ?_
  refine v_getL (c := 12) rfl rfl rfl ly12_30 cz12 flX12_76 dX12_isBetter_7 ?_
  refine v_iload_n (j := 2) dX12_isBetter_10 rfl ?_
  replace hF := gd_use hF
  obtain ⟨q2, hF⟩ := hF
  refine v_iald rfl q2 dX12_isBetter_11 ?_
  refine v_icmp_eq dX12_isBetter_12 (by decide : _ = ((36 : Nat) : Int)) (fun q => ?_) (fun q => ?_)
  · replace hF := brT q hF
    refine v_aload_n (j := 0) dX12_isBetter_36 rfl ?_
    refine v_getL (c := 12) rfl rfl rfl ly12_35 cz12 flX12_91 dX12_isBetter_37 ?_
    refine v_iload_n (j := 1) dX12_isBetter_40 rfl ?_
    replace hF := gd_use hF
    obtain ⟨q3, hF⟩ := hF
    refine v_iald rfl q3 dX12_isBetter_41 ?_
    refine v_aload_n (j := 0) dX12_isBetter_42 rfl ?_
    refine v_getL (c := 12) rfl rfl rfl ly12_35 cz12 flX12_91 dX12_isBetter_43 ?_
    refine v_iload_n (j := 2) dX12_isBetter_46 rfl ?_
    replace hF := gd_use hF
    obtain ⟨q4, hF⟩ := hF
    refine v_iald rfl q4 dX12_isBetter_47 ?_
    refine v_icmp_eq dX12_isBetter_48 (by decide : _ = ((74 : Nat) : Int)) (fun q => ?_) (fun q => ?_)
    · replace hF := brT q hF
      refine v_iload_n (j := 1) dX12_isBetter_74 rfl ?_
      refine v_iload_n (j := 2) dX12_isBetter_75 rfl ?_
      refine v_icmp_ge dX12_isBetter_76 (by decide : _ = ((83 : Nat) : Int)) (fun q => ?_) (fun q => ?_)
      · replace hF := brT q hF
        refine v_iconst (v := 0) dX12_isBetter_83 (by decide) ?_
        obtain ⟨rfl, rfl⟩ := ret_use hF
        exact v_zret rfl (Or.inl rfl) dX12_isBetter_84
      · replace hF := brF q hF
        refine v_iconst (v := 1) dX12_isBetter_79 (by decide) ?_
        refine v_goto (tgt := 84) dX12_isBetter_80 (by decide) ?_
        obtain ⟨rfl, rfl⟩ := ret_use hF
        exact v_zret rfl (Or.inr rfl) dX12_isBetter_84
    · replace hF := brF q hF
      refine v_aload_n (j := 0) dX12_isBetter_51 rfl ?_
      refine v_getL (c := 12) rfl rfl rfl ly12_35 cz12 flX12_91 dX12_isBetter_52 ?_
      refine v_iload_n (j := 1) dX12_isBetter_55 rfl ?_
      replace hF := gd_use hF
      obtain ⟨q5, hF⟩ := hF
      refine v_iald rfl q5 dX12_isBetter_56 ?_
      refine v_aload_n (j := 0) dX12_isBetter_57 rfl ?_
      refine v_getL (c := 12) rfl rfl rfl ly12_35 cz12 flX12_91 dX12_isBetter_58 ?_
      refine v_iload_n (j := 2) dX12_isBetter_61 rfl ?_
      replace hF := gd_use hF
      obtain ⟨q6, hF⟩ := hF
      refine v_iald rfl q6 dX12_isBetter_62 ?_
      refine v_icmp_ge dX12_isBetter_63 (by decide : _ = ((70 : Nat) : Int)) (fun q => ?_) (fun q => ?_)
      · replace hF := brT q hF
        refine v_iconst (v := 0) dX12_isBetter_70 (by decide) ?_
        refine v_goto (tgt := 84) dX12_isBetter_71 (by decide) ?_
        obtain ⟨rfl, rfl⟩ := ret_use hF
        exact v_zret rfl (Or.inl rfl) dX12_isBetter_84
      · replace hF := brF q hF
        refine v_iconst (v := 1) dX12_isBetter_66 (by decide) ?_
        refine v_goto (tgt := 84) dX12_isBetter_67 (by decide) ?_
        obtain ⟨rfl, rfl⟩ := ret_use hF
        exact v_zret rfl (Or.inr rfl) dX12_isBetter_84
  · replace hF := brF q hF
    refine v_aload_n (j := 0) dX12_isBetter_15 rfl ?_
    refine v_getL (c := 12) rfl rfl rfl ly12_30 cz12 flX12_76 dX12_isBetter_16 ?_
    refine v_iload_n (j := 1) dX12_isBetter_19 rfl ?_
    replace hF := gd_use hF
    obtain ⟨q7, hF⟩ := hF
    refine v_iald rfl q7 dX12_isBetter_20 ?_
    refine v_aload_n (j := 0) dX12_isBetter_21 rfl ?_
    refine v_getL (c := 12) rfl rfl rfl ly12_30 cz12 flX12_76 dX12_isBetter_22 ?_
    refine v_iload_n (j := 2) dX12_isBetter_25 rfl ?_
    replace hF := gd_use hF
    obtain ⟨q8, hF⟩ := hF
    refine v_iald rfl q8 dX12_isBetter_26 ?_
    refine v_icmp_ge dX12_isBetter_27 (by decide : _ = ((34 : Nat) : Int)) (fun q => ?_) (fun q => ?_)
    · replace hF := brT q hF
      refine v_iconst (v := 0) dX12_isBetter_34 (by decide) ?_
      obtain ⟨rfl, rfl⟩ := ret_use hF
      exact v_zret rfl (Or.inl rfl) dX12_isBetter_35
    · replace hF := brF q hF
      refine v_iconst (v := 1) dX12_isBetter_30 (by decide) ?_
      refine v_goto (tgt := 35) dX12_isBetter_31 (by decide) ?_
      obtain ⟨rfl, rfl⟩ := ret_use hF
      exact v_zret rfl (Or.inr rfl) dX12_isBetter_35
theorem dX12_isFor_0 : decode cX12_isFor 0 = .ok (.aload_n 0, 1) := by decide +kernel
theorem dX12_isFor_1 : decode cX12_isFor 1 = .ok (.getfield 82, 3) := by decide +kernel
theorem dX12_isFor_4 : decode cX12_isFor 4 = .ok (.iload_n 1, 1) := by decide +kernel
theorem dX12_isFor_5 : decode cX12_isFor 5 = .ok (.iaload, 1) := by decide +kernel
theorem dX12_isFor_6 : decode cX12_isFor 6 = .ok (.iload_n 2, 1) := by decide +kernel
theorem dX12_isFor_7 : decode cX12_isFor 7 = .ok (.if_icmp .ne 38, 3) := by decide +kernel
theorem dX12_isFor_10 : decode cX12_isFor 10 = .ok (.iload_n 3, 1) := by decide +kernel
theorem dX12_isFor_11 : decode cX12_isFor 11 = .ok (.i2l, 1) := by decide +kernel
theorem dX12_isFor_12 : decode cX12_isFor 12 = .ok (.aload_n 0, 1) := by decide +kernel
theorem dX12_isFor_13 : decode cX12_isFor 13 = .ok (.getfield 85, 3) := by decide +kernel
theorem dX12_isFor_16 : decode cX12_isFor 16 = .ok (.iload_n 1, 1) := by decide +kernel
theorem dX12_isFor_17 : decode cX12_isFor 17 = .ok (.iaload, 1) := by decide +kernel
theorem dX12_isFor_18 : decode cX12_isFor 18 = .ok (.i2l, 1) := by decide +kernel
theorem dX12_isFor_19 : decode cX12_isFor 19 = .ok (.aload_n 0, 1) := by decide +kernel
theorem dX12_isFor_20 : decode cX12_isFor 20 = .ok (.getfield 85, 3) := by decide +kernel
theorem dX12_isFor_23 : decode cX12_isFor 23 = .ok (.iload_n 1, 1) := by decide +kernel
theorem dX12_isFor_24 : decode cX12_isFor 24 = .ok (.iaload, 1) := by decide +kernel
theorem dX12_isFor_25 : decode cX12_isFor 25 = .ok (.aload_n 0, 1) := by decide +kernel
theorem dX12_isFor_26 : decode cX12_isFor 26 = .ok (.getfield 88, 3) := by decide +kernel
theorem dX12_isFor_29 : decode cX12_isFor 29 = .ok (.iload_n 1, 1) := by decide +kernel
theorem dX12_isFor_30 : decode cX12_isFor 30 = .ok (.iaload, 1) := by decide +kernel
theorem dX12_isFor_31 : decode cX12_isFor 31 = .ok (.iadd, 1) := by decide +kernel
theorem dX12_isFor_32 : decode cX12_isFor 32 = .ok (.iconst 1, 1) := by decide +kernel
theorem dX12_isFor_33 : decode cX12_isFor 33 = .ok (.isub, 1) := by decide +kernel
theorem dX12_isFor_34 : decode cX12_isFor 34 = .ok (.i2l, 1) := by decide +kernel
theorem dX12_isFor_35 : decode cX12_isFor 35 = .ok (.invokestatic 213, 3) := by decide +kernel
theorem dX12_isFor_38 : decode cX12_isFor 38 = .ok (.ifCond .eq 7, 3) := by decide +kernel
theorem dX12_isFor_41 : decode cX12_isFor 41 = .ok (.iconst 1, 1) := by decide +kernel
theorem dX12_isFor_42 : decode cX12_isFor 42 = .ok (.goto 4, 3) := by decide +kernel
theorem dX12_isFor_45 : decode cX12_isFor 45 = .ok (.iconst 0, 1) := by decide +kernel
theorem dX12_isFor_46 : decode cX12_isFor 46 = .ok (.ireturn, 1) := by decide +kernel
def fX12_isFor (a1 : Int32) (a2 : Int32) (a3 : Int32) (h : Hp) : Option (Int32 × Hp) := gd (ib a1 100) (br ((gI h 72 0 (ix a1)) = a2) (gd (ib a1 100) (gd (ib a1 100) (gd (ib a1 100) (br ((fX12_in a3.toInt64 ((gI h 73 0 (ix a1)).toInt64) ((((gI h 73 0 (ix a1)) + (gI h 74 0 (ix a1))) - 1).toInt64) h) = 0) (some (0, h)) (some (1, h)))))) (some (0, h)))
set_option maxRecDepth 20000 in
theorem tX12_isFor {X : Cz} {a1 : Int32} {a2 : Int32} {a3 : Int32} {h hE : Hp} {rE : Int32} (hF : fX12_isFor a1 a2 a3 h = some (rE, hE)) : Ct X mX12_isFor true [zr 12 0, zi a1, zi a2, zi a3] h (some (zi rE)) hE := by
  refine Ct_of (by decide) (Nat.le_of_ble_eq_true rfl) (ls := [(0, zr 12 0), (1, zi a1), (2, zi a2), (3, zi a3)]) rfl ?_
  unfold fX12_isFor at hF
  refine v_aload_n (j := 0) dX12_isFor_0 rfl ?_
  refine v_getL (c := 12) rfl rfl rfl ly12_32 cz12 flX12_82 dX12_isFor_1 ?_
  refine v_iload_n (j := 1) dX12_isFor_4 rfl ?_
  replace hF := gd_use hF
  obtain ⟨q1, hF⟩ := hF
  refine v_iald rfl q1 dX12_isFor_5 ?_
  refine v_iload_n (j := 2) dX12_isFor_6 rfl ?_
  refine v_icmp_ne dX12_isFor_7 (by decide : _ = ((45 : Nat) : Int)) (fun q => ?_) (fun q => ?_)
  · replace hF := brF q hF
    refine v_iconst (v := 0) dX12_isFor_45 (by decide) ?_
    obtain ⟨rfl, rfl⟩ := ret_use hF
    exact v_zret rfl (Or.inl rfl) dX12_isFor_46
  · replace hF := brT (Decidable.not_not.mp q) hF
    refine v_iload_n (j := 3) dX12_isFor_10 rfl ?_
    refine v_i2l dX12_isFor_11 ?_
    refine v_aload_n (j := 0) dX12_isFor_12 rfl ?_
    refine v_getL (c := 12) rfl rfl rfl ly12_33 cz12 flX12_85 dX12_isFor_13 ?_
    refine v_iload_n (j := 1) dX12_isFor_16 rfl ?_
    replace hF := gd_use hF
    obtain ⟨q2, hF⟩ := hF
    refine v_iald rfl q2 dX12_isFor_17 ?_
    refine v_i2l dX12_isFor_18 ?_
    refine v_aload_n (j := 0) dX12_isFor_19 rfl ?_
    refine v_getL (c := 12) rfl rfl rfl ly12_33 cz12 flX12_85 dX12_isFor_20 ?_
    refine v_iload_n (j := 1) dX12_isFor_23 rfl ?_
    replace hF := gd_use hF
    obtain ⟨q3, hF⟩ := hF
    refine v_iald rfl q3 dX12_isFor_24 ?_
    refine v_aload_n (j := 0) dX12_isFor_25 rfl ?_
    refine v_getL (c := 12) rfl rfl rfl ly12_34 cz12 flX12_88 dX12_isFor_26 ?_
    refine v_iload_n (j := 1) dX12_isFor_29 rfl ?_
    replace hF := gd_use hF
    obtain ⟨q4, hF⟩ := hF
    refine v_iald rfl q4 dX12_isFor_30 ?_
    refine v_iadd dX12_isFor_31 ?_
    refine v_iconst (v := 1) dX12_isFor_32 (by decide) ?_
    refine v_isub dX12_isFor_33 ?_
    refine v_i2l dX12_isFor_34 ?_
    refine v_cS (hm := h) (av := [zj a3.toInt64, zj ((gI h 73 0 (ix a1)).toInt64), zj ((((gI h 73 0 (ix a1)) + (gI h 74 0 (ix a1))) - 1).toInt64)]) (st := []) (stn := [zi (fX12_in a3.toInt64 ((gI h 73 0 (ix a1)).toInt64) ((((gI h 73 0 (ix a1)) + (gI h 74 0 (ix a1))) - 1).toInt64) h)]) (tX12_in a3.toInt64 ((gI h 73 0 (ix a1)).toInt64) ((((gI h 73 0 (ix a1)) + (gI h 74 0 (ix a1))) - 1).toInt64) h) lcX12_in mlX12_213 sxX12_in rfl ⟨by decide, by decide⟩ (Nat.le_of_ble_eq_true rfl) dX12_isFor_35 rfl rfl ?_
    refine v_if_eq dX12_isFor_38 (by decide : _ = ((45 : Nat) : Int)) (fun q => ?_) (fun q => ?_)
    · replace hF := brT q hF
      refine v_iconst (v := 0) dX12_isFor_45 (by decide) ?_
      obtain ⟨rfl, rfl⟩ := ret_use hF
      exact v_zret rfl (Or.inl rfl) dX12_isFor_46
    · replace hF := brF q hF
      refine v_iconst (v := 1) dX12_isFor_41 (by decide) ?_
      refine v_goto (tgt := 46) dX12_isFor_42 (by decide) ?_
      obtain ⟨rfl, rfl⟩ := ret_use hF
      exact v_zret rfl (Or.inr rfl) dX12_isFor_46
theorem dX12_bestRight_0 : decode cX12_bestRight 0 = .ok (.iconst (-1), 1) := by decide +kernel
theorem dX12_bestRight_1 : decode cX12_bestRight 1 = .ok (.istore 7, 2) := by decide +kernel
theorem dX12_bestRight_3 : decode cX12_bestRight 3 = .ok (.iconst 0, 1) := by decide +kernel
theorem dX12_bestRight_4 : decode cX12_bestRight 4 = .ok (.istore 8, 2) := by decide +kernel
theorem dX12_bestRight_6 : decode cX12_bestRight 6 = .ok (.iload 8, 2) := by decide +kernel
theorem dX12_bestRight_8 : decode cX12_bestRight 8 = .ok (.aload_n 0, 1) := by decide +kernel
theorem dX12_bestRight_9 : decode cX12_bestRight 9 = .ok (.getfield 316, 3) := by decide +kernel
theorem dX12_bestRight_12 : decode cX12_bestRight 12 = .ok (.if_icmp .ge 84, 3) := by decide +kernel
theorem dX12_bestRight_15 : decode cX12_bestRight 15 = .ok (.aload_n 0, 1) := by decide +kernel
theorem dX12_bestRight_16 : decode cX12_bestRight 16 = .ok (.iload 8, 2) := by decide +kernel
theorem dX12_bestRight_18 : decode cX12_bestRight 18 = .ok (.iload_n 1, 1) := by decide +kernel
theorem dX12_bestRight_19 : decode cX12_bestRight 19 = .ok (.iload_n 2, 1) := by decide +kernel
theorem dX12_bestRight_20 : decode cX12_bestRight 20 = .ok (.invokevirtual 331, 3) := by decide +kernel
theorem dX12_bestRight_23 : decode cX12_bestRight 23 = .ok (.ifCond .ne 6, 3) := by decide +kernel
theorem dX12_bestRight_26 : decode cX12_bestRight 26 = .ok (.goto 64, 3) := by decide +kernel
theorem dX12_bestRight_29 : decode cX12_bestRight 29 = .ok (.aload_n 0, 1) := by decide +kernel
theorem dX12_bestRight_30 : decode cX12_bestRight 30 = .ok (.iload 8, 2) := by decide +kernel
theorem dX12_bestRight_32 : decode cX12_bestRight 32 = .ok (.iload_n 3, 1) := by decide +kernel
theorem dX12_bestRight_33 : decode cX12_bestRight 33 = .ok (.iload 4, 2) := by decide +kernel
theorem dX12_bestRight_35 : decode cX12_bestRight 35 = .ok (.invokevirtual 334, 3) := by decide +kernel
theorem dX12_bestRight_38 : decode cX12_bestRight 38 = .ok (.istore 9, 2) := by decide +kernel
theorem dX12_bestRight_40 : decode cX12_bestRight 40 = .ok (.iload 9, 2) := by decide +kernel
theorem dX12_bestRight_42 : decode cX12_bestRight 42 = .ok (.iconst (-1), 1) := by decide +kernel
theorem dX12_bestRight_43 : decode cX12_bestRight 43 = .ok (.if_icmp .eq 47, 3) := by decide +kernel
theorem dX12_bestRight_46 : decode cX12_bestRight 46 = .ok (.iload 5, 2) := by decide +kernel
theorem dX12_bestRight_48 : decode cX12_bestRight 48 = .ok (.iconst (-1), 1) := by decide +kernel
theorem dX12_bestRight_49 : decode cX12_bestRight 49 = .ok (.if_icmp .eq 20, 3) := by decide +kernel
theorem dX12_bestRight_52 : decode cX12_bestRight 52 = .ok (.iload 9, 2) := by decide +kernel
theorem dX12_bestRight_54 : decode cX12_bestRight 54 = .ok (.iload 5, 2) := by decide +kernel
theorem dX12_bestRight_56 : decode cX12_bestRight 56 = .ok (.if_icmp .eq 13, 3) := by decide +kernel
theorem dX12_bestRight_59 : decode cX12_bestRight 59 = .ok (.iload 9, 2) := by decide +kernel
theorem dX12_bestRight_61 : decode cX12_bestRight 61 = .ok (.iload 6, 2) := by decide +kernel
theorem dX12_bestRight_63 : decode cX12_bestRight 63 = .ok (.if_icmp .eq 6, 3) := by decide +kernel
theorem dX12_bestRight_66 : decode cX12_bestRight 66 = .ok (.goto 24, 3) := by decide +kernel
theorem dX12_bestRight_69 : decode cX12_bestRight 69 = .ok (.iload 7, 2) := by decide +kernel
theorem dX12_bestRight_71 : decode cX12_bestRight 71 = .ok (.iconst (-1), 1) := by decide +kernel
theorem dX12_bestRight_72 : decode cX12_bestRight 72 = .ok (.if_icmp .eq 14, 3) := by decide +kernel
theorem dX12_bestRight_75 : decode cX12_bestRight 75 = .ok (.aload_n 0, 1) := by decide +kernel
theorem dX12_bestRight_76 : decode cX12_bestRight 76 = .ok (.iload 8, 2) := by decide +kernel
theorem dX12_bestRight_78 : decode cX12_bestRight 78 = .ok (.iload 7, 2) := by decide +kernel
theorem dX12_bestRight_80 : decode cX12_bestRight 80 = .ok (.invokevirtual 338, 3) := by decide +kernel
theorem dX12_bestRight_83 : decode cX12_bestRight 83 = .ok (.ifCond .eq 7, 3) := by decide +kernel
theorem dX12_bestRight_86 : decode cX12_bestRight 86 = .ok (.iload 8, 2) := by decide +kernel
theorem dX12_bestRight_88 : decode cX12_bestRight 88 = .ok (.istore 7, 2) := by decide +kernel
theorem dX12_bestRight_90 : decode cX12_bestRight 90 = .ok (.iinc 8 1, 3) := by decide +kernel
theorem dX12_bestRight_93 : decode cX12_bestRight 93 = .ok (.goto (-87), 3) := by decide +kernel
theorem dX12_bestRight_96 : decode cX12_bestRight 96 = .ok (.iload 7, 2) := by decide +kernel
theorem dX12_bestRight_98 : decode cX12_bestRight 98 = .ok (.ireturn, 1) := by decide +kernel
def fX12_bestRight_L6 : Nat → Int32 → Int32 → Int32 → Int32 → Int32 → Int32 → Int32 → Int32 → Hp → Option ((Int32 × Int32) × Hp)
  | 0, _, _, _, _, _, _, _, _, _ => none
  | n + 1, a1, a2, a3, a4, a5, a6, a7, a8, h => br ((gI h 12 0 9) ≤ a8) (some ((a7, a8), h)) (bd (fX12_isFor a8 a1 a2 h) (fun r1 h2 => br (r1 = 0) (lb (a8 + 1) (fun v14 => fX12_bestRight_L6 n a1 a2 a3 a4 a5 a6 a7 v14 h2)) (bd (fX12_whose a8 a3 a4 h2) (fun r3 h4 => br (r3 = (-1)) (lb (a8 + 1) (fun v5 => fX12_bestRight_L6 n a1 a2 a3 a4 a5 a6 a7 v5 h4)) (lb (fun (h7 : Hp) => br (a7 = (-1)) (lb (a8 + 1) (fun v8 => fX12_bestRight_L6 n a1 a2 a3 a4 a5 a6 a8 v8 h7)) (bd (fX12_isBetter a8 a7 h7) (fun r9 h10 => br (r9 = 0) (lb (a8 + 1) (fun v11 => fX12_bestRight_L6 n a1 a2 a3 a4 a5 a6 a7 v11 h10)) (lb (a8 + 1) (fun v12 => fX12_bestRight_L6 n a1 a2 a3 a4 a5 a6 a8 v12 h10))))) (fun j6 => br (a5 = (-1)) (j6 h4) (br (r3 = a5) (j6 h4) (br (r3 = a6) (j6 h4) (lb (a8 + 1) (fun v13 => fX12_bestRight_L6 n a1 a2 a3 a4 a5 a6 a7 v13 h4))))))))))
def fX12_bestRight (a1 : Int32) (a2 : Int32) (a3 : Int32) (a4 : Int32) (a5 : Int32) (a6 : Int32) (h : Hp) : Option (Int32 × Hp) := bd (fX12_bestRight_L6 FU a1 a2 a3 a4 a5 a6 (-1) 0 h) (fun t16 h15 => lb t16.1 (fun v17 => lb t16.2 (fun v18 => some (v17, h15))))
set_option maxRecDepth 20000 in
theorem tX12_bestRight_L6 {X : Cz} {h0 : Hp} {r : Option AV} {hE : Hp} : ∀ (n : Nat) (a1 : Int32) (a2 : Int32) (a3 : Int32) (a4 : Int32) (a5 : Int32) (a6 : Int32) (a7 : Int32) (a8 : Int32) (h : Hp) (z : (Int32 × Int32) × Hp), fX12_bestRight_L6 n a1 a2 a3 a4 a5 a6 a7 a8 h = some z → V X mX12_bestRight true h0 96 [(0, zr 12 0), (1, zi a1), (2, zi a2), (3, zi a3), (4, zi a4), (5, zi a5), (6, zi a6), (7, zi z.1.1), (8, zi z.1.2)] [] z.2 r hE → V X mX12_bestRight true h0 6 [(0, zr 12 0), (1, zi a1), (2, zi a2), (3, zi a3), (4, zi a4), (5, zi a5), (6, zi a6), (7, zi a7), (8, zi a8)] [] h r hE := by
  intro n
  induction n with
  | zero => intro a1 a2 a3 a4 a5 a6 a7 a8 h z hF k; cases hF
  | succ n ih =>
    intro a1 a2 a3 a4 a5 a6 a7 a8 h z hF k
    rw [fX12_bestRight_L6] at hF
    refine v_iload (j := 8) dX12_bestRight_6 rfl ?_
    refine v_aload_n (j := 0) dX12_bestRight_8 rfl ?_
    refine v_getI (c := 12) rfl (Or.inl rfl) cz12 flX12_316 dX12_bestRight_9 ?_
    refine v_icmp_ge dX12_bestRight_12 (by decide : _ = ((96 : Nat) : Int)) (fun q => ?_) (fun q => ?_)
    · replace hF := brT q hF
      cases hF
      exact k
    · replace hF := brF q hF
      refine v_aload_n (j := 0) dX12_bestRight_15 rfl ?_
      refine v_iload (j := 8) dX12_bestRight_16 rfl ?_
      refine v_iload_n (j := 1) dX12_bestRight_18 rfl ?_
      refine v_iload_n (j := 2) dX12_bestRight_19 rfl ?_
      replace hF := bd_use hF
      obtain ⟨r1, h2, er1, hF⟩ := hF
      refine v_cV (hm := h2) (av := [zi a8, zi a1, zi a2]) (st := []) (stn := [zi r1]) (tX12_isFor er1) lcX12_isFor mlX12_331 imX12_isFor seX12_isFor rfl rfl rfl rfl ⟨by decide, by decide⟩ (Nat.le_of_ble_eq_true rfl) dX12_bestRight_20 rfl rfl ?_
      clear er1
      refine v_if_ne dX12_bestRight_23 (by decide : _ = ((29 : Nat) : Int)) (fun q => ?_) (fun q => ?_)
      · replace hF := brF q hF
        refine v_aload_n (j := 0) dX12_bestRight_29 rfl ?_
        refine v_iload (j := 8) dX12_bestRight_30 rfl ?_
        refine v_iload_n (j := 3) dX12_bestRight_32 rfl ?_
        refine v_iload (j := 4) dX12_bestRight_33 rfl ?_
        replace hF := bd_use hF
        obtain ⟨r3, h4, er3, hF⟩ := hF
        refine v_cV (hm := h4) (av := [zi a8, zi a3, zi a4]) (st := []) (stn := [zi r3]) (tX12_whose er3) lcX12_whose mlX12_334 imX12_whose seX12_whose rfl rfl rfl rfl ⟨by decide, by decide⟩ (Nat.le_of_ble_eq_true rfl) dX12_bestRight_35 rfl rfl ?_
        clear er3
        refine v_istore (ls' := [(9, zi r3), (0, zr 12 0), (1, zi a1), (2, zi a2), (3, zi a3), (4, zi a4), (5, zi a5), (6, zi a6), (7, zi a7), (8, zi a8)]) dX12_bestRight_38 (by decide) rfl ?_
        refine v_iload (j := 0) dX12_bestRight_40 rfl ?_
        refine v_iconst (v := (-1)) dX12_bestRight_42 (by decide) ?_
        refine v_icmp_eq dX12_bestRight_43 (by decide : _ = ((90 : Nat) : Int)) (fun q => ?_) (fun q => ?_)
        · replace hF := brT q hF
          obtain ⟨v5, ev5⟩ : ∃ y : Int32, y = a8 + 1 := ⟨_, rfl⟩
          replace hF := lb_use ev5 hF
          refine v_iinc (j := 9) (v := v5) (ls' := [(8, zi v5), (9, zi r3), (0, zr 12 0), (1, zi a1), (2, zi a2), (3, zi a3), (4, zi a4), (5, zi a5), (6, zi a6), (7, zi a7)]) dX12_bestRight_90 rfl (by rw [ev5]; rfl) (by decide) rfl ?_
          clear ev5
          refine v_goto (tgt := 6) dX12_bestRight_93 (by decide) ?_
          refine v_sub [2, 3, 4, 5, 6, 7, 8, 9, 0] rfl ?_
          exact ih a1 a2 a3 a4 a5 a6 a7 v5 h4 _ hF k
        · replace hF := brF q hF
          refine v_iload (j := 6) dX12_bestRight_46 rfl ?_
          refine v_iconst (v := (-1)) dX12_bestRight_48 (by decide) ?_
          replace hF := lb_ex hF
          obtain ⟨j6, ej6, hF⟩ := hF
          have j6V : ∀ (h7 : Hp), j6 h7 = some z → V X mX12_bestRight true h0 69 [(0, zr 12 0), (1, zi a1), (2, zi a2), (3, zi a3), (4, zi a4), (5, zi a5), (6, zi a6), (7, zi a7), (8, zi a8)] [] h7 r hE := by
            intro h7 hF
            subst ej6
            refine v_iload (j := 7) dX12_bestRight_69 rfl ?_
            refine v_iconst (v := (-1)) dX12_bestRight_71 (by decide) ?_
            refine v_icmp_eq dX12_bestRight_72 (by decide : _ = ((86 : Nat) : Int)) (fun q => ?_) (fun q => ?_)
            · replace hF := brT q hF
              refine v_iload (j := 8) dX12_bestRight_86 rfl ?_
              refine v_istore (ls' := [(7, zi a8), (0, zr 12 0), (1, zi a1), (2, zi a2), (3, zi a3), (4, zi a4), (5, zi a5), (6, zi a6), (8, zi a8)]) dX12_bestRight_88 (by decide) rfl ?_
              obtain ⟨v8, ev8⟩ : ∃ y : Int32, y = a8 + 1 := ⟨_, rfl⟩
              replace hF := lb_use ev8 hF
              refine v_iinc (j := 8) (v := v8) (ls' := [(8, zi v8), (7, zi a8), (0, zr 12 0), (1, zi a1), (2, zi a2), (3, zi a3), (4, zi a4), (5, zi a5), (6, zi a6)]) dX12_bestRight_90 rfl (by rw [ev8]; rfl) (by decide) rfl ?_
              clear ev8
              refine v_goto (tgt := 6) dX12_bestRight_93 (by decide) ?_
              refine v_sub [2, 3, 4, 5, 6, 7, 8, 1, 0] rfl ?_
              exact ih a1 a2 a3 a4 a5 a6 a8 v8 h7 _ hF k
            · replace hF := brF q hF
              refine v_aload_n (j := 0) dX12_bestRight_75 rfl ?_
              refine v_iload (j := 8) dX12_bestRight_76 rfl ?_
              refine v_iload (j := 7) dX12_bestRight_78 rfl ?_
              replace hF := bd_use hF
              obtain ⟨r9, h10, er9, hF⟩ := hF
              refine v_cV (hm := h10) (av := [zi a8, zi a7]) (st := []) (stn := [zi r9]) (tX12_isBetter er9) lcX12_isBetter mlX12_338 imX12_isBetter seX12_isBetter rfl rfl rfl rfl ⟨by decide, by decide⟩ (Nat.le_of_ble_eq_true rfl) dX12_bestRight_80 rfl rfl ?_
              clear er9
              refine v_if_eq dX12_bestRight_83 (by decide : _ = ((90 : Nat) : Int)) (fun q => ?_) (fun q => ?_)
              · replace hF := brT q hF
                obtain ⟨v11, ev11⟩ : ∃ y : Int32, y = a8 + 1 := ⟨_, rfl⟩
                replace hF := lb_use ev11 hF
                refine v_iinc (j := 8) (v := v11) (ls' := [(8, zi v11), (0, zr 12 0), (1, zi a1), (2, zi a2), (3, zi a3), (4, zi a4), (5, zi a5), (6, zi a6), (7, zi a7)]) dX12_bestRight_90 rfl (by rw [ev11]; rfl) (by decide) rfl ?_
                clear ev11
                refine v_goto (tgt := 6) dX12_bestRight_93 (by decide) ?_
                refine v_sub [1, 2, 3, 4, 5, 6, 7, 8, 0] rfl ?_
                exact ih a1 a2 a3 a4 a5 a6 a7 v11 h10 _ hF k
              · replace hF := brF q hF
                refine v_iload (j := 8) dX12_bestRight_86 rfl ?_
                refine v_istore (ls' := [(7, zi a8), (0, zr 12 0), (1, zi a1), (2, zi a2), (3, zi a3), (4, zi a4), (5, zi a5), (6, zi a6), (8, zi a8)]) dX12_bestRight_88 (by decide) rfl ?_
                obtain ⟨v12, ev12⟩ : ∃ y : Int32, y = a8 + 1 := ⟨_, rfl⟩
                replace hF := lb_use ev12 hF
                refine v_iinc (j := 8) (v := v12) (ls' := [(8, zi v12), (7, zi a8), (0, zr 12 0), (1, zi a1), (2, zi a2), (3, zi a3), (4, zi a4), (5, zi a5), (6, zi a6)]) dX12_bestRight_90 rfl (by rw [ev12]; rfl) (by decide) rfl ?_
                clear ev12
                refine v_goto (tgt := 6) dX12_bestRight_93 (by decide) ?_
                refine v_sub [2, 3, 4, 5, 6, 7, 8, 1, 0] rfl ?_
                exact ih a1 a2 a3 a4 a5 a6 a8 v12 h10 _ hF k
          clear ej6
          refine v_icmp_eq dX12_bestRight_49 (by decide : _ = ((69 : Nat) : Int)) (fun q => ?_) (fun q => ?_)
          · replace hF := brT q hF
            refine v_sub [1, 2, 3, 4, 5, 6, 7, 8, 9] rfl ?_
            exact j6V h4 hF
          · replace hF := brF q hF
            refine v_iload (j := 0) dX12_bestRight_52 rfl ?_
            refine v_iload (j := 6) dX12_bestRight_54 rfl ?_
            refine v_icmp_eq dX12_bestRight_56 (by decide : _ = ((69 : Nat) : Int)) (fun q => ?_) (fun q => ?_)
            · replace hF := brT q hF
              refine v_sub [1, 2, 3, 4, 5, 6, 7, 8, 9] rfl ?_
              exact j6V h4 hF
            · replace hF := brF q hF
              refine v_iload (j := 0) dX12_bestRight_59 rfl ?_
              refine v_iload (j := 7) dX12_bestRight_61 rfl ?_
              refine v_icmp_eq dX12_bestRight_63 (by decide : _ = ((69 : Nat) : Int)) (fun q => ?_) (fun q => ?_)
              · replace hF := brT q hF
                refine v_sub [1, 2, 3, 4, 5, 6, 7, 8, 9] rfl ?_
                exact j6V h4 hF
              · replace hF := brF q hF
                refine v_goto (tgt := 90) dX12_bestRight_66 (by decide) ?_
                obtain ⟨v13, ev13⟩ : ∃ y : Int32, y = a8 + 1 := ⟨_, rfl⟩
                replace hF := lb_use ev13 hF
                refine v_iinc (j := 9) (v := v13) (ls' := [(8, zi v13), (9, zi r3), (0, zr 12 0), (1, zi a1), (2, zi a2), (3, zi a3), (4, zi a4), (5, zi a5), (6, zi a6), (7, zi a7)]) dX12_bestRight_90 rfl (by rw [ev13]; rfl) (by decide) rfl ?_
                clear ev13
                refine v_goto (tgt := 6) dX12_bestRight_93 (by decide) ?_
                refine v_sub [2, 3, 4, 5, 6, 7, 8, 9, 0] rfl ?_
                exact ih a1 a2 a3 a4 a5 a6 a7 v13 h4 _ hF k
      · replace hF := brT (Decidable.not_not.mp q) hF
        refine v_goto (tgt := 90) dX12_bestRight_26 (by decide) ?_
        obtain ⟨v14, ev14⟩ : ∃ y : Int32, y = a8 + 1 := ⟨_, rfl⟩
        replace hF := lb_use ev14 hF
        refine v_iinc (j := 8) (v := v14) (ls' := [(8, zi v14), (0, zr 12 0), (1, zi a1), (2, zi a2), (3, zi a3), (4, zi a4), (5, zi a5), (6, zi a6), (7, zi a7)]) dX12_bestRight_90 rfl (by rw [ev14]; rfl) (by decide) rfl ?_
        clear ev14
        refine v_goto (tgt := 6) dX12_bestRight_93 (by decide) ?_
        refine v_sub [1, 2, 3, 4, 5, 6, 7, 8, 0] rfl ?_
        exact ih a1 a2 a3 a4 a5 a6 a7 v14 h2 _ hF k
set_option maxRecDepth 20000 in
theorem tX12_bestRight {X : Cz} {a1 : Int32} {a2 : Int32} {a3 : Int32} {a4 : Int32} {a5 : Int32} {a6 : Int32} {h hE : Hp} {rE : Int32} (hF : fX12_bestRight a1 a2 a3 a4 a5 a6 h = some (rE, hE)) : Ct X mX12_bestRight true [zr 12 0, zi a1, zi a2, zi a3, zi a4, zi a5, zi a6] h (some (zi rE)) hE := by
  refine Ct_of (by decide) (Nat.le_of_ble_eq_true rfl) (ls := [(0, zr 12 0), (1, zi a1), (2, zi a2), (3, zi a3), (4, zi a4), (5, zi a5), (6, zi a6)]) rfl ?_
  unfold fX12_bestRight at hF
  refine v_iconst (v := (-1)) dX12_bestRight_0 (by decide) ?_
  refine v_istore (ls' := [(7, zi (-1)), (0, zr 12 0), (1, zi a1), (2, zi a2), (3, zi a3), (4, zi a4), (5, zi a5), (6, zi a6)]) dX12_bestRight_1 (by decide) rfl ?_
  refine v_iconst (v := 0) dX12_bestRight_3 (by decide) ?_
  refine v_istore (ls' := [(8, zi 0), (7, zi (-1)), (0, zr 12 0), (1, zi a1), (2, zi a2), (3, zi a3), (4, zi a4), (5, zi a5), (6, zi a6)]) dX12_bestRight_4 (by decide) rfl ?_
  refine v_sub [2, 3, 4, 5, 6, 7, 8, 1, 0] rfl ?_
  replace hF := bd_use hF
  obtain ⟨t16, h15, et16, hF⟩ := hF
  refine tX12_bestRight_L6 _ a1 a2 a3 a4 a5 a6 (-1) 0 h _ et16 ?_
  clear et16
  obtain ⟨v17, v18⟩ := t16
  replace hF := lb_use (x := v17) rfl hF
  replace hF := lb_use (x := v18) rfl hF
  refine v_iload (j := 7) dX12_bestRight_96 rfl ?_
  obtain ⟨rfl, rfl⟩ := ret_use hF
  exact v_iret rfl dX12_bestRight_98
theorem dX12_ownerOf_0 : decode cX12_ownerOf 0 = .ok (.aload_n 0, 1) := by decide +kernel
theorem dX12_ownerOf_1 : decode cX12_ownerOf 1 = .ok (.iload_n 1, 1) := by decide +kernel
theorem dX12_ownerOf_2 : decode cX12_ownerOf 2 = .ok (.iload_n 2, 1) := by decide +kernel
theorem dX12_ownerOf_3 : decode cX12_ownerOf 3 = .ok (.iload_n 3, 1) := by decide +kernel
theorem dX12_ownerOf_4 : decode cX12_ownerOf 4 = .ok (.iload 4, 2) := by decide +kernel
theorem dX12_ownerOf_6 : decode cX12_ownerOf 6 = .ok (.iconst (-1), 1) := by decide +kernel
theorem dX12_ownerOf_7 : decode cX12_ownerOf 7 = .ok (.iconst (-1), 1) := by decide +kernel
theorem dX12_ownerOf_8 : decode cX12_ownerOf 8 = .ok (.invokevirtual 341, 3) := by decide +kernel
theorem dX12_ownerOf_11 : decode cX12_ownerOf 11 = .ok (.istore 5, 2) := by decide +kernel
theorem dX12_ownerOf_13 : decode cX12_ownerOf 13 = .ok (.iload 5, 2) := by decide +kernel
theorem dX12_ownerOf_15 : decode cX12_ownerOf 15 = .ok (.iconst (-1), 1) := by decide +kernel
theorem dX12_ownerOf_16 : decode cX12_ownerOf 16 = .ok (.if_icmp .ne 7, 3) := by decide +kernel
theorem dX12_ownerOf_19 : decode cX12_ownerOf 19 = .ok (.iconst (-1), 1) := by decide +kernel
theorem dX12_ownerOf_20 : decode cX12_ownerOf 20 = .ok (.goto 12, 3) := by decide +kernel
theorem dX12_ownerOf_23 : decode cX12_ownerOf 23 = .ok (.aload_n 0, 1) := by decide +kernel
theorem dX12_ownerOf_24 : decode cX12_ownerOf 24 = .ok (.iload 5, 2) := by decide +kernel
theorem dX12_ownerOf_26 : decode cX12_ownerOf 26 = .ok (.iload_n 3, 1) := by decide +kernel
theorem dX12_ownerOf_27 : decode cX12_ownerOf 27 = .ok (.iload 4, 2) := by decide +kernel
theorem dX12_ownerOf_29 : decode cX12_ownerOf 29 = .ok (.invokevirtual 334, 3) := by decide +kernel
theorem dX12_ownerOf_32 : decode cX12_ownerOf 32 = .ok (.ireturn, 1) := by decide +kernel
def fX12_ownerOf (a1 : Int32) (a2 : Int32) (a3 : Int32) (a4 : Int32) (h : Hp) : Option (Int32 × Hp) := bd (fX12_bestRight a1 a2 a3 a4 (-1) (-1) h) (fun r1 h2 => br (r1 = (-1)) (some ((-1), h2)) (bd (fX12_whose r1 a3 a4 h2) (fun r3 h4 => some (r3, h4))))
set_option maxRecDepth 20000 in
theorem tX12_ownerOf {X : Cz} {a1 : Int32} {a2 : Int32} {a3 : Int32} {a4 : Int32} {h hE : Hp} {rE : Int32} (hF : fX12_ownerOf a1 a2 a3 a4 h = some (rE, hE)) : Ct X mX12_ownerOf true [zr 12 0, zi a1, zi a2, zi a3, zi a4] h (some (zi rE)) hE := by
  refine Ct_of (by decide) (Nat.le_of_ble_eq_true rfl) (ls := [(0, zr 12 0), (1, zi a1), (2, zi a2), (3, zi a3), (4, zi a4)]) rfl ?_
  unfold fX12_ownerOf at hF
  refine v_aload_n (j := 0) dX12_ownerOf_0 rfl ?_
  refine v_iload_n (j := 1) dX12_ownerOf_1 rfl ?_
  refine v_iload_n (j := 2) dX12_ownerOf_2 rfl ?_
  refine v_iload_n (j := 3) dX12_ownerOf_3 rfl ?_
  refine v_iload (j := 4) dX12_ownerOf_4 rfl ?_
  refine v_iconst (v := (-1)) dX12_ownerOf_6 (by decide) ?_
  refine v_iconst (v := (-1)) dX12_ownerOf_7 (by decide) ?_
  replace hF := bd_use hF
  obtain ⟨r1, h2, er1, hF⟩ := hF
  refine v_cV (hm := h2) (av := [zi a1, zi a2, zi a3, zi a4, zi (-1), zi (-1)]) (st := []) (stn := [zi r1]) (tX12_bestRight er1) lcX12_bestRight mlX12_341 imX12_bestRight seX12_bestRight rfl rfl rfl rfl ⟨by decide, by decide⟩ (Nat.le_of_ble_eq_true rfl) dX12_ownerOf_8 rfl rfl ?_
  clear er1
  refine v_istore (ls' := [(5, zi r1), (0, zr 12 0), (1, zi a1), (2, zi a2), (3, zi a3), (4, zi a4)]) dX12_ownerOf_11 (by decide) rfl ?_
  refine v_iload (j := 0) dX12_ownerOf_13 rfl ?_
  refine v_iconst (v := (-1)) dX12_ownerOf_15 (by decide) ?_
  refine v_icmp_ne dX12_ownerOf_16 (by decide : _ = ((23 : Nat) : Int)) (fun q => ?_) (fun q => ?_)
  · replace hF := brF q hF
    refine v_aload_n (j := 1) dX12_ownerOf_23 rfl ?_
    refine v_iload (j := 0) dX12_ownerOf_24 rfl ?_
    refine v_iload_n (j := 4) dX12_ownerOf_26 rfl ?_
    refine v_iload (j := 5) dX12_ownerOf_27 rfl ?_
    replace hF := bd_use hF
    obtain ⟨r3, h4, er3, hF⟩ := hF
    refine v_cV (hm := h4) (av := [zi r1, zi a3, zi a4]) (st := []) (stn := [zi r3]) (tX12_whose er3) lcX12_whose mlX12_334 imX12_whose seX12_whose rfl rfl rfl rfl ⟨by decide, by decide⟩ (Nat.le_of_ble_eq_true rfl) dX12_ownerOf_29 rfl rfl ?_
    clear er3
    obtain ⟨rfl, rfl⟩ := ret_use hF
    exact v_iret rfl dX12_ownerOf_32
  · replace hF := brT (Decidable.not_not.mp q) hF
    refine v_iconst (v := (-1)) dX12_ownerOf_19 (by decide) ?_
    refine v_goto (tgt := 32) dX12_ownerOf_20 (by decide) ?_
    obtain ⟨rfl, rfl⟩ := ret_use hF
    exact v_iret rfl dX12_ownerOf_32
theorem dX12_areYears_0 : decode cX12_areYears 0 = .ok (.iload_n 1, 1) := by decide +kernel
theorem dX12_areYears_1 : decode cX12_areYears 1 = .ok (.i2l, 1) := by decide +kernel
theorem dX12_areYears_2 : decode cX12_areYears 2 = .ok (.lconst 0, 1) := by decide +kernel
theorem dX12_areYears_3 : decode cX12_areYears 3 = .ok (.ldc2_w 321, 3) := by decide +kernel
theorem dX12_areYears_6 : decode cX12_areYears 6 = .ok (.invokestatic 213, 3) := by decide +kernel
theorem dX12_areYears_9 : decode cX12_areYears 9 = .ok (.ifCond .eq 21, 3) := by decide +kernel
theorem dX12_areYears_12 : decode cX12_areYears 12 = .ok (.iload_n 2, 1) := by decide +kernel
theorem dX12_areYears_13 : decode cX12_areYears 13 = .ok (.i2l, 1) := by decide +kernel
theorem dX12_areYears_14 : decode cX12_areYears 14 = .ok (.lconst 0, 1) := by decide +kernel
theorem dX12_areYears_15 : decode cX12_areYears 15 = .ok (.aload_n 0, 1) := by decide +kernel
theorem dX12_areYears_16 : decode cX12_areYears 16 = .ok (.getfield 251, 3) := by decide +kernel
theorem dX12_areYears_19 : decode cX12_areYears 19 = .ok (.i2l, 1) := by decide +kernel
theorem dX12_areYears_20 : decode cX12_areYears 20 = .ok (.invokestatic 213, 3) := by decide +kernel
theorem dX12_areYears_23 : decode cX12_areYears 23 = .ok (.ifCond .eq 7, 3) := by decide +kernel
theorem dX12_areYears_26 : decode cX12_areYears 26 = .ok (.iconst 1, 1) := by decide +kernel
theorem dX12_areYears_27 : decode cX12_areYears 27 = .ok (.goto 4, 3) := by decide +kernel
theorem dX12_areYears_30 : decode cX12_areYears 30 = .ok (.iconst 0, 1) := by decide +kernel
theorem dX12_areYears_31 : decode cX12_areYears 31 = .ok (.ireturn, 1) := by decide +kernel
def fX12_areYears (a1 : Int32) (a2 : Int32) (h : Hp) : Int32 := br ((fX12_in a1.toInt64 0 199 h) = 0) (0) (br ((fX12_in a2.toInt64 0 ((gI h 12 0 5).toInt64) h) = 0) (0) (1))
set_option maxRecDepth 20000 in
theorem tX12_areYears {X : Cz} (a1 : Int32) (a2 : Int32) (h : Hp) : Ct X mX12_areYears true [zr 12 0, zi a1, zi a2] h (some (zi (fX12_areYears a1 a2 h))) h := by
  refine Ct_of (by decide) (Nat.le_of_ble_eq_true rfl) (ls := [(0, zr 12 0), (1, zi a1), (2, zi a2)]) rfl ?_
  obtain ⟨rE, hF⟩ : ∃ z, fX12_areYears a1 a2 h = z := ⟨_, rfl⟩
  rw [hF]
  unfold fX12_areYears at hF
  refine v_iload_n (j := 1) dX12_areYears_0 rfl ?_
  refine v_i2l dX12_areYears_1 ?_
  refine v_lconst (v := 0) dX12_areYears_2 (by decide) ?_
  refine v_ldc2 dX12_areYears_3 kcX12_321 ?_
  refine v_cS (hm := h) (av := [zj a1.toInt64, zj 0, zj 199]) (st := []) (stn := [zi (fX12_in a1.toInt64 0 199 h)]) (tX12_in a1.toInt64 0 199 h) lcX12_in mlX12_213 sxX12_in rfl ⟨by decide, by decide⟩ (Nat.le_of_ble_eq_true rfl) dX12_areYears_6 rfl rfl ?_
  refine v_if_eq dX12_areYears_9 (by decide : _ = ((30 : Nat) : Int)) (fun q => ?_) (fun q => ?_)
  · replace hF := brT q hF
    refine v_iconst (v := 0) dX12_areYears_30 (by decide) ?_
    subst hF
    exact v_zret rfl (Or.inl rfl) dX12_areYears_31
  · replace hF := brF q hF
    refine v_iload_n (j := 2) dX12_areYears_12 rfl ?_
    refine v_i2l dX12_areYears_13 ?_
    refine v_lconst (v := 0) dX12_areYears_14 (by decide) ?_
    refine v_aload_n (j := 0) dX12_areYears_15 rfl ?_
    refine v_getI (c := 12) rfl (Or.inl rfl) cz12 flX12_251 dX12_areYears_16 ?_
    refine v_i2l dX12_areYears_19 ?_
    refine v_cS (hm := h) (av := [zj a2.toInt64, zj 0, zj ((gI h 12 0 5).toInt64)]) (st := []) (stn := [zi (fX12_in a2.toInt64 0 ((gI h 12 0 5).toInt64) h)]) (tX12_in a2.toInt64 0 ((gI h 12 0 5).toInt64) h) lcX12_in mlX12_213 sxX12_in rfl ⟨by decide, by decide⟩ (Nat.le_of_ble_eq_true rfl) dX12_areYears_20 rfl rfl ?_
    refine v_if_eq dX12_areYears_23 (by decide : _ = ((30 : Nat) : Int)) (fun q => ?_) (fun q => ?_)
    · replace hF := brT q hF
      refine v_iconst (v := 0) dX12_areYears_30 (by decide) ?_
      subst hF
      exact v_zret rfl (Or.inl rfl) dX12_areYears_31
    · replace hF := brF q hF
      refine v_iconst (v := 1) dX12_areYears_26 (by decide) ?_
      refine v_goto (tgt := 31) dX12_areYears_27 (by decide) ?_
      subst hF
      exact v_zret rfl (Or.inr rfl) dX12_areYears_31
theorem zX12_areYears (a1 : Int32) (a2 : Int32) (h : Hp) : fX12_areYears a1 a2 h = 0 ∨ fX12_areYears a1 a2 h = 1 := by
  unfold fX12_areYears
  try unfold br
  try unfold lb
  try dsimp only
  repeat' split
  all_goals first | exact Or.inl rfl | exact Or.inr rfl | exact zX12_in _ _ _ _ 
theorem dX12_belongs_0 : decode cX12_belongs 0 = .ok (.aload_n 0, 1) := by decide +kernel
theorem dX12_belongs_1 : decode cX12_belongs 1 = .ok (.iconst 0, 1) := by decide +kernel
theorem dX12_belongs_2 : decode cX12_belongs 2 = .ok (.putfield 208, 3) := by decide +kernel
theorem dX12_belongs_5 : decode cX12_belongs 5 = .ok (.aload_n 0, 1) := by decide +kernel
theorem dX12_belongs_6 : decode cX12_belongs 6 = .ok (.iload_n 1, 1) := by decide +kernel
theorem dX12_belongs_7 : decode cX12_belongs 7 = .ok (.iload_n 2, 1) := by decide +kernel
theorem dX12_belongs_8 : decode cX12_belongs 8 = .ok (.invokevirtual 283, 3) := by decide +kernel
theorem dX12_belongs_11 : decode cX12_belongs 11 = .ok (.ifCond .eq 24, 3) := by decide +kernel
theorem dX12_belongs_14 : decode cX12_belongs 14 = .ok (.aload_n 0, 1) := by decide +kernel
theorem dX12_belongs_15 : decode cX12_belongs 15 = .ok (.iload_n 3, 1) := by decide +kernel
theorem dX12_belongs_16 : decode cX12_belongs 16 = .ok (.iload 4, 2) := by decide +kernel
theorem dX12_belongs_18 : decode cX12_belongs 18 = .ok (.invokevirtual 345, 3) := by decide +kernel
theorem dX12_belongs_21 : decode cX12_belongs 21 = .ok (.ifCond .eq 14, 3) := by decide +kernel
theorem dX12_belongs_24 : decode cX12_belongs 24 = .ok (.iload 5, 2) := by decide +kernel
theorem dX12_belongs_26 : decode cX12_belongs 26 = .ok (.i2l, 1) := by decide +kernel
theorem dX12_belongs_27 : decode cX12_belongs 27 = .ok (.lconst 0, 1) := by decide +kernel
theorem dX12_belongs_28 : decode cX12_belongs 28 = .ok (.lconst 1, 1) := by decide +kernel
theorem dX12_belongs_29 : decode cX12_belongs 29 = .ok (.invokestatic 213, 3) := by decide +kernel
theorem dX12_belongs_32 : decode cX12_belongs 32 = .ok (.ifCond .ne 6, 3) := by decide +kernel
theorem dX12_belongs_35 : decode cX12_belongs 35 = .ok (.bipush (-2), 2) := by decide +kernel
theorem dX12_belongs_37 : decode cX12_belongs 37 = .ok (.ireturn, 1) := by decide +kernel
theorem dX12_belongs_38 : decode cX12_belongs 38 = .ok (.iload 5, 2) := by decide +kernel
theorem dX12_belongs_40 : decode cX12_belongs 40 = .ok (.ifCond .ne 15, 3) := by decide +kernel
theorem dX12_belongs_43 : decode cX12_belongs 43 = .ok (.aload_n 0, 1) := by decide +kernel
theorem dX12_belongs_44 : decode cX12_belongs 44 = .ok (.iload_n 1, 1) := by decide +kernel
theorem dX12_belongs_45 : decode cX12_belongs 45 = .ok (.iload_n 2, 1) := by decide +kernel
theorem dX12_belongs_46 : decode cX12_belongs 46 = .ok (.iload_n 3, 1) := by decide +kernel
theorem dX12_belongs_47 : decode cX12_belongs 47 = .ok (.iload 4, 2) := by decide +kernel
theorem dX12_belongs_49 : decode cX12_belongs 49 = .ok (.invokevirtual 348, 3) := by decide +kernel
theorem dX12_belongs_52 : decode cX12_belongs 52 = .ok (.goto 14, 3) := by decide +kernel
theorem dX12_belongs_55 : decode cX12_belongs 55 = .ok (.aload_n 0, 1) := by decide +kernel
theorem dX12_belongs_56 : decode cX12_belongs 56 = .ok (.iload_n 1, 1) := by decide +kernel
theorem dX12_belongs_57 : decode cX12_belongs 57 = .ok (.iload_n 2, 1) := by decide +kernel
theorem dX12_belongs_58 : decode cX12_belongs 58 = .ok (.iload_n 3, 1) := by decide +kernel
theorem dX12_belongs_59 : decode cX12_belongs 59 = .ok (.iload 4, 2) := by decide +kernel
theorem dX12_belongs_61 : decode cX12_belongs 61 = .ok (.iconst (-1), 1) := by decide +kernel
theorem dX12_belongs_62 : decode cX12_belongs 62 = .ok (.iconst (-1), 1) := by decide +kernel
theorem dX12_belongs_63 : decode cX12_belongs 63 = .ok (.invokevirtual 341, 3) := by decide +kernel
theorem dX12_belongs_66 : decode cX12_belongs 66 = .ok (.ireturn, 1) := by decide +kernel
def fX12_belongs (a1 : Int32) (a2 : Int32) (a3 : Int32) (a4 : Int32) (a5 : Int32) (h : Hp) : Option (Int32 × Hp) := lb (sI h 12 0 0 0) (fun h1 => bd (fX12_isUnit a1 a2 h1) (fun r2 h3 => br (r2 = 0) (some ((-2), h3)) (br ((fX12_areYears a3 a4 h3) = 0) (some ((-2), h3)) (br ((fX12_in a5.toInt64 0 1 h3) = 0) (some ((-2), h3)) (br (a5 = 0) (bd (fX12_ownerOf a1 a2 a3 a4 h3) (fun r6 h7 => some (r6, h7))) (bd (fX12_bestRight a1 a2 a3 a4 (-1) (-1) h3) (fun r4 h5 => some (r4, h5))))))))
set_option maxRecDepth 20000 in
theorem tX12_belongs {X : Cz} {a1 : Int32} {a2 : Int32} {a3 : Int32} {a4 : Int32} {a5 : Int32} {h hE : Hp} {rE : Int32} (hF : fX12_belongs a1 a2 a3 a4 a5 h = some (rE, hE)) : Ct X mX12_belongs true [zr 12 0, zi a1, zi a2, zi a3, zi a4, zi a5] h (some (zi rE)) hE := by
  refine Ct_of (by decide) (Nat.le_of_ble_eq_true rfl) (ls := [(0, zr 12 0), (1, zi a1), (2, zi a2), (3, zi a3), (4, zi a4), (5, zi a5)]) rfl ?_
  unfold fX12_belongs at hF
  refine v_aload_n (j := 0) dX12_belongs_0 rfl ?_
  refine v_iconst (v := 0) dX12_belongs_1 (by decide) ?_
  refine v_putI (c := 12) rfl rfl (Nat.le_of_ble_eq_true rfl) cz12 flX12_208 dX12_belongs_2 ?_
  refine v_toph fun h1 eh1 => ?_
  replace hF := lb_use eh1 hF
  clear eh1
  refine v_aload_n (j := 0) dX12_belongs_5 rfl ?_
  refine v_iload_n (j := 1) dX12_belongs_6 rfl ?_
  refine v_iload_n (j := 2) dX12_belongs_7 rfl ?_
  replace hF := bd_use hF
  obtain ⟨r2, h3, er2, hF⟩ := hF
  refine v_cV (hm := h3) (av := [zi a1, zi a2]) (st := []) (stn := [zi r2]) (tX12_isUnit er2) lcX12_isUnit mlX12_283 imX12_isUnit seX12_isUnit rfl rfl rfl rfl ⟨by decide, by decide⟩ (Nat.le_of_ble_eq_true rfl) dX12_belongs_8 rfl rfl ?_
  clear er2
  refine v_if_eq dX12_belongs_11 (by decide : _ = ((35 : Nat) : Int)) (fun q => ?_) (fun q => ?_)
  · replace hF := brT q hF
    refine v_bipush (v := (-2)) dX12_belongs_35 (by decide) ?_
    obtain ⟨rfl, rfl⟩ := ret_use hF
    exact v_iret rfl dX12_belongs_37
  · replace hF := brF q hF
    refine v_aload_n (j := 0) dX12_belongs_14 rfl ?_
    refine v_iload_n (j := 3) dX12_belongs_15 rfl ?_
    refine v_iload (j := 4) dX12_belongs_16 rfl ?_
    refine v_cV (hm := h3) (av := [zi a3, zi a4]) (st := []) (stn := [zi (fX12_areYears a3 a4 h3)]) (tX12_areYears a3 a4 h3) lcX12_areYears mlX12_345 imX12_areYears seX12_areYears rfl rfl rfl rfl ⟨by decide, by decide⟩ (Nat.le_of_ble_eq_true rfl) dX12_belongs_18 rfl rfl ?_
    refine v_if_eq dX12_belongs_21 (by decide : _ = ((35 : Nat) : Int)) (fun q => ?_) (fun q => ?_)
    · replace hF := brT q hF
      refine v_bipush (v := (-2)) dX12_belongs_35 (by decide) ?_
      obtain ⟨rfl, rfl⟩ := ret_use hF
      exact v_iret rfl dX12_belongs_37
    · replace hF := brF q hF
      refine v_iload (j := 5) dX12_belongs_24 rfl ?_
      refine v_i2l dX12_belongs_26 ?_
      refine v_lconst (v := 0) dX12_belongs_27 (by decide) ?_
      refine v_lconst (v := 1) dX12_belongs_28 (by decide) ?_
      refine v_cS (hm := h3) (av := [zj a5.toInt64, zj 0, zj 1]) (st := []) (stn := [zi (fX12_in a5.toInt64 0 1 h3)]) (tX12_in a5.toInt64 0 1 h3) lcX12_in mlX12_213 sxX12_in rfl ⟨by decide, by decide⟩ (Nat.le_of_ble_eq_true rfl) dX12_belongs_29 rfl rfl ?_
      refine v_if_ne dX12_belongs_32 (by decide : _ = ((38 : Nat) : Int)) (fun q => ?_) (fun q => ?_)
      · replace hF := brF q hF
        refine v_iload (j := 5) dX12_belongs_38 rfl ?_
        refine v_if_ne dX12_belongs_40 (by decide : _ = ((55 : Nat) : Int)) (fun q => ?_) (fun q => ?_)
        · replace hF := brF q hF
          refine v_aload_n (j := 0) dX12_belongs_55 rfl ?_
          refine v_iload_n (j := 1) dX12_belongs_56 rfl ?_
          refine v_iload_n (j := 2) dX12_belongs_57 rfl ?_
          refine v_iload_n (j := 3) dX12_belongs_58 rfl ?_
          refine v_iload (j := 4) dX12_belongs_59 rfl ?_
          refine v_iconst (v := (-1)) dX12_belongs_61 (by decide) ?_
          refine v_iconst (v := (-1)) dX12_belongs_62 (by decide) ?_
          replace hF := bd_use hF
          obtain ⟨r4, h5, er4, hF⟩ := hF
          refine v_cV (hm := h5) (av := [zi a1, zi a2, zi a3, zi a4, zi (-1), zi (-1)]) (st := []) (stn := [zi r4]) (tX12_bestRight er4) lcX12_bestRight mlX12_341 imX12_bestRight seX12_bestRight rfl rfl rfl rfl ⟨by decide, by decide⟩ (Nat.le_of_ble_eq_true rfl) dX12_belongs_63 rfl rfl ?_
          clear er4
          obtain ⟨rfl, rfl⟩ := ret_use hF
          exact v_iret rfl dX12_belongs_66
        · replace hF := brT (Decidable.not_not.mp q) hF
          refine v_aload_n (j := 0) dX12_belongs_43 rfl ?_
          refine v_iload_n (j := 1) dX12_belongs_44 rfl ?_
          refine v_iload_n (j := 2) dX12_belongs_45 rfl ?_
          refine v_iload_n (j := 3) dX12_belongs_46 rfl ?_
          refine v_iload (j := 4) dX12_belongs_47 rfl ?_
          replace hF := bd_use hF
          obtain ⟨r6, h7, er6, hF⟩ := hF
          refine v_cV (hm := h7) (av := [zi a1, zi a2, zi a3, zi a4]) (st := []) (stn := [zi r6]) (tX12_ownerOf er6) lcX12_ownerOf mlX12_348 imX12_ownerOf seX12_ownerOf rfl rfl rfl rfl ⟨by decide, by decide⟩ (Nat.le_of_ble_eq_true rfl) dX12_belongs_49 rfl rfl ?_
          clear er6
          refine v_goto (tgt := 66) dX12_belongs_52 (by decide) ?_
          obtain ⟨rfl, rfl⟩ := ret_use hF
          exact v_iret rfl dX12_belongs_66
      · replace hF := brT (Decidable.not_not.mp q) hF
        refine v_bipush (v := (-2)) dX12_belongs_35 (by decide) ?_
        obtain ⟨rfl, rfl⟩ := ret_use hF
        exact v_iret rfl dX12_belongs_37
theorem dX12_judge_0 : decode cX12_judge 0 = .ok (.aload_n 0, 1) := by decide +kernel
theorem dX12_judge_1 : decode cX12_judge 1 = .ok (.iconst 0, 1) := by decide +kernel
theorem dX12_judge_2 : decode cX12_judge 2 = .ok (.putfield 208, 3) := by decide +kernel
theorem dX12_judge_5 : decode cX12_judge 5 = .ok (.aload_n 0, 1) := by decide +kernel
theorem dX12_judge_6 : decode cX12_judge 6 = .ok (.iload_n 1, 1) := by decide +kernel
theorem dX12_judge_7 : decode cX12_judge 7 = .ok (.invokevirtual 298, 3) := by decide +kernel
theorem dX12_judge_10 : decode cX12_judge 10 = .ok (.ifCond .eq 37, 3) := by decide +kernel
theorem dX12_judge_13 : decode cX12_judge 13 = .ok (.aload_n 0, 1) := by decide +kernel
theorem dX12_judge_14 : decode cX12_judge 14 = .ok (.iload_n 2, 1) := by decide +kernel
theorem dX12_judge_15 : decode cX12_judge 15 = .ok (.invokevirtual 298, 3) := by decide +kernel
theorem dX12_judge_18 : decode cX12_judge 18 = .ok (.ifCond .eq 29, 3) := by decide +kernel
theorem dX12_judge_21 : decode cX12_judge 21 = .ok (.iload_n 1, 1) := by decide +kernel
theorem dX12_judge_22 : decode cX12_judge 22 = .ok (.iload_n 2, 1) := by decide +kernel
theorem dX12_judge_23 : decode cX12_judge 23 = .ok (.if_icmp .eq 24, 3) := by decide +kernel
theorem dX12_judge_26 : decode cX12_judge 26 = .ok (.aload_n 0, 1) := by decide +kernel
theorem dX12_judge_27 : decode cX12_judge 27 = .ok (.iload_n 3, 1) := by decide +kernel
theorem dX12_judge_28 : decode cX12_judge 28 = .ok (.iload 4, 2) := by decide +kernel
theorem dX12_judge_30 : decode cX12_judge 30 = .ok (.invokevirtual 283, 3) := by decide +kernel
theorem dX12_judge_33 : decode cX12_judge 33 = .ok (.ifCond .eq 14, 3) := by decide +kernel
theorem dX12_judge_36 : decode cX12_judge 36 = .ok (.aload_n 0, 1) := by decide +kernel
theorem dX12_judge_37 : decode cX12_judge 37 = .ok (.iload 5, 2) := by decide +kernel
theorem dX12_judge_39 : decode cX12_judge 39 = .ok (.iload 6, 2) := by decide +kernel
theorem dX12_judge_41 : decode cX12_judge 41 = .ok (.invokevirtual 345, 3) := by decide +kernel
theorem dX12_judge_44 : decode cX12_judge 44 = .ok (.ifCond .ne 6, 3) := by decide +kernel
theorem dX12_judge_47 : decode cX12_judge 47 = .ok (.bipush (-2), 2) := by decide +kernel
theorem dX12_judge_49 : decode cX12_judge 49 = .ok (.ireturn, 1) := by decide +kernel
theorem dX12_judge_50 : decode cX12_judge 50 = .ok (.aload_n 0, 1) := by decide +kernel
theorem dX12_judge_51 : decode cX12_judge 51 = .ok (.iload_n 3, 1) := by decide +kernel
theorem dX12_judge_52 : decode cX12_judge 52 = .ok (.iload 4, 2) := by decide +kernel
theorem dX12_judge_54 : decode cX12_judge 54 = .ok (.iload 5, 2) := by decide +kernel
theorem dX12_judge_56 : decode cX12_judge 56 = .ok (.iload 6, 2) := by decide +kernel
theorem dX12_judge_58 : decode cX12_judge 58 = .ok (.iload_n 1, 1) := by decide +kernel
theorem dX12_judge_59 : decode cX12_judge 59 = .ok (.iload_n 2, 1) := by decide +kernel
theorem dX12_judge_60 : decode cX12_judge 60 = .ok (.invokevirtual 341, 3) := by decide +kernel
theorem dX12_judge_63 : decode cX12_judge 63 = .ok (.istore 7, 2) := by decide +kernel
theorem dX12_judge_65 : decode cX12_judge 65 = .ok (.iload 7, 2) := by decide +kernel
theorem dX12_judge_67 : decode cX12_judge 67 = .ok (.iconst (-1), 1) := by decide +kernel
theorem dX12_judge_68 : decode cX12_judge 68 = .ok (.if_icmp .ne 7, 3) := by decide +kernel
theorem dX12_judge_71 : decode cX12_judge 71 = .ok (.iconst (-1), 1) := by decide +kernel
theorem dX12_judge_72 : decode cX12_judge 72 = .ok (.goto 13, 3) := by decide +kernel
theorem dX12_judge_75 : decode cX12_judge 75 = .ok (.aload_n 0, 1) := by decide +kernel
theorem dX12_judge_76 : decode cX12_judge 76 = .ok (.iload 7, 2) := by decide +kernel
theorem dX12_judge_78 : decode cX12_judge 78 = .ok (.iload 5, 2) := by decide +kernel
theorem dX12_judge_80 : decode cX12_judge 80 = .ok (.iload 6, 2) := by decide +kernel
theorem dX12_judge_82 : decode cX12_judge 82 = .ok (.invokevirtual 334, 3) := by decide +kernel
theorem dX12_judge_85 : decode cX12_judge 85 = .ok (.ireturn, 1) := by decide +kernel
def fX12_judge (a1 : Int32) (a2 : Int32) (a3 : Int32) (a4 : Int32) (a5 : Int32) (a6 : Int32) (h : Hp) : Option (Int32 × Hp) := lb (sI h 12 0 0 0) (fun h1 => br ((fX12_isHouse a1 h1) = 0) (some ((-2), h1)) (br ((fX12_isHouse a2 h1) = 0) (some ((-2), h1)) (br (a1 = a2) (some ((-2), h1)) (bd (fX12_isUnit a3 a4 h1) (fun r2 h3 => br (r2 = 0) (some ((-2), h3)) (br ((fX12_areYears a5 a6 h3) = 0) (some ((-2), h3)) (bd (fX12_bestRight a3 a4 a5 a6 a1 a2 h3) (fun r4 h5 => br (r4 = (-1)) (some ((-1), h5)) (bd (fX12_whose r4 a5 a6 h5) (fun r6 h7 => some (r6, h7)))))))))))
set_option maxRecDepth 20000 in
theorem tX12_judge {X : Cz} {a1 : Int32} {a2 : Int32} {a3 : Int32} {a4 : Int32} {a5 : Int32} {a6 : Int32} {h hE : Hp} {rE : Int32} (hF : fX12_judge a1 a2 a3 a4 a5 a6 h = some (rE, hE)) : Ct X mX12_judge true [zr 12 0, zi a1, zi a2, zi a3, zi a4, zi a5, zi a6] h (some (zi rE)) hE := by
  refine Ct_of (by decide) (Nat.le_of_ble_eq_true rfl) (ls := [(0, zr 12 0), (1, zi a1), (2, zi a2), (3, zi a3), (4, zi a4), (5, zi a5), (6, zi a6)]) rfl ?_
  unfold fX12_judge at hF
  refine v_aload_n (j := 0) dX12_judge_0 rfl ?_
  refine v_iconst (v := 0) dX12_judge_1 (by decide) ?_
  refine v_putI (c := 12) rfl rfl (Nat.le_of_ble_eq_true rfl) cz12 flX12_208 dX12_judge_2 ?_
  refine v_toph fun h1 eh1 => ?_
  replace hF := lb_use eh1 hF
  clear eh1
  refine v_aload_n (j := 0) dX12_judge_5 rfl ?_
  refine v_iload_n (j := 1) dX12_judge_6 rfl ?_
  refine v_cV (hm := h1) (av := [zi a1]) (st := []) (stn := [zi (fX12_isHouse a1 h1)]) (tX12_isHouse a1 h1) lcX12_isHouse mlX12_298 imX12_isHouse seX12_isHouse rfl rfl rfl rfl ⟨by decide, by decide⟩ (Nat.le_of_ble_eq_true rfl) dX12_judge_7 rfl rfl ?_
  refine v_if_eq dX12_judge_10 (by decide : _ = ((47 : Nat) : Int)) (fun q => ?_) (fun q => ?_)
  · replace hF := brT q hF
    refine v_bipush (v := (-2)) dX12_judge_47 (by decide) ?_
    obtain ⟨rfl, rfl⟩ := ret_use hF
    exact v_iret rfl dX12_judge_49
  · replace hF := brF q hF
    refine v_aload_n (j := 0) dX12_judge_13 rfl ?_
    refine v_iload_n (j := 2) dX12_judge_14 rfl ?_
    refine v_cV (hm := h1) (av := [zi a2]) (st := []) (stn := [zi (fX12_isHouse a2 h1)]) (tX12_isHouse a2 h1) lcX12_isHouse mlX12_298 imX12_isHouse seX12_isHouse rfl rfl rfl rfl ⟨by decide, by decide⟩ (Nat.le_of_ble_eq_true rfl) dX12_judge_15 rfl rfl ?_
    refine v_if_eq dX12_judge_18 (by decide : _ = ((47 : Nat) : Int)) (fun q => ?_) (fun q => ?_)
    · replace hF := brT q hF
      refine v_bipush (v := (-2)) dX12_judge_47 (by decide) ?_
      obtain ⟨rfl, rfl⟩ := ret_use hF
      exact v_iret rfl dX12_judge_49
    · replace hF := brF q hF
      refine v_iload_n (j := 1) dX12_judge_21 rfl ?_
      refine v_iload_n (j := 2) dX12_judge_22 rfl ?_
      refine v_icmp_eq dX12_judge_23 (by decide : _ = ((47 : Nat) : Int)) (fun q => ?_) (fun q => ?_)
      · replace hF := brT q hF
        refine v_bipush (v := (-2)) dX12_judge_47 (by decide) ?_
        obtain ⟨rfl, rfl⟩ := ret_use hF
        exact v_iret rfl dX12_judge_49
      · replace hF := brF q hF
        refine v_aload_n (j := 0) dX12_judge_26 rfl ?_
        refine v_iload_n (j := 3) dX12_judge_27 rfl ?_
        refine v_iload (j := 4) dX12_judge_28 rfl ?_
        replace hF := bd_use hF
        obtain ⟨r2, h3, er2, hF⟩ := hF
        refine v_cV (hm := h3) (av := [zi a3, zi a4]) (st := []) (stn := [zi r2]) (tX12_isUnit er2) lcX12_isUnit mlX12_283 imX12_isUnit seX12_isUnit rfl rfl rfl rfl ⟨by decide, by decide⟩ (Nat.le_of_ble_eq_true rfl) dX12_judge_30 rfl rfl ?_
        clear er2
        refine v_if_eq dX12_judge_33 (by decide : _ = ((47 : Nat) : Int)) (fun q => ?_) (fun q => ?_)
        · replace hF := brT q hF
          refine v_bipush (v := (-2)) dX12_judge_47 (by decide) ?_
          obtain ⟨rfl, rfl⟩ := ret_use hF
          exact v_iret rfl dX12_judge_49
        · replace hF := brF q hF
          refine v_aload_n (j := 0) dX12_judge_36 rfl ?_
          refine v_iload (j := 5) dX12_judge_37 rfl ?_
          refine v_iload (j := 6) dX12_judge_39 rfl ?_
          refine v_cV (hm := h3) (av := [zi a5, zi a6]) (st := []) (stn := [zi (fX12_areYears a5 a6 h3)]) (tX12_areYears a5 a6 h3) lcX12_areYears mlX12_345 imX12_areYears seX12_areYears rfl rfl rfl rfl ⟨by decide, by decide⟩ (Nat.le_of_ble_eq_true rfl) dX12_judge_41 rfl rfl ?_
          refine v_if_ne dX12_judge_44 (by decide : _ = ((50 : Nat) : Int)) (fun q => ?_) (fun q => ?_)
          · replace hF := brF q hF
            refine v_aload_n (j := 0) dX12_judge_50 rfl ?_
            refine v_iload_n (j := 3) dX12_judge_51 rfl ?_
            refine v_iload (j := 4) dX12_judge_52 rfl ?_
            refine v_iload (j := 5) dX12_judge_54 rfl ?_
            refine v_iload (j := 6) dX12_judge_56 rfl ?_
            refine v_iload_n (j := 1) dX12_judge_58 rfl ?_
            refine v_iload_n (j := 2) dX12_judge_59 rfl ?_
            replace hF := bd_use hF
            obtain ⟨r4, h5, er4, hF⟩ := hF
            refine v_cV (hm := h5) (av := [zi a3, zi a4, zi a5, zi a6, zi a1, zi a2]) (st := []) (stn := [zi r4]) (tX12_bestRight er4) lcX12_bestRight mlX12_341 imX12_bestRight seX12_bestRight rfl rfl rfl rfl ⟨by decide, by decide⟩ (Nat.le_of_ble_eq_true rfl) dX12_judge_60 rfl rfl ?_
            clear er4
            refine v_istore (ls' := [(7, zi r4), (0, zr 12 0), (1, zi a1), (2, zi a2), (3, zi a3), (4, zi a4), (5, zi a5), (6, zi a6)]) dX12_judge_63 (by decide) rfl ?_
            refine v_iload (j := 0) dX12_judge_65 rfl ?_
            refine v_iconst (v := (-1)) dX12_judge_67 (by decide) ?_
            refine v_icmp_ne dX12_judge_68 (by decide : _ = ((75 : Nat) : Int)) (fun q => ?_) (fun q => ?_)
            · replace hF := brF q hF
              refine v_aload_n (j := 1) dX12_judge_75 rfl ?_
              refine v_iload (j := 0) dX12_judge_76 rfl ?_
              refine v_iload (j := 6) dX12_judge_78 rfl ?_
              refine v_iload (j := 7) dX12_judge_80 rfl ?_
              replace hF := bd_use hF
              obtain ⟨r6, h7, er6, hF⟩ := hF
              refine v_cV (hm := h7) (av := [zi r4, zi a5, zi a6]) (st := []) (stn := [zi r6]) (tX12_whose er6) lcX12_whose mlX12_334 imX12_whose seX12_whose rfl rfl rfl rfl ⟨by decide, by decide⟩ (Nat.le_of_ble_eq_true rfl) dX12_judge_82 rfl rfl ?_
              clear er6
              obtain ⟨rfl, rfl⟩ := ret_use hF
              exact v_iret rfl dX12_judge_85
            · replace hF := brT (Decidable.not_not.mp q) hF
              refine v_iconst (v := (-1)) dX12_judge_71 (by decide) ?_
              refine v_goto (tgt := 85) dX12_judge_72 (by decide) ?_
              obtain ⟨rfl, rfl⟩ := ret_use hF
              exact v_iret rfl dX12_judge_85
          · replace hF := brT (Decidable.not_not.mp q) hF
            refine v_bipush (v := (-2)) dX12_judge_47 (by decide) ?_
            obtain ⟨rfl, rfl⟩ := ret_use hF
            exact v_iret rfl dX12_judge_49
theorem dX12_owns_0 : decode cX12_owns 0 = .ok (.aload_n 0, 1) := by decide +kernel
theorem dX12_owns_1 : decode cX12_owns 1 = .ok (.getfield 251, 3) := by decide +kernel
theorem dX12_owns_4 : decode cX12_owns 4 = .ok (.istore_n 3, 1) := by decide +kernel
theorem dX12_owns_5 : decode cX12_owns 5 = .ok (.iload_n 3, 1) := by decide +kernel
theorem dX12_owns_6 : decode cX12_owns 6 = .ok (.sipush 200, 3) := by decide +kernel
theorem dX12_owns_9 : decode cX12_owns 9 = .ok (.if_icmp .ge 22, 3) := by decide +kernel
theorem dX12_owns_12 : decode cX12_owns 12 = .ok (.aload_n 0, 1) := by decide +kernel
theorem dX12_owns_13 : decode cX12_owns 13 = .ok (.getfield 73, 3) := by decide +kernel
theorem dX12_owns_16 : decode cX12_owns 16 = .ok (.sipush 200, 3) := by decide +kernel
theorem dX12_owns_19 : decode cX12_owns 19 = .ok (.iload_n 1, 1) := by decide +kernel
theorem dX12_owns_20 : decode cX12_owns 20 = .ok (.imul, 1) := by decide +kernel
theorem dX12_owns_21 : decode cX12_owns 21 = .ok (.iload_n 3, 1) := by decide +kernel
theorem dX12_owns_22 : decode cX12_owns 22 = .ok (.iadd, 1) := by decide +kernel
theorem dX12_owns_23 : decode cX12_owns 23 = .ok (.iload_n 2, 1) := by decide +kernel
theorem dX12_owns_24 : decode cX12_owns 24 = .ok (.iastore, 1) := by decide +kernel
theorem dX12_owns_25 : decode cX12_owns 25 = .ok (.iinc 3 1, 3) := by decide +kernel
theorem dX12_owns_28 : decode cX12_owns 28 = .ok (.goto (-23), 3) := by decide +kernel
theorem dX12_owns_31 : decode cX12_owns 31 = .ok (.return_, 1) := by decide +kernel
def fX12_owns_L5 : Nat → Int32 → Int32 → Int32 → Hp → Option ((Int32) × Hp)
  | 0, _, _, _, _ => none
  | n + 1, a1, a2, a3, h => br (200 ≤ a3) (some ((a3), h)) (gd (ib (((200 : Int32) * a1) + a3) 1600) (lb (sI h 69 0 (ix (((200 : Int32) * a1) + a3)) a2) (fun h3 => lb (a3 + 1) (fun v4 => fX12_owns_L5 n a1 a2 v4 h3))))
def fX12_owns (a1 : Int32) (a2 : Int32) (h : Hp) : Option (Unit × Hp) := lb (gI h 12 0 5) (fun v1 => bd (fX12_owns_L5 FU a1 a2 v1 h) (fun v7 h5 => some ((), h5)))
set_option maxRecDepth 20000 in
theorem tX12_owns_L5 {X : Cz} {h0 : Hp} {r : Option AV} {hE : Hp} : ∀ (n : Nat) (a1 : Int32) (a2 : Int32) (a3 : Int32) (h : Hp) (z : (Int32) × Hp), fX12_owns_L5 n a1 a2 a3 h = some z → V X mX12_owns true h0 31 [(0, zr 12 0), (1, zi a1), (2, zi a2), (3, zi z.1)] [] z.2 r hE → V X mX12_owns true h0 5 [(0, zr 12 0), (1, zi a1), (2, zi a2), (3, zi a3)] [] h r hE := by
  intro n
  induction n with
  | zero => intro a1 a2 a3 h z hF k; cases hF
  | succ n ih =>
    intro a1 a2 a3 h z hF k
    rw [fX12_owns_L5] at hF
    refine v_iload_n (j := 3) dX12_owns_5 rfl ?_
    refine v_sipush (v := 200) dX12_owns_6 (by decide) ?_
    refine v_icmp_ge dX12_owns_9 (by decide : _ = ((31 : Nat) : Int)) (fun q => ?_) (fun q => ?_)
    · replace hF := brT q hF
      cases hF
      exact k
    · replace hF := brF q hF
      refine v_aload_n (j := 0) dX12_owns_12 rfl ?_
      refine v_getL (c := 12) rfl rfl rfl ly12_29 cz12 flX12_73 dX12_owns_13 ?_
      refine v_sipush (v := 200) dX12_owns_16 (by decide) ?_
      refine v_iload_n (j := 1) dX12_owns_19 rfl ?_
      refine v_imul dX12_owns_20 ?_
      refine v_iload_n (j := 3) dX12_owns_21 rfl ?_
      refine v_iadd dX12_owns_22 ?_
      refine v_iload_n (j := 2) dX12_owns_23 rfl ?_
      replace hF := gd_use hF
      obtain ⟨q2, hF⟩ := hF
      refine v_iast rfl q2 dX12_owns_24 ?_
      refine v_toph fun h3 eh3 => ?_
      replace hF := lb_use eh3 hF
      clear eh3
      obtain ⟨v4, ev4⟩ : ∃ y : Int32, y = a3 + 1 := ⟨_, rfl⟩
      replace hF := lb_use ev4 hF
      refine v_iinc (j := 3) (v := v4) (ls' := [(3, zi v4), (0, zr 12 0), (1, zi a1), (2, zi a2)]) dX12_owns_25 rfl (by rw [ev4]; rfl) (by decide) rfl ?_
      clear ev4
      refine v_goto (tgt := 5) dX12_owns_28 (by decide) ?_
      refine v_sub [1, 2, 3, 0] rfl ?_
      exact ih a1 a2 v4 h3 _ hF k
set_option maxRecDepth 20000 in
theorem tX12_owns {X : Cz} {a1 : Int32} {a2 : Int32} {h hE : Hp} {rE : Unit} (hF : fX12_owns a1 a2 h = some (rE, hE)) : Ct X mX12_owns true [zr 12 0, zi a1, zi a2] h (none) hE := by
  refine Ct_of (by decide) (Nat.le_of_ble_eq_true rfl) (ls := [(0, zr 12 0), (1, zi a1), (2, zi a2)]) rfl ?_
  unfold fX12_owns at hF
  refine v_aload_n (j := 0) dX12_owns_0 rfl ?_
  refine v_getI (c := 12) rfl (Or.inl rfl) cz12 flX12_251 dX12_owns_1 ?_
  refine v_topi fun v1 ev1 => ?_
  replace hF := lb_use ev1 hF
  clear ev1
  refine v_istore_n (ls' := [(3, zi v1), (0, zr 12 0), (1, zi a1), (2, zi a2)]) dX12_owns_4 (by decide) rfl ?_
  refine v_sub [1, 2, 3, 0] rfl ?_
  replace hF := bd_use hF
  obtain ⟨v7, h5, ev7, hF⟩ := hF
  refine tX12_owns_L5 _ a1 a2 v1 h _ ev7 ?_
  clear ev7
  cases hF
  exact v_vret rfl dX12_owns_31
theorem dX12_gone_0 : decode cX12_gone 0 = .ok (.aload_n 0, 1) := by decide +kernel
theorem dX12_gone_1 : decode cX12_gone 1 = .ok (.iconst 0, 1) := by decide +kernel
theorem dX12_gone_2 : decode cX12_gone 2 = .ok (.putfield 208, 3) := by decide +kernel
theorem dX12_gone_5 : decode cX12_gone 5 = .ok (.aload_n 0, 1) := by decide +kernel
theorem dX12_gone_6 : decode cX12_gone 6 = .ok (.iload_n 1, 1) := by decide +kernel
theorem dX12_gone_7 : decode cX12_gone 7 = .ok (.invokevirtual 304, 3) := by decide +kernel
theorem dX12_gone_10 : decode cX12_gone 10 = .ok (.ifCond .eq 21, 3) := by decide +kernel
theorem dX12_gone_13 : decode cX12_gone 13 = .ok (.iload_n 2, 1) := by decide +kernel
theorem dX12_gone_14 : decode cX12_gone 14 = .ok (.iconst (-1), 1) := by decide +kernel
theorem dX12_gone_15 : decode cX12_gone 15 = .ok (.if_icmp .eq 19, 3) := by decide +kernel
theorem dX12_gone_18 : decode cX12_gone 18 = .ok (.aload_n 0, 1) := by decide +kernel
theorem dX12_gone_19 : decode cX12_gone 19 = .ok (.iload_n 2, 1) := by decide +kernel
theorem dX12_gone_20 : decode cX12_gone 20 = .ok (.invokevirtual 304, 3) := by decide +kernel
theorem dX12_gone_23 : decode cX12_gone 23 = .ok (.ifCond .eq 8, 3) := by decide +kernel
theorem dX12_gone_26 : decode cX12_gone 26 = .ok (.iload_n 2, 1) := by decide +kernel
theorem dX12_gone_27 : decode cX12_gone 27 = .ok (.iload_n 1, 1) := by decide +kernel
theorem dX12_gone_28 : decode cX12_gone 28 = .ok (.if_icmp .ne 6, 3) := by decide +kernel
theorem dX12_gone_31 : decode cX12_gone 31 = .ok (.bipush (-2), 2) := by decide +kernel
theorem dX12_gone_33 : decode cX12_gone 33 = .ok (.ireturn, 1) := by decide +kernel
theorem dX12_gone_34 : decode cX12_gone 34 = .ok (.aload_n 0, 1) := by decide +kernel
theorem dX12_gone_35 : decode cX12_gone 35 = .ok (.getfield 316, 3) := by decide +kernel
theorem dX12_gone_38 : decode cX12_gone 38 = .ok (.istore_n 3, 1) := by decide +kernel
theorem dX12_gone_39 : decode cX12_gone 39 = .ok (.iconst 0, 1) := by decide +kernel
theorem dX12_gone_40 : decode cX12_gone 40 = .ok (.istore 4, 2) := by decide +kernel
theorem dX12_gone_42 : decode cX12_gone 42 = .ok (.iconst 0, 1) := by decide +kernel
theorem dX12_gone_43 : decode cX12_gone 43 = .ok (.istore 5, 2) := by decide +kernel
theorem dX12_gone_45 : decode cX12_gone 45 = .ok (.iload 5, 2) := by decide +kernel
theorem dX12_gone_47 : decode cX12_gone 47 = .ok (.iload_n 3, 1) := by decide +kernel
theorem dX12_gone_48 : decode cX12_gone 48 = .ok (.if_icmp .ge 70, 3) := by decide +kernel
theorem dX12_gone_51 : decode cX12_gone 51 = .ok (.iload 4, 2) := by decide +kernel
theorem dX12_gone_53 : decode cX12_gone 53 = .ok (.aload_n 0, 1) := by decide +kernel
theorem dX12_gone_54 : decode cX12_gone 54 = .ok (.getfield 76, 3) := by decide +kernel
theorem dX12_gone_57 : decode cX12_gone 57 = .ok (.iload 5, 2) := by decide +kernel
theorem dX12_gone_59 : decode cX12_gone 59 = .ok (.iaload, 1) := by decide +kernel
theorem dX12_gone_60 : decode cX12_gone 60 = .ok (.iconst 1, 1) := by decide +kernel
theorem dX12_gone_61 : decode cX12_gone 61 = .ok (.if_icmp .eq 47, 3) := by decide +kernel
theorem dX12_gone_64 : decode cX12_gone 64 = .ok (.aload_n 0, 1) := by decide +kernel
theorem dX12_gone_65 : decode cX12_gone 65 = .ok (.getfield 79, 3) := by decide +kernel
theorem dX12_gone_68 : decode cX12_gone 68 = .ok (.iload 5, 2) := by decide +kernel
theorem dX12_gone_70 : decode cX12_gone 70 = .ok (.iaload, 1) := by decide +kernel
theorem dX12_gone_71 : decode cX12_gone 71 = .ok (.iload_n 1, 1) := by decide +kernel
theorem dX12_gone_72 : decode cX12_gone 72 = .ok (.if_icmp .ne 36, 3) := by decide +kernel
theorem dX12_gone_75 : decode cX12_gone 75 = .ok (.aload_n 0, 1) := by decide +kernel
theorem dX12_gone_76 : decode cX12_gone 76 = .ok (.getfield 97, 3) := by decide +kernel
theorem dX12_gone_79 : decode cX12_gone 79 = .ok (.iload 5, 2) := by decide +kernel
theorem dX12_gone_81 : decode cX12_gone 81 = .ok (.iaload, 1) := by decide +kernel
theorem dX12_gone_82 : decode cX12_gone 82 = .ok (.aload_n 0, 1) := by decide +kernel
theorem dX12_gone_83 : decode cX12_gone 83 = .ok (.getfield 251, 3) := by decide +kernel
theorem dX12_gone_86 : decode cX12_gone 86 = .ok (.if_icmp .lt 22, 3) := by decide +kernel
theorem dX12_gone_89 : decode cX12_gone 89 = .ok (.aload_n 0, 1) := by decide +kernel
theorem dX12_gone_90 : decode cX12_gone 90 = .ok (.getfield 109, 3) := by decide +kernel
theorem dX12_gone_93 : decode cX12_gone 93 = .ok (.iload 5, 2) := by decide +kernel
theorem dX12_gone_95 : decode cX12_gone 95 = .ok (.baload, 1) := by decide +kernel
theorem dX12_gone_96 : decode cX12_gone 96 = .ok (.ifCond .eq 12, 3) := by decide +kernel
theorem dX12_gone_99 : decode cX12_gone 99 = .ok (.iload_n 2, 1) := by decide +kernel
theorem dX12_gone_100 : decode cX12_gone 100 = .ok (.iconst (-1), 1) := by decide +kernel
theorem dX12_gone_101 : decode cX12_gone 101 = .ok (.if_icmp .eq 7, 3) := by decide +kernel
theorem dX12_gone_104 : decode cX12_gone 104 = .ok (.iconst 1, 1) := by decide +kernel
theorem dX12_gone_105 : decode cX12_gone 105 = .ok (.goto 4, 3) := by decide +kernel
theorem dX12_gone_108 : decode cX12_gone 108 = .ok (.iconst 0, 1) := by decide +kernel
theorem dX12_gone_109 : decode cX12_gone 109 = .ok (.iadd, 1) := by decide +kernel
theorem dX12_gone_110 : decode cX12_gone 110 = .ok (.istore 4, 2) := by decide +kernel
theorem dX12_gone_112 : decode cX12_gone 112 = .ok (.iinc 5 1, 3) := by decide +kernel
theorem dX12_gone_115 : decode cX12_gone 115 = .ok (.goto (-70), 3) := by decide +kernel
theorem dX12_gone_118 : decode cX12_gone 118 = .ok (.aload_n 0, 1) := by decide +kernel
theorem dX12_gone_119 : decode cX12_gone 119 = .ok (.getfield 316, 3) := by decide +kernel
theorem dX12_gone_122 : decode cX12_gone 122 = .ok (.iload 4, 2) := by decide +kernel
theorem dX12_gone_124 : decode cX12_gone 124 = .ok (.iadd, 1) := by decide +kernel
theorem dX12_gone_125 : decode cX12_gone 125 = .ok (.bipush 100, 2) := by decide +kernel
theorem dX12_gone_127 : decode cX12_gone 127 = .ok (.if_icmp .le 6, 3) := by decide +kernel
theorem dX12_gone_130 : decode cX12_gone 130 = .ok (.bipush (-3), 2) := by decide +kernel
theorem dX12_gone_132 : decode cX12_gone 132 = .ok (.ireturn, 1) := by decide +kernel
theorem dX12_gone_133 : decode cX12_gone 133 = .ok (.iconst 0, 1) := by decide +kernel
theorem dX12_gone_134 : decode cX12_gone 134 = .ok (.istore 5, 2) := by decide +kernel
theorem dX12_gone_136 : decode cX12_gone 136 = .ok (.iload 5, 2) := by decide +kernel
theorem dX12_gone_138 : decode cX12_gone 138 = .ok (.iload_n 3, 1) := by decide +kernel
theorem dX12_gone_139 : decode cX12_gone 139 = .ok (.if_icmp .ge 144, 3) := by decide +kernel
theorem dX12_gone_142 : decode cX12_gone 142 = .ok (.aload_n 0, 1) := by decide +kernel
theorem dX12_gone_143 : decode cX12_gone 143 = .ok (.getfield 76, 3) := by decide +kernel
theorem dX12_gone_146 : decode cX12_gone 146 = .ok (.iload 5, 2) := by decide +kernel
theorem dX12_gone_148 : decode cX12_gone 148 = .ok (.iaload, 1) := by decide +kernel
theorem dX12_gone_149 : decode cX12_gone 149 = .ok (.iconst 1, 1) := by decide +kernel
theorem dX12_gone_150 : decode cX12_gone 150 = .ok (.if_icmp .eq 127, 3) := by decide +kernel
theorem dX12_gone_153 : decode cX12_gone 153 = .ok (.aload_n 0, 1) := by decide +kernel
theorem dX12_gone_154 : decode cX12_gone 154 = .ok (.getfield 79, 3) := by decide +kernel
theorem dX12_gone_157 : decode cX12_gone 157 = .ok (.iload 5, 2) := by decide +kernel
theorem dX12_gone_159 : decode cX12_gone 159 = .ok (.iaload, 1) := by decide +kernel
theorem dX12_gone_160 : decode cX12_gone 160 = .ok (.iload_n 1, 1) := by decide +kernel
theorem dX12_gone_161 : decode cX12_gone 161 = .ok (.if_icmp .ne 116, 3) := by decide +kernel
theorem dX12_gone_164 : decode cX12_gone 164 = .ok (.aload_n 0, 1) := by decide +kernel
theorem dX12_gone_165 : decode cX12_gone 165 = .ok (.getfield 97, 3) := by decide +kernel
theorem dX12_gone_168 : decode cX12_gone 168 = .ok (.iload 5, 2) := by decide +kernel
theorem dX12_gone_170 : decode cX12_gone 170 = .ok (.iaload, 1) := by decide +kernel
theorem dX12_gone_171 : decode cX12_gone 171 = .ok (.aload_n 0, 1) := by decide +kernel
theorem dX12_gone_172 : decode cX12_gone 172 = .ok (.getfield 251, 3) := by decide +kernel
theorem dX12_gone_175 : decode cX12_gone 175 = .ok (.if_icmp .ge 6, 3) := by decide +kernel
theorem dX12_gone_178 : decode cX12_gone 178 = .ok (.goto 99, 3) := by decide +kernel
theorem dX12_gone_181 : decode cX12_gone 181 = .ok (.aload_n 0, 1) := by decide +kernel
theorem dX12_gone_182 : decode cX12_gone 182 = .ok (.getfield 109, 3) := by decide +kernel
theorem dX12_gone_185 : decode cX12_gone 185 = .ok (.iload 5, 2) := by decide +kernel
theorem dX12_gone_187 : decode cX12_gone 187 = .ok (.baload, 1) := by decide +kernel
theorem dX12_gone_188 : decode cX12_gone 188 = .ok (.ifCond .eq 80, 3) := by decide +kernel
theorem dX12_gone_191 : decode cX12_gone 191 = .ok (.iload_n 2, 1) := by decide +kernel
theorem dX12_gone_192 : decode cX12_gone 192 = .ok (.iconst (-1), 1) := by decide +kernel
theorem dX12_gone_193 : decode cX12_gone 193 = .ok (.if_icmp .eq 75, 3) := by decide +kernel
theorem dX12_gone_196 : decode cX12_gone 196 = .ok (.aload_n 0, 1) := by decide +kernel
theorem dX12_gone_197 : decode cX12_gone 197 = .ok (.aload_n 0, 1) := by decide +kernel
theorem dX12_gone_198 : decode cX12_gone 198 = .ok (.getfield 76, 3) := by decide +kernel
theorem dX12_gone_201 : decode cX12_gone 201 = .ok (.iload 5, 2) := by decide +kernel
theorem dX12_gone_203 : decode cX12_gone 203 = .ok (.iaload, 1) := by decide +kernel
theorem dX12_gone_204 : decode cX12_gone 204 = .ok (.iload_n 2, 1) := by decide +kernel
theorem dX12_gone_205 : decode cX12_gone 205 = .ok (.aload_n 0, 1) := by decide +kernel
theorem dX12_gone_206 : decode cX12_gone 206 = .ok (.getfield 82, 3) := by decide +kernel
theorem dX12_gone_209 : decode cX12_gone 209 = .ok (.iload 5, 2) := by decide +kernel
theorem dX12_gone_211 : decode cX12_gone 211 = .ok (.iaload, 1) := by decide +kernel
theorem dX12_gone_212 : decode cX12_gone 212 = .ok (.aload_n 0, 1) := by decide +kernel
theorem dX12_gone_213 : decode cX12_gone 213 = .ok (.getfield 85, 3) := by decide +kernel
theorem dX12_gone_216 : decode cX12_gone 216 = .ok (.iload 5, 2) := by decide +kernel
theorem dX12_gone_218 : decode cX12_gone 218 = .ok (.iaload, 1) := by decide +kernel
theorem dX12_gone_219 : decode cX12_gone 219 = .ok (.aload_n 0, 1) := by decide +kernel
theorem dX12_gone_220 : decode cX12_gone 220 = .ok (.getfield 88, 3) := by decide +kernel
theorem dX12_gone_223 : decode cX12_gone 223 = .ok (.iload 5, 2) := by decide +kernel
theorem dX12_gone_225 : decode cX12_gone 225 = .ok (.iaload, 1) := by decide +kernel
theorem dX12_gone_226 : decode cX12_gone 226 = .ok (.aload_n 0, 1) := by decide +kernel
theorem dX12_gone_227 : decode cX12_gone 227 = .ok (.getfield 91, 3) := by decide +kernel
theorem dX12_gone_230 : decode cX12_gone 230 = .ok (.iload 5, 2) := by decide +kernel
theorem dX12_gone_232 : decode cX12_gone 232 = .ok (.iaload, 1) := by decide +kernel
theorem dX12_gone_233 : decode cX12_gone 233 = .ok (.aload_n 0, 1) := by decide +kernel
theorem dX12_gone_234 : decode cX12_gone 234 = .ok (.getfield 94, 3) := by decide +kernel
theorem dX12_gone_237 : decode cX12_gone 237 = .ok (.iload 5, 2) := by decide +kernel
theorem dX12_gone_239 : decode cX12_gone 239 = .ok (.iaload, 1) := by decide +kernel
theorem dX12_gone_240 : decode cX12_gone 240 = .ok (.aload_n 0, 1) := by decide +kernel
theorem dX12_gone_241 : decode cX12_gone 241 = .ok (.getfield 251, 3) := by decide +kernel
theorem dX12_gone_244 : decode cX12_gone 244 = .ok (.invokestatic 263, 3) := by decide +kernel
theorem dX12_gone_247 : decode cX12_gone 247 = .ok (.aload_n 0, 1) := by decide +kernel
theorem dX12_gone_248 : decode cX12_gone 248 = .ok (.getfield 97, 3) := by decide +kernel
theorem dX12_gone_251 : decode cX12_gone 251 = .ok (.iload 5, 2) := by decide +kernel
theorem dX12_gone_253 : decode cX12_gone 253 = .ok (.iaload, 1) := by decide +kernel
theorem dX12_gone_254 : decode cX12_gone 254 = .ok (.iconst 1, 1) := by decide +kernel
theorem dX12_gone_255 : decode cX12_gone 255 = .ok (.aload_n 0, 1) := by decide +kernel
theorem dX12_gone_256 : decode cX12_gone 256 = .ok (.getfield 112, 3) := by decide +kernel
theorem dX12_gone_259 : decode cX12_gone 259 = .ok (.iload 5, 2) := by decide +kernel
theorem dX12_gone_261 : decode cX12_gone 261 = .ok (.laload, 1) := by decide +kernel
theorem dX12_gone_262 : decode cX12_gone 262 = .ok (.invokevirtual 323, 3) := by decide +kernel
theorem dX12_gone_265 : decode cX12_gone 265 = .ok (.goto 4, 3) := by decide +kernel
theorem dX12_gone_268 : decode cX12_gone 268 = .ok (.iconst 0, 1) := by decide +kernel
theorem dX12_gone_269 : decode cX12_gone 269 = .ok (.istore 6, 2) := by decide +kernel
theorem dX12_gone_271 : decode cX12_gone 271 = .ok (.aload_n 0, 1) := by decide +kernel
theorem dX12_gone_272 : decode cX12_gone 272 = .ok (.iload 5, 2) := by decide +kernel
theorem dX12_gone_274 : decode cX12_gone 274 = .ok (.invokevirtual 327, 3) := by decide +kernel
theorem dX12_gone_277 : decode cX12_gone 277 = .ok (.iinc 5 1, 3) := by decide +kernel
theorem dX12_gone_280 : decode cX12_gone 280 = .ok (.goto (-144), 3) := by decide +kernel
theorem dX12_gone_283 : decode cX12_gone 283 = .ok (.iconst 0, 1) := by decide +kernel
theorem dX12_gone_284 : decode cX12_gone 284 = .ok (.istore 5, 2) := by decide +kernel
theorem dX12_gone_286 : decode cX12_gone 286 = .ok (.iload 5, 2) := by decide +kernel
theorem dX12_gone_288 : decode cX12_gone 288 = .ok (.bipush 8, 2) := by decide +kernel
theorem dX12_gone_290 : decode cX12_gone 290 = .ok (.if_icmp .ge 36, 3) := by decide +kernel
theorem dX12_gone_293 : decode cX12_gone 293 = .ok (.aload_n 0, 1) := by decide +kernel
theorem dX12_gone_294 : decode cX12_gone 294 = .ok (.getfield 73, 3) := by decide +kernel
theorem dX12_gone_297 : decode cX12_gone 297 = .ok (.sipush 200, 3) := by decide +kernel
theorem dX12_gone_300 : decode cX12_gone 300 = .ok (.iload 5, 2) := by decide +kernel
theorem dX12_gone_302 : decode cX12_gone 302 = .ok (.imul, 1) := by decide +kernel
theorem dX12_gone_303 : decode cX12_gone 303 = .ok (.aload_n 0, 1) := by decide +kernel
theorem dX12_gone_304 : decode cX12_gone 304 = .ok (.getfield 251, 3) := by decide +kernel
theorem dX12_gone_307 : decode cX12_gone 307 = .ok (.iadd, 1) := by decide +kernel
theorem dX12_gone_308 : decode cX12_gone 308 = .ok (.iaload, 1) := by decide +kernel
theorem dX12_gone_309 : decode cX12_gone 309 = .ok (.iload_n 1, 1) := by decide +kernel
theorem dX12_gone_310 : decode cX12_gone 310 = .ok (.if_icmp .ne 10, 3) := by decide +kernel
theorem dX12_gone_313 : decode cX12_gone 313 = .ok (.aload_n 0, 1) := by decide +kernel
theorem dX12_gone_314 : decode cX12_gone 314 = .ok (.iload 5, 2) := by decide +kernel
theorem dX12_gone_316 : decode cX12_gone 316 = .ok (.iload_n 2, 1) := by decide +kernel
theorem dX12_gone_317 : decode cX12_gone 317 = .ok (.invokevirtual 351, 3) := by decide +kernel
theorem dX12_gone_320 : decode cX12_gone 320 = .ok (.iinc 5 1, 3) := by decide +kernel
theorem dX12_gone_323 : decode cX12_gone 323 = .ok (.goto (-37), 3) := by decide +kernel
theorem dX12_gone_326 : decode cX12_gone 326 = .ok (.aload_n 0, 1) := by decide +kernel
theorem dX12_gone_327 : decode cX12_gone 327 = .ok (.getfield 70, 3) := by decide +kernel
theorem dX12_gone_330 : decode cX12_gone 330 = .ok (.iload_n 1, 1) := by decide +kernel
theorem dX12_gone_331 : decode cX12_gone 331 = .ok (.iconst 1, 1) := by decide +kernel
theorem dX12_gone_332 : decode cX12_gone 332 = .ok (.bastore, 1) := by decide +kernel
theorem dX12_gone_333 : decode cX12_gone 333 = .ok (.iload 4, 2) := by decide +kernel
theorem dX12_gone_335 : decode cX12_gone 335 = .ok (.ireturn, 1) := by decide +kernel
def fX12_gone_L45 : Nat → Int32 → Int32 → Int32 → Int32 → Int32 → Hp → Option ((Int32 × Int32) × Hp)
  | 0, _, _, _, _, _, _ => none
  | n + 1, a1, a2, a3, a4, a5, h => br (a3 ≤ a5) (some ((a4, a5), h)) (gd (ib a5 100) (lb (fun (x9 : Int32) (h10 : Hp) => lb (x9 + 0) (fun v11 => lb (a5 + 1) (fun v12 => fX12_gone_L45 n a1 a2 a3 v11 v12 h10))) (fun j8 => br ((gI h 70 0 (ix a5)) = 1) (j8 a4 h) (gd (ib a5 100) (br ((gI h 71 0 (ix a5)) = a1) (gd (ib a5 100) (br ((gI h 77 0 (ix a5)) < (gI h 12 0 5)) (j8 a4 h) (gd (ib a5 100) (br ((gI h 81 0 (ix a5)) = 0) (j8 a4 h) (br (a2 = (-1)) (j8 a4 h) (lb (a4 + 1) (fun v16 => lb (a5 + 1) (fun v17 => fX12_gone_L45 n a1 a2 a3 v16 v17 h)))))))) (j8 a4 h))))))
def fX12_gone_L136 : Nat → Int32 → Int32 → Int32 → Int32 → Int32 → Hp → Option ((Int32) × Hp)
  | 0, _, _, _, _, _, _ => none
  | n + 1, a1, a2, a3, a4, a5, h => br (a3 ≤ a5) (some ((a5), h)) (gd (ib a5 100) (br ((gI h 70 0 (ix a5)) = 1) (lb (a5 + 1) (fun v23 => fX12_gone_L136 n a1 a2 a3 a4 v23 h)) (gd (ib a5 100) (br ((gI h 71 0 (ix a5)) = a1) (gd (ib a5 100) (br ((gI h 12 0 5) ≤ (gI h 77 0 (ix a5))) (gd (ib a5 100) (lb (fun (x29 : Int32) (h30 : Hp) => bd (fX12_stops a5 h30) (fun r31 h32 => lb (a5 + 1) (fun v33 => fX12_gone_L136 n a1 a2 a3 a4 v33 h32))) (fun j28 => lb (fun (h35 : Hp) => j28 0 h35) (fun j34 => br ((gI h 81 0 (ix a5)) = 0) (j34 h) (br (a2 = (-1)) (j34 h) (gd (ib a5 100) (gd (ib a5 100) (gd (ib a5 100) (gd (ib a5 100) (gd (ib a5 100) (gd (ib a5 100) (gd (ib a5 100) (gd (ib a5 100) (bd (fX12_adds (gI h 70 0 (ix a5)) a2 (gI h 72 0 (ix a5)) (gI h 73 0 (ix a5)) (gI h 74 0 (ix a5)) (gI h 75 0 (ix a5)) (mxI (gI h 76 0 (ix a5)) (gI h 12 0 5)) (gI h 77 0 (ix a5)) 1 (gJ h 82 0 (ix a5)) h) (fun r44 h45 => j28 r44 h45))))))))))))))) (lb (a5 + 1) (fun v46 => fX12_gone_L136 n a1 a2 a3 a4 v46 h)))) (lb (a5 + 1) (fun v25 => fX12_gone_L136 n a1 a2 a3 a4 v25 h))))))
def fX12_gone_L286 : Nat → Int32 → Int32 → Int32 → Int32 → Hp → Option ((Int32) × Hp)
  | 0, _, _, _, _, _ => none
  | n + 1, a1, a2, a4, a5, h => br (8 ≤ a5) (some ((a5), h)) (gd (ib (((200 : Int32) * a5) + (gI h 12 0 5)) 1600) (br ((gI h 69 0 (ix (((200 : Int32) * a5) + (gI h 12 0 5)))) = a1) (bd (fX12_owns a5 a2 h) (fun r52 h53 => lb (a5 + 1) (fun v54 => fX12_gone_L286 n a1 a2 a4 v54 h53))) (lb (a5 + 1) (fun v51 => fX12_gone_L286 n a1 a2 a4 v51 h))))
def fX12_gone (a1 : Int32) (a2 : Int32) (h : Hp) : Option (Int32 × Hp) := lb (sI h 12 0 0 0) (fun h1 => bd (fX12_isThere a1 h1) (fun r2 h3 => br (r2 = 0) (some ((-2), h3)) (lb (fun (h5 : Hp) => lb (gI h5 12 0 9) (fun v6 => bd (fX12_gone_L45 FU a1 a2 v6 0 0 h5) (fun t19 h18 => lb t19.1 (fun v20 => lb t19.2 (fun v21 => br (((gI h18 12 0 9) + v20) ≤ 100) (bd (fX12_gone_L136 FU a1 a2 v6 v20 0 h18) (fun v49 h47 => bd (fX12_gone_L286 FU a1 a2 v20 0 h47) (fun v57 h55 => gd (ib a1 12) (lb (sI h55 68 0 (ix a1) 1) (fun h59 => some (v20, h59)))))) (some ((-3), h18))))))) (fun j4 => br (a2 = (-1)) (j4 h3) (bd (fX12_isThere a2 h3) (fun r60 h61 => br (r60 = 0) (some ((-2), h61)) (br (a2 = a1) (some ((-2), h61)) (j4 h61))))))))
set_option maxRecDepth 20000 in
theorem tX12_gone_L45 {X : Cz} {h0 : Hp} {r : Option AV} {hE : Hp} : ∀ (n : Nat) (a1 : Int32) (a2 : Int32) (a3 : Int32) (a4 : Int32) (a5 : Int32) (h : Hp) (z : (Int32 × Int32) × Hp), fX12_gone_L45 n a1 a2 a3 a4 a5 h = some z → V X mX12_gone true h0 118 [(0, zr 12 0), (1, zi a1), (2, zi a2), (3, zi a3), (4, zi z.1.1), (5, zi z.1.2)] [] z.2 r hE → V X mX12_gone true h0 45 [(0, zr 12 0), (1, zi a1), (2, zi a2), (3, zi a3), (4, zi a4), (5, zi a5)] [] h r hE := by
  intro n
  induction n with
  | zero => intro a1 a2 a3 a4 a5 h z hF k; cases hF
  | succ n ih =>
    intro a1 a2 a3 a4 a5 h z hF k
    rw [fX12_gone_L45] at hF
    refine v_iload (j := 5) dX12_gone_45 rfl ?_
    refine v_iload_n (j := 3) dX12_gone_47 rfl ?_
    refine v_icmp_ge dX12_gone_48 (by decide : _ = ((118 : Nat) : Int)) (fun q => ?_) (fun q => ?_)
    · replace hF := brT q hF
      cases hF
      exact k
    · replace hF := brF q hF
      refine v_iload (j := 4) dX12_gone_51 rfl ?_
      refine v_aload_n (j := 0) dX12_gone_53 rfl ?_
      refine v_getL (c := 12) rfl rfl rfl ly12_30 cz12 flX12_76 dX12_gone_54 ?_
      refine v_iload (j := 5) dX12_gone_57 rfl ?_
      replace hF := gd_use hF
      obtain ⟨q7, hF⟩ := hF
      refine v_iald rfl q7 dX12_gone_59 ?_
      refine v_iconst (v := 1) dX12_gone_60 (by decide) ?_
      replace hF := lb_ex hF
      obtain ⟨j8, ej8, hF⟩ := hF
      have j8V : ∀ (x9 : Int32) (h10 : Hp), j8 x9 h10 = some z → V X mX12_gone true h0 108 [(0, zr 12 0), (1, zi a1), (2, zi a2), (3, zi a3), (5, zi a5)] [zi x9] h10 r hE := by
        intro x9 h10 hF
        subst ej8
        refine v_iconst (v := 0) dX12_gone_108 (by decide) ?_
        refine v_iadd dX12_gone_109 ?_
        refine v_topi fun v11 ev11 => ?_
        replace hF := lb_use ev11 hF
        clear ev11
        refine v_istore (ls' := [(4, zi v11), (0, zr 12 0), (1, zi a1), (2, zi a2), (3, zi a3), (5, zi a5)]) dX12_gone_110 (by decide) rfl ?_
        obtain ⟨v12, ev12⟩ : ∃ y : Int32, y = a5 + 1 := ⟨_, rfl⟩
        replace hF := lb_use ev12 hF
        refine v_iinc (j := 5) (v := v12) (ls' := [(5, zi v12), (4, zi v11), (0, zr 12 0), (1, zi a1), (2, zi a2), (3, zi a3)]) dX12_gone_112 rfl (by rw [ev12]; rfl) (by decide) rfl ?_
        clear ev12
        refine v_goto (tgt := 45) dX12_gone_115 (by decide) ?_
        refine v_sub [2, 3, 4, 5, 1, 0] rfl ?_
        exact ih a1 a2 a3 v11 v12 h10 _ hF k
      clear ej8
      refine v_icmp_eq dX12_gone_61 (by decide : _ = ((108 : Nat) : Int)) (fun q => ?_) (fun q => ?_)
      · replace hF := brT q hF
        refine v_sub [0, 1, 2, 3, 5] rfl ?_
        exact j8V a4 h hF
      · replace hF := brF q hF
        refine v_aload_n (j := 0) dX12_gone_64 rfl ?_
        refine v_getL (c := 12) rfl rfl rfl ly12_31 cz12 flX12_79 dX12_gone_65 ?_
        refine v_iload (j := 5) dX12_gone_68 rfl ?_
        replace hF := gd_use hF
        obtain ⟨q13, hF⟩ := hF
        refine v_iald rfl q13 dX12_gone_70 ?_
        refine v_iload_n (j := 1) dX12_gone_71 rfl ?_
        refine v_icmp_ne dX12_gone_72 (by decide : _ = ((108 : Nat) : Int)) (fun q => ?_) (fun q => ?_)
        · replace hF := brF q hF
          refine v_sub [0, 1, 2, 3, 5] rfl ?_
          exact j8V a4 h hF
        · replace hF := brT (Decidable.not_not.mp q) hF
          refine v_aload_n (j := 0) dX12_gone_75 rfl ?_
          refine v_getL (c := 12) rfl rfl rfl ly12_37 cz12 flX12_97 dX12_gone_76 ?_
          refine v_iload (j := 5) dX12_gone_79 rfl ?_
          replace hF := gd_use hF
          obtain ⟨q14, hF⟩ := hF
          refine v_iald rfl q14 dX12_gone_81 ?_
          refine v_aload_n (j := 0) dX12_gone_82 rfl ?_
          refine v_getI (c := 12) rfl (Or.inl rfl) cz12 flX12_251 dX12_gone_83 ?_
          refine v_icmp_lt dX12_gone_86 (by decide : _ = ((108 : Nat) : Int)) (fun q => ?_) (fun q => ?_)
          · replace hF := brT q hF
            refine v_sub [0, 1, 2, 3, 5] rfl ?_
            exact j8V a4 h hF
          · replace hF := brF q hF
            refine v_aload_n (j := 0) dX12_gone_89 rfl ?_
            refine v_getL (c := 12) rfl rfl rfl ly12_41 cz12 flX12_109 dX12_gone_90 ?_
            refine v_iload (j := 5) dX12_gone_93 rfl ?_
            replace hF := gd_use hF
            obtain ⟨q15, hF⟩ := hF
            refine v_zald rfl q15 dX12_gone_95 ?_
            refine v_if_eq dX12_gone_96 (by decide : _ = ((108 : Nat) : Int)) (fun q => ?_) (fun q => ?_)
            · replace hF := brT q hF
              refine v_sub [0, 1, 2, 3, 5] rfl ?_
              exact j8V a4 h hF
            · replace hF := brF q hF
              refine v_iload_n (j := 2) dX12_gone_99 rfl ?_
              refine v_iconst (v := (-1)) dX12_gone_100 (by decide) ?_
              refine v_icmp_eq dX12_gone_101 (by decide : _ = ((108 : Nat) : Int)) (fun q => ?_) (fun q => ?_)
              · replace hF := brT q hF
                refine v_sub [0, 1, 2, 3, 5] rfl ?_
                exact j8V a4 h hF
              · replace hF := brF q hF
                refine v_iconst (v := 1) dX12_gone_104 (by decide) ?_
                refine v_goto (tgt := 109) dX12_gone_105 (by decide) ?_
                refine v_iadd dX12_gone_109 ?_
                refine v_topi fun v16 ev16 => ?_
                replace hF := lb_use ev16 hF
                clear ev16
                refine v_istore (ls' := [(4, zi v16), (0, zr 12 0), (1, zi a1), (2, zi a2), (3, zi a3), (5, zi a5)]) dX12_gone_110 (by decide) rfl ?_
                obtain ⟨v17, ev17⟩ : ∃ y : Int32, y = a5 + 1 := ⟨_, rfl⟩
                replace hF := lb_use ev17 hF
                refine v_iinc (j := 5) (v := v17) (ls' := [(5, zi v17), (4, zi v16), (0, zr 12 0), (1, zi a1), (2, zi a2), (3, zi a3)]) dX12_gone_112 rfl (by rw [ev17]; rfl) (by decide) rfl ?_
                clear ev17
                refine v_goto (tgt := 45) dX12_gone_115 (by decide) ?_
                refine v_sub [2, 3, 4, 5, 1, 0] rfl ?_
                exact ih a1 a2 a3 v16 v17 h _ hF k
set_option maxRecDepth 20000 in
theorem tX12_gone_L136 {X : Cz} {h0 : Hp} {r : Option AV} {hE : Hp} : ∀ (n : Nat) (a1 : Int32) (a2 : Int32) (a3 : Int32) (a4 : Int32) (a5 : Int32) (h : Hp) (z : (Int32) × Hp), fX12_gone_L136 n a1 a2 a3 a4 a5 h = some z → V X mX12_gone true h0 283 [(0, zr 12 0), (1, zi a1), (2, zi a2), (3, zi a3), (4, zi a4), (5, zi z.1)] [] z.2 r hE → V X mX12_gone true h0 136 [(0, zr 12 0), (1, zi a1), (2, zi a2), (3, zi a3), (4, zi a4), (5, zi a5)] [] h r hE := by
  intro n
  induction n with
  | zero => intro a1 a2 a3 a4 a5 h z hF k; cases hF
  | succ n ih =>
    intro a1 a2 a3 a4 a5 h z hF k
    rw [fX12_gone_L136] at hF
    refine v_iload (j := 5) dX12_gone_136 rfl ?_
    refine v_iload_n (j := 3) dX12_gone_138 rfl ?_
    refine v_icmp_ge dX12_gone_139 (by decide : _ = ((283 : Nat) : Int)) (fun q => ?_) (fun q => ?_)
    · replace hF := brT q hF
      cases hF
      exact k
    · replace hF := brF q hF
      refine v_aload_n (j := 0) dX12_gone_142 rfl ?_
      refine v_getL (c := 12) rfl rfl rfl ly12_30 cz12 flX12_76 dX12_gone_143 ?_
      refine v_iload (j := 5) dX12_gone_146 rfl ?_
      replace hF := gd_use hF
      obtain ⟨q22, hF⟩ := hF
      refine v_iald rfl q22 dX12_gone_148 ?_
      refine v_iconst (v := 1) dX12_gone_149 (by decide) ?_
      refine v_icmp_eq dX12_gone_150 (by decide : _ = ((277 : Nat) : Int)) (fun q => ?_) (fun q => ?_)
      · replace hF := brT q hF
        obtain ⟨v23, ev23⟩ : ∃ y : Int32, y = a5 + 1 := ⟨_, rfl⟩
        replace hF := lb_use ev23 hF
        refine v_iinc (j := 5) (v := v23) (ls' := [(5, zi v23), (0, zr 12 0), (1, zi a1), (2, zi a2), (3, zi a3), (4, zi a4)]) dX12_gone_277 rfl (by rw [ev23]; rfl) (by decide) rfl ?_
        clear ev23
        refine v_goto (tgt := 136) dX12_gone_280 (by decide) ?_
        refine v_sub [1, 2, 3, 4, 5, 0] rfl ?_
        exact ih a1 a2 a3 a4 v23 h _ hF k
      · replace hF := brF q hF
        refine v_aload_n (j := 0) dX12_gone_153 rfl ?_
        refine v_getL (c := 12) rfl rfl rfl ly12_31 cz12 flX12_79 dX12_gone_154 ?_
        refine v_iload (j := 5) dX12_gone_157 rfl ?_
        replace hF := gd_use hF
        obtain ⟨q24, hF⟩ := hF
        refine v_iald rfl q24 dX12_gone_159 ?_
        refine v_iload_n (j := 1) dX12_gone_160 rfl ?_
        refine v_icmp_ne dX12_gone_161 (by decide : _ = ((277 : Nat) : Int)) (fun q => ?_) (fun q => ?_)
        · replace hF := brF q hF
          obtain ⟨v25, ev25⟩ : ∃ y : Int32, y = a5 + 1 := ⟨_, rfl⟩
          replace hF := lb_use ev25 hF
          refine v_iinc (j := 5) (v := v25) (ls' := [(5, zi v25), (0, zr 12 0), (1, zi a1), (2, zi a2), (3, zi a3), (4, zi a4)]) dX12_gone_277 rfl (by rw [ev25]; rfl) (by decide) rfl ?_
          clear ev25
          refine v_goto (tgt := 136) dX12_gone_280 (by decide) ?_
          refine v_sub [1, 2, 3, 4, 5, 0] rfl ?_
          exact ih a1 a2 a3 a4 v25 h _ hF k
        · replace hF := brT (Decidable.not_not.mp q) hF
          refine v_aload_n (j := 0) dX12_gone_164 rfl ?_
          refine v_getL (c := 12) rfl rfl rfl ly12_37 cz12 flX12_97 dX12_gone_165 ?_
          refine v_iload (j := 5) dX12_gone_168 rfl ?_
          replace hF := gd_use hF
          obtain ⟨q26, hF⟩ := hF
          refine v_iald rfl q26 dX12_gone_170 ?_
          refine v_aload_n (j := 0) dX12_gone_171 rfl ?_
          refine v_getI (c := 12) rfl (Or.inl rfl) cz12 flX12_251 dX12_gone_172 ?_
          refine v_icmp_ge dX12_gone_175 (by decide : _ = ((181 : Nat) : Int)) (fun q => ?_) (fun q => ?_)
          · replace hF := brT q hF
            refine v_aload_n (j := 0) dX12_gone_181 rfl ?_
            refine v_getL (c := 12) rfl rfl rfl ly12_41 cz12 flX12_109 dX12_gone_182 ?_
            refine v_iload (j := 5) dX12_gone_185 rfl ?_
            replace hF := gd_use hF
            obtain ⟨q27, hF⟩ := hF
            refine v_zald rfl q27 dX12_gone_187 ?_
            replace hF := lb_ex hF
            obtain ⟨j28, ej28, hF⟩ := hF
            have j28V : ∀ (x29 : Int32) (h30 : Hp), j28 x29 h30 = some z → V X mX12_gone true h0 269 [(0, zr 12 0), (1, zi a1), (2, zi a2), (3, zi a3), (4, zi a4), (5, zi a5)] [zi x29] h30 r hE := by
              intro x29 h30 hF
              subst ej28
              refine v_istore (ls' := [(6, zi x29), (0, zr 12 0), (1, zi a1), (2, zi a2), (3, zi a3), (4, zi a4), (5, zi a5)]) dX12_gone_269 (by decide) rfl ?_
              refine v_aload_n (j := 1) dX12_gone_271 rfl ?_
              refine v_iload (j := 6) dX12_gone_272 rfl ?_
              replace hF := bd_use hF
              obtain ⟨r31, h32, er31, hF⟩ := hF
              refine v_cV (hm := h32) (av := [zi a5]) (st := []) (stn := []) (tX12_stops er31) lcX12_stops mlX12_327 imX12_stops seX12_stops rfl rfl rfl rfl ⟨by decide, by decide⟩ (Nat.le_of_ble_eq_true rfl) dX12_gone_274 rfl rfl ?_
              clear er31
              obtain ⟨v33, ev33⟩ : ∃ y : Int32, y = a5 + 1 := ⟨_, rfl⟩
              replace hF := lb_use ev33 hF
              refine v_iinc (j := 6) (v := v33) (ls' := [(5, zi v33), (6, zi x29), (0, zr 12 0), (1, zi a1), (2, zi a2), (3, zi a3), (4, zi a4)]) dX12_gone_277 rfl (by rw [ev33]; rfl) (by decide) rfl ?_
              clear ev33
              refine v_goto (tgt := 136) dX12_gone_280 (by decide) ?_
              refine v_sub [2, 3, 4, 5, 6, 0] rfl ?_
              exact ih a1 a2 a3 a4 v33 h32 _ hF k
            clear ej28
            replace hF := lb_ex hF
            obtain ⟨j34, ej34, hF⟩ := hF
            have j34V : ∀ (h35 : Hp), j34 h35 = some z → V X mX12_gone true h0 268 [(0, zr 12 0), (1, zi a1), (2, zi a2), (3, zi a3), (4, zi a4), (5, zi a5)] [] h35 r hE := by
              intro h35 hF
              subst ej34
              refine v_iconst (v := 0) dX12_gone_268 (by decide) ?_
              exact j28V 0 h35 hF
            clear ej34
            refine v_if_eq dX12_gone_188 (by decide : _ = ((268 : Nat) : Int)) (fun q => ?_) (fun q => ?_)
            · replace hF := brT q hF
              exact j34V h hF
            · replace hF := brF q hF
              refine v_iload_n (j := 2) dX12_gone_191 rfl ?_
              refine v_iconst (v := (-1)) dX12_gone_192 (by decide) ?_
              refine v_icmp_eq dX12_gone_193 (by decide : _ = ((268 : Nat) : Int)) (fun q => ?_) (fun q => ?_)
              · replace hF := brT q hF
                exact j34V h hF
              · replace hF := brF q hF
                refine v_aload_n (j := 0) dX12_gone_196 rfl ?_
                refine v_aload_n (j := 0) dX12_gone_197 rfl ?_
                refine v_getL (c := 12) rfl rfl rfl ly12_30 cz12 flX12_76 dX12_gone_198 ?_
                refine v_iload (j := 5) dX12_gone_201 rfl ?_
                replace hF := gd_use hF
                obtain ⟨q36, hF⟩ := hF
                refine v_iald rfl q36 dX12_gone_203 ?_
                refine v_iload_n (j := 2) dX12_gone_204 rfl ?_
                refine v_aload_n (j := 0) dX12_gone_205 rfl ?_
                refine v_getL (c := 12) rfl rfl rfl ly12_32 cz12 flX12_82 dX12_gone_206 ?_
                refine v_iload (j := 5) dX12_gone_209 rfl ?_
                replace hF := gd_use hF
                obtain ⟨q37, hF⟩ := hF
                refine v_iald rfl q37 dX12_gone_211 ?_
                refine v_aload_n (j := 0) dX12_gone_212 rfl ?_
                refine v_getL (c := 12) rfl rfl rfl ly12_33 cz12 flX12_85 dX12_gone_213 ?_
                refine v_iload (j := 5) dX12_gone_216 rfl ?_
                replace hF := gd_use hF
                obtain ⟨q38, hF⟩ := hF
                refine v_iald rfl q38 dX12_gone_218 ?_
                refine v_aload_n (j := 0) dX12_gone_219 rfl ?_
                refine v_getL (c := 12) rfl rfl rfl ly12_34 cz12 flX12_88 dX12_gone_220 ?_
                refine v_iload (j := 5) dX12_gone_223 rfl ?_
                replace hF := gd_use hF
                obtain ⟨q39, hF⟩ := hF
                refine v_iald rfl q39 dX12_gone_225 ?_
                refine v_aload_n (j := 0) dX12_gone_226 rfl ?_
                refine v_getL (c := 12) rfl rfl rfl ly12_35 cz12 flX12_91 dX12_gone_227 ?_
                refine v_iload (j := 5) dX12_gone_230 rfl ?_
                replace hF := gd_use hF
                obtain ⟨q40, hF⟩ := hF
                refine v_iald rfl q40 dX12_gone_232 ?_
                refine v_aload_n (j := 0) dX12_gone_233 rfl ?_
                refine v_getL (c := 12) rfl rfl rfl ly12_36 cz12 flX12_94 dX12_gone_234 ?_
                refine v_iload (j := 5) dX12_gone_237 rfl ?_
                replace hF := gd_use hF
                obtain ⟨q41, hF⟩ := hF
                refine v_iald rfl q41 dX12_gone_239 ?_
                refine v_aload_n (j := 0) dX12_gone_240 rfl ?_
                refine v_getI (c := 12) rfl (Or.inl rfl) cz12 flX12_251 dX12_gone_241 ?_
                refine v_J9_max_7cf53 mlX12_263 (by decide) (Nat.le_of_ble_eq_true rfl) dX12_gone_244 ?_
                refine v_aload_n (j := 0) dX12_gone_247 rfl ?_
                refine v_getL (c := 12) rfl rfl rfl ly12_37 cz12 flX12_97 dX12_gone_248 ?_
                refine v_iload (j := 5) dX12_gone_251 rfl ?_
                replace hF := gd_use hF
                obtain ⟨q42, hF⟩ := hF
                refine v_iald rfl q42 dX12_gone_253 ?_
                refine v_iconst (v := 1) dX12_gone_254 (by decide) ?_
                refine v_aload_n (j := 0) dX12_gone_255 rfl ?_
                refine v_getL (c := 12) rfl rfl rfl ly12_42 cz12 flX12_112 dX12_gone_256 ?_
                refine v_iload (j := 5) dX12_gone_259 rfl ?_
                replace hF := gd_use hF
                obtain ⟨q43, hF⟩ := hF
                refine v_lald rfl q43 dX12_gone_261 ?_
                replace hF := bd_use hF
                obtain ⟨r44, h45, er44, hF⟩ := hF
                refine v_cV (hm := h45) (av := [zi (gI h 70 0 (ix a5)), zi a2, zi (gI h 72 0 (ix a5)), zi (gI h 73 0 (ix a5)), zi (gI h 74 0 (ix a5)), zi (gI h 75 0 (ix a5)), zi (mxI (gI h 76 0 (ix a5)) (gI h 12 0 5)), zi (gI h 77 0 (ix a5)), zi 1, zj (gJ h 82 0 (ix a5))]) (st := []) (stn := [zi r44]) (tX12_adds er44) lcX12_adds mlX12_323 imX12_adds seX12_adds rfl rfl rfl rfl ⟨by decide, by decide⟩ (Nat.le_of_ble_eq_true rfl) dX12_gone_262 rfl rfl ?_
                clear er44
                refine v_goto (tgt := 269) dX12_gone_265 (by decide) ?_
                exact j28V r44 h45 hF
          · replace hF := brF q hF
            refine v_goto (tgt := 277) dX12_gone_178 (by decide) ?_
            obtain ⟨v46, ev46⟩ : ∃ y : Int32, y = a5 + 1 := ⟨_, rfl⟩
            replace hF := lb_use ev46 hF
            refine v_iinc (j := 5) (v := v46) (ls' := [(5, zi v46), (0, zr 12 0), (1, zi a1), (2, zi a2), (3, zi a3), (4, zi a4)]) dX12_gone_277 rfl (by rw [ev46]; rfl) (by decide) rfl ?_
            clear ev46
            refine v_goto (tgt := 136) dX12_gone_280 (by decide) ?_
            refine v_sub [1, 2, 3, 4, 5, 0] rfl ?_
            exact ih a1 a2 a3 a4 v46 h _ hF k
set_option maxRecDepth 20000 in
theorem tX12_gone_L286 {X : Cz} {h0 : Hp} {r : Option AV} {hE : Hp} : ∀ (n : Nat) (a1 : Int32) (a2 : Int32) (a4 : Int32) (a5 : Int32) (h : Hp) (z : (Int32) × Hp), fX12_gone_L286 n a1 a2 a4 a5 h = some z → V X mX12_gone true h0 326 [(0, zr 12 0), (1, zi a1), (2, zi a2), (4, zi a4), (5, zi z.1)] [] z.2 r hE → V X mX12_gone true h0 286 [(0, zr 12 0), (1, zi a1), (2, zi a2), (4, zi a4), (5, zi a5)] [] h r hE := by
  intro n
  induction n with
  | zero => intro a1 a2 a4 a5 h z hF k; cases hF
  | succ n ih =>
    intro a1 a2 a4 a5 h z hF k
    rw [fX12_gone_L286] at hF
    refine v_iload (j := 4) dX12_gone_286 rfl ?_
    refine v_bipush (v := 8) dX12_gone_288 (by decide) ?_
    refine v_icmp_ge dX12_gone_290 (by decide : _ = ((326 : Nat) : Int)) (fun q => ?_) (fun q => ?_)
    · replace hF := brT q hF
      cases hF
      exact k
    · replace hF := brF q hF
      refine v_aload_n (j := 0) dX12_gone_293 rfl ?_
      refine v_getL (c := 12) rfl rfl rfl ly12_29 cz12 flX12_73 dX12_gone_294 ?_
      refine v_sipush (v := 200) dX12_gone_297 (by decide) ?_
      refine v_iload (j := 4) dX12_gone_300 rfl ?_
      refine v_imul dX12_gone_302 ?_
      refine v_aload_n (j := 0) dX12_gone_303 rfl ?_
      refine v_getI (c := 12) rfl (Or.inl rfl) cz12 flX12_251 dX12_gone_304 ?_
      refine v_iadd dX12_gone_307 ?_
      replace hF := gd_use hF
      obtain ⟨q50, hF⟩ := hF
      refine v_iald rfl q50 dX12_gone_308 ?_
      refine v_iload_n (j := 1) dX12_gone_309 rfl ?_
      refine v_icmp_ne dX12_gone_310 (by decide : _ = ((320 : Nat) : Int)) (fun q => ?_) (fun q => ?_)
      · replace hF := brF q hF
        obtain ⟨v51, ev51⟩ : ∃ y : Int32, y = a5 + 1 := ⟨_, rfl⟩
        replace hF := lb_use ev51 hF
        refine v_iinc (j := 4) (v := v51) (ls' := [(5, zi v51), (0, zr 12 0), (1, zi a1), (2, zi a2), (4, zi a4)]) dX12_gone_320 rfl (by rw [ev51]; rfl) (by decide) rfl ?_
        clear ev51
        refine v_goto (tgt := 286) dX12_gone_323 (by decide) ?_
        refine v_sub [1, 2, 3, 4, 0] rfl ?_
        exact ih a1 a2 a4 v51 h _ hF k
      · replace hF := brT (Decidable.not_not.mp q) hF
        refine v_aload_n (j := 0) dX12_gone_313 rfl ?_
        refine v_iload (j := 4) dX12_gone_314 rfl ?_
        refine v_iload_n (j := 2) dX12_gone_316 rfl ?_
        replace hF := bd_use hF
        obtain ⟨r52, h53, er52, hF⟩ := hF
        refine v_cV (hm := h53) (av := [zi a5, zi a2]) (st := []) (stn := []) (tX12_owns er52) lcX12_owns mlX12_351 imX12_owns seX12_owns rfl rfl rfl rfl ⟨by decide, by decide⟩ (Nat.le_of_ble_eq_true rfl) dX12_gone_317 rfl rfl ?_
        clear er52
        obtain ⟨v54, ev54⟩ : ∃ y : Int32, y = a5 + 1 := ⟨_, rfl⟩
        replace hF := lb_use ev54 hF
        refine v_iinc (j := 4) (v := v54) (ls' := [(5, zi v54), (0, zr 12 0), (1, zi a1), (2, zi a2), (4, zi a4)]) dX12_gone_320 rfl (by rw [ev54]; rfl) (by decide) rfl ?_
        clear ev54
        refine v_goto (tgt := 286) dX12_gone_323 (by decide) ?_
        refine v_sub [1, 2, 3, 4, 0] rfl ?_
        exact ih a1 a2 a4 v54 h53 _ hF k
set_option maxRecDepth 20000 in
theorem tX12_gone {X : Cz} {a1 : Int32} {a2 : Int32} {h hE : Hp} {rE : Int32} (hF : fX12_gone a1 a2 h = some (rE, hE)) : Ct X mX12_gone true [zr 12 0, zi a1, zi a2] h (some (zi rE)) hE := by
  refine Ct_of (by decide) (Nat.le_of_ble_eq_true rfl) (ls := [(0, zr 12 0), (1, zi a1), (2, zi a2)]) rfl ?_
  unfold fX12_gone at hF
  refine v_aload_n (j := 0) dX12_gone_0 rfl ?_
  refine v_iconst (v := 0) dX12_gone_1 (by decide) ?_
  refine v_putI (c := 12) rfl rfl (Nat.le_of_ble_eq_true rfl) cz12 flX12_208 dX12_gone_2 ?_
  refine v_toph fun h1 eh1 => ?_
  replace hF := lb_use eh1 hF
  clear eh1
  refine v_aload_n (j := 0) dX12_gone_5 rfl ?_
  refine v_iload_n (j := 1) dX12_gone_6 rfl ?_
  replace hF := bd_use hF
  obtain ⟨r2, h3, er2, hF⟩ := hF
  refine v_cV (hm := h3) (av := [zi a1]) (st := []) (stn := [zi r2]) (tX12_isThere er2) lcX12_isThere mlX12_304 imX12_isThere seX12_isThere rfl rfl rfl rfl ⟨by decide, by decide⟩ (Nat.le_of_ble_eq_true rfl) dX12_gone_7 rfl rfl ?_
  clear er2
  refine v_if_eq dX12_gone_10 (by decide : _ = ((31 : Nat) : Int)) (fun q => ?_) (fun q => ?_)
  · replace hF := brT q hF
    refine v_bipush (v := (-2)) dX12_gone_31 (by decide) ?_
    obtain ⟨rfl, rfl⟩ := ret_use hF
    exact v_iret rfl dX12_gone_33
  · replace hF := brF q hF
    refine v_iload_n (j := 2) dX12_gone_13 rfl ?_
    refine v_iconst (v := (-1)) dX12_gone_14 (by decide) ?_
    replace hF := lb_ex hF
    obtain ⟨j4, ej4, hF⟩ := hF
    have j4V : ∀ (h5 : Hp), j4 h5 = some (rE, hE) → V X mX12_gone true h 34 [(0, zr 12 0), (1, zi a1), (2, zi a2)] [] h5 (some (zi rE)) hE := by
      intro h5 hF
      subst ej4
      refine v_aload_n (j := 0) dX12_gone_34 rfl ?_
      refine v_getI (c := 12) rfl (Or.inl rfl) cz12 flX12_316 dX12_gone_35 ?_
      refine v_topi fun v6 ev6 => ?_
      replace hF := lb_use ev6 hF
      clear ev6
      refine v_istore_n (ls' := [(3, zi v6), (0, zr 12 0), (1, zi a1), (2, zi a2)]) dX12_gone_38 (by decide) rfl ?_
      refine v_iconst (v := 0) dX12_gone_39 (by decide) ?_
      refine v_istore (ls' := [(4, zi 0), (3, zi v6), (0, zr 12 0), (1, zi a1), (2, zi a2)]) dX12_gone_40 (by decide) rfl ?_
      refine v_iconst (v := 0) dX12_gone_42 (by decide) ?_
      refine v_istore (ls' := [(5, zi 0), (4, zi 0), (3, zi v6), (0, zr 12 0), (1, zi a1), (2, zi a2)]) dX12_gone_43 (by decide) rfl ?_
      refine v_sub [3, 4, 5, 2, 1, 0] rfl ?_
      replace hF := bd_use hF
      obtain ⟨t19, h18, et19, hF⟩ := hF
      refine tX12_gone_L45 _ a1 a2 v6 0 0 h5 _ et19 ?_
      clear et19
      obtain ⟨v20, v21⟩ := t19
      replace hF := lb_use (x := v20) rfl hF
      replace hF := lb_use (x := v21) rfl hF
      refine v_aload_n (j := 0) dX12_gone_118 rfl ?_
      refine v_getI (c := 12) rfl (Or.inl rfl) cz12 flX12_316 dX12_gone_119 ?_
      refine v_iload (j := 4) dX12_gone_122 rfl ?_
      refine v_iadd dX12_gone_124 ?_
      refine v_bipush (v := 100) dX12_gone_125 (by decide) ?_
      refine v_icmp_le dX12_gone_127 (by decide : _ = ((133 : Nat) : Int)) (fun q => ?_) (fun q => ?_)
      · replace hF := brT q hF
        refine v_iconst (v := 0) dX12_gone_133 (by decide) ?_
        refine v_istore (ls' := [(5, zi 0), (0, zr 12 0), (1, zi a1), (2, zi a2), (3, zi v6), (4, zi v20)]) dX12_gone_134 (by decide) rfl ?_
        refine v_sub [1, 2, 3, 4, 5, 0] rfl ?_
        replace hF := bd_use hF
        obtain ⟨v49, h47, ev49, hF⟩ := hF
        refine tX12_gone_L136 _ a1 a2 v6 v20 0 h18 _ ev49 ?_
        clear ev49
        refine v_iconst (v := 0) dX12_gone_283 (by decide) ?_
        refine v_istore (ls' := [(5, zi 0), (0, zr 12 0), (1, zi a1), (2, zi a2), (3, zi v6), (4, zi v20)]) dX12_gone_284 (by decide) rfl ?_
        refine v_sub [1, 2, 3, 5, 0] rfl ?_
        replace hF := bd_use hF
        obtain ⟨v57, h55, ev57, hF⟩ := hF
        refine tX12_gone_L286 _ a1 a2 v20 0 h47 _ ev57 ?_
        clear ev57
        refine v_aload_n (j := 0) dX12_gone_326 rfl ?_
        refine v_getL (c := 12) rfl rfl rfl ly12_28 cz12 flX12_70 dX12_gone_327 ?_
        refine v_iload_n (j := 1) dX12_gone_330 rfl ?_
        refine v_iconst (v := 1) dX12_gone_331 (by decide) ?_
        replace hF := gd_use hF
        obtain ⟨q58, hF⟩ := hF
        refine v_zastL rfl q58 (Or.inr rfl) dX12_gone_332 ?_
        refine v_toph fun h59 eh59 => ?_
        replace hF := lb_use eh59 hF
        clear eh59
        refine v_iload (j := 3) dX12_gone_333 rfl ?_
        obtain ⟨rfl, rfl⟩ := ret_use hF
        exact v_iret rfl dX12_gone_335
      · replace hF := brF q hF
        refine v_bipush (v := (-3)) dX12_gone_130 (by decide) ?_
        obtain ⟨rfl, rfl⟩ := ret_use hF
        exact v_iret rfl dX12_gone_132
    clear ej4
    refine v_icmp_eq dX12_gone_15 (by decide : _ = ((34 : Nat) : Int)) (fun q => ?_) (fun q => ?_)
    · replace hF := brT q hF
      exact j4V h3 hF
    · replace hF := brF q hF
      refine v_aload_n (j := 0) dX12_gone_18 rfl ?_
      refine v_iload_n (j := 2) dX12_gone_19 rfl ?_
      replace hF := bd_use hF
      obtain ⟨r60, h61, er60, hF⟩ := hF
      refine v_cV (hm := h61) (av := [zi a2]) (st := []) (stn := [zi r60]) (tX12_isThere er60) lcX12_isThere mlX12_304 imX12_isThere seX12_isThere rfl rfl rfl rfl ⟨by decide, by decide⟩ (Nat.le_of_ble_eq_true rfl) dX12_gone_20 rfl rfl ?_
      clear er60
      refine v_if_eq dX12_gone_23 (by decide : _ = ((31 : Nat) : Int)) (fun q => ?_) (fun q => ?_)
      · replace hF := brT q hF
        refine v_bipush (v := (-2)) dX12_gone_31 (by decide) ?_
        obtain ⟨rfl, rfl⟩ := ret_use hF
        exact v_iret rfl dX12_gone_33
      · replace hF := brF q hF
        refine v_iload_n (j := 2) dX12_gone_26 rfl ?_
        refine v_iload_n (j := 1) dX12_gone_27 rfl ?_
        refine v_icmp_ne dX12_gone_28 (by decide : _ = ((34 : Nat) : Int)) (fun q => ?_) (fun q => ?_)
        · replace hF := brF q hF
          exact j4V h61 hF
        · replace hF := brT (Decidable.not_not.mp q) hF
          refine v_bipush (v := (-2)) dX12_gone_31 (by decide) ?_
          obtain ⟨rfl, rfl⟩ := ret_use hF
          exact v_iret rfl dX12_gone_33
