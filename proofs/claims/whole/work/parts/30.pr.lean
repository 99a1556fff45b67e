/-! functions and ties, printed by program (wip/gen/dec.py) -/
theorem dX11_init_0 : decode cX11_init 0 = .ok (.aload_n 0, 1) := by decide +kernel
theorem dX11_init_1 : decode cX11_init 1 = .ok (.invokespecial 1, 3) := by decide +kernel
theorem dX11_init_4 : decode cX11_init 4 = .ok (.aload_n 0, 1) := by decide +kernel
theorem dX11_init_5 : decode cX11_init 5 = .ok (.new 7, 3) := by decide +kernel
theorem dX11_init_8 : decode cX11_init 8 = .ok (.dup, 1) := by decide +kernel
theorem dX11_init_9 : decode cX11_init 9 = .ok (.invokespecial 9, 3) := by decide +kernel
theorem dX11_init_12 : decode cX11_init 12 = .ok (.putfield 10, 3) := by decide +kernel
theorem dX11_init_15 : decode cX11_init 15 = .ok (.aload_n 0, 1) := by decide +kernel
theorem dX11_init_16 : decode cX11_init 16 = .ok (.new 16, 3) := by decide +kernel
theorem dX11_init_19 : decode cX11_init 19 = .ok (.dup, 1) := by decide +kernel
theorem dX11_init_20 : decode cX11_init 20 = .ok (.invokespecial 18, 3) := by decide +kernel
theorem dX11_init_23 : decode cX11_init 23 = .ok (.putfield 19, 3) := by decide +kernel
theorem dX11_init_26 : decode cX11_init 26 = .ok (.aload_n 0, 1) := by decide +kernel
theorem dX11_init_27 : decode cX11_init 27 = .ok (.new 23, 3) := by decide +kernel
theorem dX11_init_30 : decode cX11_init 30 = .ok (.dup, 1) := by decide +kernel
theorem dX11_init_31 : decode cX11_init 31 = .ok (.invokespecial 25, 3) := by decide +kernel
theorem dX11_init_34 : decode cX11_init 34 = .ok (.putfield 26, 3) := by decide +kernel
theorem dX11_init_37 : decode cX11_init 37 = .ok (.aload_n 0, 1) := by decide +kernel
theorem dX11_init_38 : decode cX11_init 38 = .ok (.new 30, 3) := by decide +kernel
theorem dX11_init_41 : decode cX11_init 41 = .ok (.dup, 1) := by decide +kernel
theorem dX11_init_42 : decode cX11_init 42 = .ok (.aload_n 0, 1) := by decide +kernel
theorem dX11_init_43 : decode cX11_init 43 = .ok (.getfield 10, 3) := by decide +kernel
theorem dX11_init_46 : decode cX11_init 46 = .ok (.aload_n 0, 1) := by decide +kernel
theorem dX11_init_47 : decode cX11_init 47 = .ok (.getfield 19, 3) := by decide +kernel
theorem dX11_init_50 : decode cX11_init 50 = .ok (.invokespecial 32, 3) := by decide +kernel
theorem dX11_init_53 : decode cX11_init 53 = .ok (.putfield 35, 3) := by decide +kernel
theorem dX11_init_56 : decode cX11_init 56 = .ok (.aload_n 0, 1) := by decide +kernel
theorem dX11_init_57 : decode cX11_init 57 = .ok (.new 39, 3) := by decide +kernel
theorem dX11_init_60 : decode cX11_init 60 = .ok (.dup, 1) := by decide +kernel
theorem dX11_init_61 : decode cX11_init 61 = .ok (.invokespecial 41, 3) := by decide +kernel
theorem dX11_init_64 : decode cX11_init 64 = .ok (.putfield 42, 3) := by decide +kernel
theorem dX11_init_67 : decode cX11_init 67 = .ok (.aload_n 0, 1) := by decide +kernel
theorem dX11_init_68 : decode cX11_init 68 = .ok (.new 46, 3) := by decide +kernel
theorem dX11_init_71 : decode cX11_init 71 = .ok (.dup, 1) := by decide +kernel
theorem dX11_init_72 : decode cX11_init 72 = .ok (.aload_n 0, 1) := by decide +kernel
theorem dX11_init_73 : decode cX11_init 73 = .ok (.getfield 10, 3) := by decide +kernel
theorem dX11_init_76 : decode cX11_init 76 = .ok (.aload_n 0, 1) := by decide +kernel
theorem dX11_init_77 : decode cX11_init 77 = .ok (.getfield 19, 3) := by decide +kernel
theorem dX11_init_80 : decode cX11_init 80 = .ok (.invokespecial 48, 3) := by decide +kernel
theorem dX11_init_83 : decode cX11_init 83 = .ok (.putfield 49, 3) := by decide +kernel
theorem dX11_init_86 : decode cX11_init 86 = .ok (.aload_n 0, 1) := by decide +kernel
theorem dX11_init_87 : decode cX11_init 87 = .ok (.new 53, 3) := by decide +kernel
theorem dX11_init_90 : decode cX11_init 90 = .ok (.dup, 1) := by decide +kernel
theorem dX11_init_91 : decode cX11_init 91 = .ok (.aload_n 0, 1) := by decide +kernel
theorem dX11_init_92 : decode cX11_init 92 = .ok (.getfield 10, 3) := by decide +kernel
theorem dX11_init_95 : decode cX11_init 95 = .ok (.aload_n 0, 1) := by decide +kernel
theorem dX11_init_96 : decode cX11_init 96 = .ok (.getfield 19, 3) := by decide +kernel
theorem dX11_init_99 : decode cX11_init 99 = .ok (.aload_n 0, 1) := by decide +kernel
theorem dX11_init_100 : decode cX11_init 100 = .ok (.getfield 35, 3) := by decide +kernel
theorem dX11_init_103 : decode cX11_init 103 = .ok (.invokespecial 55, 3) := by decide +kernel
theorem dX11_init_106 : decode cX11_init 106 = .ok (.putfield 58, 3) := by decide +kernel
theorem dX11_init_109 : decode cX11_init 109 = .ok (.aload_n 0, 1) := by decide +kernel
theorem dX11_init_110 : decode cX11_init 110 = .ok (.new 62, 3) := by decide +kernel
theorem dX11_init_113 : decode cX11_init 113 = .ok (.dup, 1) := by decide +kernel
theorem dX11_init_114 : decode cX11_init 114 = .ok (.invokespecial 64, 3) := by decide +kernel
theorem dX11_init_117 : decode cX11_init 117 = .ok (.putfield 65, 3) := by decide +kernel
theorem dX11_init_120 : decode cX11_init 120 = .ok (.aload_n 0, 1) := by decide +kernel
theorem dX11_init_121 : decode cX11_init 121 = .ok (.sipush 200, 3) := by decide +kernel
theorem dX11_init_124 : decode cX11_init 124 = .ok (.anewarray 69, 3) := by decide +kernel
theorem dX11_init_127 : decode cX11_init 127 = .ok (.putfield 71, 3) := by decide +kernel
theorem dX11_init_130 : decode cX11_init 130 = .ok (.aload_n 0, 1) := by decide +kernel
theorem dX11_init_131 : decode cX11_init 131 = .ok (.new 69, 3) := by decide +kernel
theorem dX11_init_134 : decode cX11_init 134 = .ok (.dup, 1) := by decide +kernel
theorem dX11_init_135 : decode cX11_init 135 = .ok (.invokespecial 75, 3) := by decide +kernel
theorem dX11_init_138 : decode cX11_init 138 = .ok (.putfield 76, 3) := by decide +kernel
theorem dX11_init_141 : decode cX11_init 141 = .ok (.aload_n 0, 1) := by decide +kernel
theorem dX11_init_142 : decode cX11_init 142 = .ok (.sipush 256, 3) := by decide +kernel
theorem dX11_init_145 : decode cX11_init 145 = .ok (.newarray .int, 2) := by decide +kernel
theorem dX11_init_147 : decode cX11_init 147 = .ok (.putfield 80, 3) := by decide +kernel
theorem dX11_init_150 : decode cX11_init 150 = .ok (.aload_n 0, 1) := by decide +kernel
theorem dX11_init_151 : decode cX11_init 151 = .ok (.iconst 3, 1) := by decide +kernel
theorem dX11_init_152 : decode cX11_init 152 = .ok (.putfield 84, 3) := by decide +kernel
theorem dX11_init_155 : decode cX11_init 155 = .ok (.aload_n 0, 1) := by decide +kernel
theorem dX11_init_156 : decode cX11_init 156 = .ok (.bipush 10, 2) := by decide +kernel
theorem dX11_init_158 : decode cX11_init 158 = .ok (.putfield 88, 3) := by decide +kernel
theorem dX11_init_161 : decode cX11_init 161 = .ok (.return_, 1) := by decide +kernel
def fX11_init (a0 : Nat) (h : Hp) : Option (Unit × Hp) := lb (gN h 1) (fun z1 => lb (nw h 1 14) (fun h2 => bd (fX1_init z1 h2) (fun r3 h4 => lb (sR h4 11 a0 0 (some z1)) (fun h5 => lb (gN h5 4) (fun z6 => lb (nw h5 4 2) (fun h7 => bd (fX4_init z6 h7) (fun r8 h9 => lb (sR h9 11 a0 1 (some z6)) (fun h10 => lb (gN h10 3) (fun z11 => lb (nw h10 3 5) (fun h12 => bd (fX3_init z11 h12) (fun r13 h14 => lb (sR h14 11 a0 2 (some z11)) (fun h15 => lb (gN h15 10) (fun z16 => lb (nw h15 10 7) (fun h17 => lb (gR h17 11 a0 0) (fun o18 => lb (gR h17 11 a0 1) (fun o19 => bd (fX10_init z16 o18 o19 h17) (fun r20 h21 => lb (sR h21 11 a0 3 (some z16)) (fun h22 => lb (gN h22 0) (fun z23 => lb (nw h22 0 13) (fun h24 => bd (fX0_init z23 h24) (fun r25 h26 => lb (sR h26 11 a0 4 (some z23)) (fun h27 => lb (gN h27 6) (fun z28 => lb (nw h27 6 4) (fun h29 => lb (gR h29 11 a0 0) (fun o30 => lb (gR h29 11 a0 1) (fun o31 => bd (fX6_init z28 o30 o31 h29) (fun r32 h33 => lb (sR h33 11 a0 5 (some z28)) (fun h34 => lb (gN h34 9) (fun z35 => lb (nw h34 9 9) (fun h36 => lb (gR h36 11 a0 0) (fun o37 => lb (gR h36 11 a0 1) (fun o38 => lb (gR h36 11 a0 3) (fun o39 => bd (fX9_init z35 o37 o38 o39 h36) (fun r40 h41 => lb (sR h41 11 a0 6 (some z35)) (fun h42 => lb (gN h42 7) (fun z43 => lb (nw h42 7 3) (fun h44 => bd (fX7_init z43 h44) (fun r45 h46 => lb (sR h46 11 a0 7 (some z43)) (fun h47 => lb (gN h47 52) (fun z48 => lb (nw h47 52 200) (fun h49 => lb (sR h49 11 a0 8 (some z48)) (fun h50 => lb (gN h50 8) (fun z51 => lb (nw h50 8 5) (fun h52 => bd (fX8_init z51 h52) (fun r53 h54 => lb (sR h54 11 a0 9 (some z51)) (fun h55 => lb (gN h55 53) (fun z56 => lb (nw h55 53 256) (fun h57 => lb (sR h57 11 a0 10 (some z56)) (fun h58 => lb (sI h58 11 a0 12 3) (fun h59 => lb (sI h59 11 a0 13 10) (fun h60 => some ((), h60))))))))))))))))))))))))))))))))))))))))))))))))))))
set_option maxRecDepth 20000 in
theorem tX11_init {X : Cz} {a0 : Nat} {h hE : Hp} {rE : Unit} (hF : fX11_init a0 h = some (rE, hE)) : Ct X mX11_init false [zr 11 a0] h (none) hE := by
  refine Ct_of (by decide) (Nat.le_of_ble_eq_true rfl) (ls := [(0, zr 11 a0)]) rfl ?_
  unfold fX11_init at hF
  refine v_aload_n (j := 0) dX11_init_0 rfl ?_
  refine v_objI mlX11_1 oiI oiC (by decide) (Nat.le_of_ble_eq_true rfl) dX11_init_1 ?_
  refine v_aload_n (j := 0) dX11_init_4 rfl ?_
  refine v_new (k := 1) (c := 1) rfl (by decide) rfl clX11_7 cz1 (Or.inl rfl) dX11_init_5 ?_
  refine v_topr fun z1 ez1 => ?_
  replace hF := lb_use ez1 hF
  clear ez1
  refine v_toph fun h2 eh2 => ?_
  replace hF := lb_use eh2 hF
  clear eh2
  refine v_dup dX11_init_8 rfl ?_
  replace hF := bd_use hF
  obtain ⟨r3, h4, er3, hF⟩ := hF
  refine v_cIN (host := "PewRank") (hm := h4) (av := []) (st := [zr 1 z1, zr 11 a0]) (stn := [zr 1 z1, zr 11 a0]) (tX1_init er3) lcX1_init (by decide) imX1_init rfl rfl rfl ⟨by decide, by decide⟩ (Nat.le_of_ble_eq_true rfl) dX11_init_9 rfl rfl ?_
  clear er3
  refine v_putFR (o := some z1) (c := 11) (k2 := 1) rfl rfl (Nat.le_of_ble_eq_true rfl) rfl (Or.inl rfl) cz11 flX11_10 rfl (fun q hq => by cases hq; rfl) dX11_init_12 ?_
  refine v_toph fun h5 eh5 => ?_
  replace hF := lb_use eh5 hF
  clear eh5
  refine v_aload_n (j := 0) dX11_init_15 rfl ?_
  refine v_new (k := 4) (c := 4) rfl (by decide) rfl clX11_16 cz4 (Or.inl rfl) dX11_init_16 ?_
  refine v_topr fun z6 ez6 => ?_
  replace hF := lb_use ez6 hF
  clear ez6
  refine v_toph fun h7 eh7 => ?_
  replace hF := lb_use eh7 hF
  clear eh7
  refine v_dup dX11_init_19 rfl ?_
  replace hF := bd_use hF
  obtain ⟨r8, h9, er8, hF⟩ := hF
  refine v_cIN (host := "PewRank") (hm := h9) (av := []) (st := [zr 4 z6, zr 11 a0]) (stn := [zr 4 z6, zr 11 a0]) (tX4_init er8) lcX4_init (by decide) imX4_init rfl rfl rfl ⟨by decide, by decide⟩ (Nat.le_of_ble_eq_true rfl) dX11_init_20 rfl rfl ?_
  clear er8
  refine v_putFR (o := some z6) (c := 11) (k2 := 4) rfl rfl (Nat.le_of_ble_eq_true rfl) rfl (Or.inl rfl) cz11 flX11_19 rfl (fun q hq => by cases hq; rfl) dX11_init_23 ?_
  refine v_toph fun h10 eh10 => ?_
  replace hF := lb_use eh10 hF
  clear eh10
  refine v_aload_n (j := 0) dX11_init_26 rfl ?_
  refine v_new (k := 3) (c := 3) rfl (by decide) rfl clX11_23 cz3 (Or.inl rfl) dX11_init_27 ?_
  refine v_topr fun z11 ez11 => ?_
  replace hF := lb_use ez11 hF
  clear ez11
  refine v_toph fun h12 eh12 => ?_
  replace hF := lb_use eh12 hF
  clear eh12
  refine v_dup dX11_init_30 rfl ?_
  replace hF := bd_use hF
  obtain ⟨r13, h14, er13, hF⟩ := hF
  refine v_cI (hm := h14) (av := []) (st := [zr 3 z11, zr 11 a0]) (stn := [zr 3 z11, zr 11 a0]) (tX3_init er13) lcX3_init mlX11_25 imX3_init rfl rfl rfl ⟨by decide, by decide⟩ (Nat.le_of_ble_eq_true rfl) dX11_init_31 rfl rfl ?_
  clear er13
  refine v_putFR (o := some z11) (c := 11) (k2 := 3) rfl rfl (Nat.le_of_ble_eq_true rfl) rfl (Or.inl rfl) cz11 flX11_26 rfl (fun q hq => by cases hq; rfl) dX11_init_34 ?_
  refine v_toph fun h15 eh15 => ?_
  replace hF := lb_use eh15 hF
  clear eh15
  refine v_aload_n (j := 0) dX11_init_37 rfl ?_
  refine v_new (k := 10) (c := 10) rfl (by decide) rfl clX11_30 cz10 (Or.inl rfl) dX11_init_38 ?_
  refine v_topr fun z16 ez16 => ?_
  replace hF := lb_use ez16 hF
  clear ez16
  refine v_toph fun h17 eh17 => ?_
  replace hF := lb_use eh17 hF
  clear eh17
  refine v_dup dX11_init_41 rfl ?_
  refine v_aload_n (j := 0) dX11_init_42 rfl ?_
  refine v_getR (c := 11) (k2 := 1) rfl rfl rfl cz11 flX11_10 dX11_init_43 ?_
  refine v_topq fun o18 eo18 => ?_
  replace hF := lb_use eo18 hF
  clear eo18
  refine v_aload_n (j := 0) dX11_init_46 rfl ?_
  refine v_getR (c := 11) (k2 := 4) rfl rfl rfl cz11 flX11_19 dX11_init_47 ?_
  refine v_topq fun o19 eo19 => ?_
  replace hF := lb_use eo19 hF
  clear eo19
  replace hF := bd_use hF
  obtain ⟨r20, h21, er20, hF⟩ := hF
  refine v_cI (hm := h21) (av := [zq 1 o18, zq 4 o19]) (st := [zr 10 z16, zr 11 a0]) (stn := [zr 10 z16, zr 11 a0]) (tX10_init er20) lcX10_init mlX11_32 imX10_init rfl rfl rfl ⟨by decide, by decide⟩ (Nat.le_of_ble_eq_true rfl) dX11_init_50 rfl rfl ?_
  clear er20
  refine v_putFR (o := some z16) (c := 11) (k2 := 10) rfl rfl (Nat.le_of_ble_eq_true rfl) rfl (Or.inl rfl) cz11 flX11_35 rfl (fun q hq => by cases hq; rfl) dX11_init_53 ?_
  refine v_toph fun h22 eh22 => ?_
  replace hF := lb_use eh22 hF
  clear eh22
  refine v_aload_n (j := 0) dX11_init_56 rfl ?_
  refine v_new (k := 0) (c := 0) rfl (by decide) rfl clX11_39 cz0 (Or.inl rfl) dX11_init_57 ?_
  refine v_topr fun z23 ez23 => ?_
  replace hF := lb_use ez23 hF
  clear ez23
  refine v_toph fun h24 eh24 => ?_
  replace hF := lb_use eh24 hF
  clear eh24
  refine v_dup dX11_init_60 rfl ?_
  replace hF := bd_use hF
  obtain ⟨r25, h26, er25, hF⟩ := hF
  refine v_cIN (host := "PewRank") (hm := h26) (av := []) (st := [zr 0 z23, zr 11 a0]) (stn := [zr 0 z23, zr 11 a0]) (tX0_init er25) lcX0_init (by decide) imX0_init rfl rfl rfl ⟨by decide, by decide⟩ (Nat.le_of_ble_eq_true rfl) dX11_init_61 rfl rfl ?_
  clear er25
  refine v_putFR (o := some z23) (c := 11) (k2 := 0) rfl rfl (Nat.le_of_ble_eq_true rfl) rfl (Or.inl rfl) cz11 flX11_42 rfl (fun q hq => by cases hq; rfl) dX11_init_64 ?_
  refine v_toph fun h27 eh27 => ?_
  replace hF := lb_use eh27 hF
  clear eh27
  refine v_aload_n (j := 0) dX11_init_67 rfl ?_
  refine v_new (k := 6) (c := 6) rfl (by decide) rfl clX11_46 cz6 (Or.inl rfl) dX11_init_68 ?_
  refine v_topr fun z28 ez28 => ?_
  replace hF := lb_use ez28 hF
  clear ez28
  refine v_toph fun h29 eh29 => ?_
  replace hF := lb_use eh29 hF
  clear eh29
  refine v_dup dX11_init_71 rfl ?_
  refine v_aload_n (j := 0) dX11_init_72 rfl ?_
  refine v_getR (c := 11) (k2 := 1) rfl rfl rfl cz11 flX11_10 dX11_init_73 ?_
  refine v_topq fun o30 eo30 => ?_
  replace hF := lb_use eo30 hF
  clear eo30
  refine v_aload_n (j := 0) dX11_init_76 rfl ?_
  refine v_getR (c := 11) (k2 := 4) rfl rfl rfl cz11 flX11_19 dX11_init_77 ?_
  refine v_topq fun o31 eo31 => ?_
  replace hF := lb_use eo31 hF
  clear eo31
  replace hF := bd_use hF
  obtain ⟨r32, h33, er32, hF⟩ := hF
  refine v_cI (hm := h33) (av := [zq 1 o30, zq 4 o31]) (st := [zr 6 z28, zr 11 a0]) (stn := [zr 6 z28, zr 11 a0]) (tX6_init er32) lcX6_init mlX11_48 imX6_init rfl rfl rfl ⟨by decide, by decide⟩ (Nat.le_of_ble_eq_true rfl) dX11_init_80 rfl rfl ?_
  clear er32
  refine v_putFR (o := some z28) (c := 11) (k2 := 6) rfl rfl (Nat.le_of_ble_eq_true rfl) rfl (Or.inl rfl) cz11 flX11_49 rfl (fun q hq => by cases hq; rfl) dX11_init_83 ?_
  refine v_toph fun h34 eh34 => ?_
  replace hF := lb_use eh34 hF
  clear eh34
  refine v_aload_n (j := 0) dX11_init_86 rfl ?_
  refine v_new (k := 9) (c := 9) rfl (by decide) rfl clX11_53 cz9 (Or.inl rfl) dX11_init_87 ?_
  refine v_topr fun z35 ez35 => ?_
  replace hF := lb_use ez35 hF
  clear ez35
  refine v_toph fun h36 eh36 => ?_
  replace hF := lb_use eh36 hF
  clear eh36
  refine v_dup dX11_init_90 rfl ?_
  refine v_aload_n (j := 0) dX11_init_91 rfl ?_
  refine v_getR (c := 11) (k2 := 1) rfl rfl rfl cz11 flX11_10 dX11_init_92 ?_
  refine v_topq fun o37 eo37 => ?_
  replace hF := lb_use eo37 hF
  clear eo37
  refine v_aload_n (j := 0) dX11_init_95 rfl ?_
  refine v_getR (c := 11) (k2 := 4) rfl rfl rfl cz11 flX11_19 dX11_init_96 ?_
  refine v_topq fun o38 eo38 => ?_
  replace hF := lb_use eo38 hF
  clear eo38
  refine v_aload_n (j := 0) dX11_init_99 rfl ?_
  refine v_getR (c := 11) (k2 := 10) rfl rfl rfl cz11 flX11_35 dX11_init_100 ?_
  refine v_topq fun o39 eo39 => ?_
  replace hF := lb_use eo39 hF
  clear eo39
  replace hF := bd_use hF
  obtain ⟨r40, h41, er40, hF⟩ := hF
  refine v_cI (hm := h41) (av := [zq 1 o37, zq 4 o38, zq 10 o39]) (st := [zr 9 z35, zr 11 a0]) (stn := [zr 9 z35, zr 11 a0]) (tX9_init er40) lcX9_init mlX11_55 imX9_init rfl rfl rfl ⟨by decide, by decide⟩ (Nat.le_of_ble_eq_true rfl) dX11_init_103 rfl rfl ?_
  clear er40
  refine v_putFR (o := some z35) (c := 11) (k2 := 9) rfl rfl (Nat.le_of_ble_eq_true rfl) rfl (Or.inl rfl) cz11 flX11_58 rfl (fun q hq => by cases hq; rfl) dX11_init_106 ?_
  refine v_toph fun h42 eh42 => ?_
  replace hF := lb_use eh42 hF
  clear eh42
  refine v_aload_n (j := 0) dX11_init_109 rfl ?_
  refine v_new (k := 7) (c := 7) rfl (by decide) rfl clX11_62 cz7 (Or.inl rfl) dX11_init_110 ?_
  refine v_topr fun z43 ez43 => ?_
  replace hF := lb_use ez43 hF
  clear ez43
  refine v_toph fun h44 eh44 => ?_
  replace hF := lb_use eh44 hF
  clear eh44
  refine v_dup dX11_init_113 rfl ?_
  replace hF := bd_use hF
  obtain ⟨r45, h46, er45, hF⟩ := hF
  refine v_cI (hm := h46) (av := []) (st := [zr 7 z43, zr 11 a0]) (stn := [zr 7 z43, zr 11 a0]) (tX7_init er45) lcX7_init mlX11_64 imX7_init rfl rfl rfl ⟨by decide, by decide⟩ (Nat.le_of_ble_eq_true rfl) dX11_init_114 rfl rfl ?_
  clear er45
  refine v_putFR (o := some z43) (c := 11) (k2 := 7) rfl rfl (Nat.le_of_ble_eq_true rfl) rfl (Or.inl rfl) cz11 flX11_65 rfl (fun q hq => by cases hq; rfl) dX11_init_117 ?_
  refine v_toph fun h47 eh47 => ?_
  replace hF := lb_use eh47 hF
  clear eh47
  refine v_aload_n (j := 0) dX11_init_120 rfl ?_
  refine v_sipush (v := 200) dX11_init_121 (by decide) ?_
  refine v_newq (k := 52) rfl (by decide) rfl clX11_69 (by decide) (by decide) (by decide) (Or.inl rfl) dX11_init_124 ?_
  refine v_topr fun z48 ez48 => ?_
  replace hF := lb_use ez48 hF
  clear ez48
  refine v_toph fun h49 eh49 => ?_
  replace hF := lb_use eh49 hF
  clear eh49
  refine v_putFR (o := some z48) (c := 11) (k2 := 52) rfl rfl (Nat.le_of_ble_eq_true rfl) rfl (Or.inl rfl) cz11 flX11_71 rfl (fun q hq => by cases hq; rfl) dX11_init_127 ?_
  refine v_toph fun h50 eh50 => ?_
  replace hF := lb_use eh50 hF
  clear eh50
  refine v_aload_n (j := 0) dX11_init_130 rfl ?_
  refine v_new (k := 8) (c := 8) rfl (by decide) rfl clX11_69 cz8 (Or.inl rfl) dX11_init_131 ?_
  refine v_topr fun z51 ez51 => ?_
  replace hF := lb_use ez51 hF
  clear ez51
  refine v_toph fun h52 eh52 => ?_
  replace hF := lb_use eh52 hF
  clear eh52
  refine v_dup dX11_init_134 rfl ?_
  replace hF := bd_use hF
  obtain ⟨r53, h54, er53, hF⟩ := hF
  refine v_cI (hm := h54) (av := []) (st := [zr 8 z51, zr 11 a0]) (stn := [zr 8 z51, zr 11 a0]) (tX8_init er53) lcX8_init mlX11_75 imX8_init rfl rfl rfl ⟨by decide, by decide⟩ (Nat.le_of_ble_eq_true rfl) dX11_init_135 rfl rfl ?_
  clear er53
  refine v_putFR (o := some z51) (c := 11) (k2 := 8) rfl rfl (Nat.le_of_ble_eq_true rfl) rfl (Or.inl rfl) cz11 flX11_76 rfl (fun q hq => by cases hq; rfl) dX11_init_138 ?_
  refine v_toph fun h55 eh55 => ?_
  replace hF := lb_use eh55 hF
  clear eh55
  refine v_aload_n (j := 0) dX11_init_141 rfl ?_
  refine v_sipush (v := 256) dX11_init_142 (by decide) ?_
  refine v_newa (k := 53) (idx := 0) (at0 := .int) rfl (by decide) rfl ac_int (by decide) (by decide) (by decide) (Or.inl rfl) dX11_init_145 ?_
  refine v_topr fun z56 ez56 => ?_
  replace hF := lb_use ez56 hF
  clear ez56
  refine v_toph fun h57 eh57 => ?_
  replace hF := lb_use eh57 hF
  clear eh57
  refine v_putFR (o := some z56) (c := 11) (k2 := 53) rfl rfl (Nat.le_of_ble_eq_true rfl) rfl (Or.inl rfl) cz11 flX11_80 rfl (fun q hq => by cases hq; rfl) dX11_init_147 ?_
  refine v_toph fun h58 eh58 => ?_
  replace hF := lb_use eh58 hF
  clear eh58
  refine v_aload_n (j := 0) dX11_init_150 rfl ?_
  refine v_iconst (v := 3) dX11_init_151 (by decide) ?_
  refine v_putI (c := 11) rfl rfl (Nat.le_of_ble_eq_true rfl) cz11 flX11_84 dX11_init_152 ?_
  refine v_toph fun h59 eh59 => ?_
  replace hF := lb_use eh59 hF
  clear eh59
  refine v_aload_n (j := 0) dX11_init_155 rfl ?_
  refine v_bipush (v := 10) dX11_init_156 (by decide) ?_
  refine v_putI (c := 11) rfl rfl (Nat.le_of_ble_eq_true rfl) cz11 flX11_88 dX11_init_158 ?_
  refine v_toph fun h60 eh60 => ?_
  replace hF := lb_use eh60 hF
  clear eh60
  cases hF
  exact v_vret rfl dX11_init_161
theorem dX11_pulpit_0 : decode cX11_pulpit 0 = .ok (.iload_n 1, 1) := by decide +kernel
theorem dX11_pulpit_1 : decode cX11_pulpit 1 = .ok (.invokestatic 91, 3) := by decide +kernel
theorem dX11_pulpit_4 : decode cX11_pulpit 4 = .ok (.ifCond .eq 20, 3) := by decide +kernel
theorem dX11_pulpit_7 : decode cX11_pulpit 7 = .ok (.iload_n 2, 1) := by decide +kernel
theorem dX11_pulpit_8 : decode cX11_pulpit 8 = .ok (.invokestatic 91, 3) := by decide +kernel
theorem dX11_pulpit_11 : decode cX11_pulpit 11 = .ok (.ifCond .eq 13, 3) := by decide +kernel
theorem dX11_pulpit_14 : decode cX11_pulpit 14 = .ok (.iload_n 3, 1) := by decide +kernel
theorem dX11_pulpit_15 : decode cX11_pulpit 15 = .ok (.iconst 1, 1) := by decide +kernel
theorem dX11_pulpit_16 : decode cX11_pulpit 16 = .ok (.ldc 95, 2) := by decide +kernel
theorem dX11_pulpit_18 : decode cX11_pulpit 18 = .ok (.invokestatic 96, 3) := by decide +kernel
theorem dX11_pulpit_21 : decode cX11_pulpit 21 = .ok (.ifCond .ne 6, 3) := by decide +kernel
theorem dX11_pulpit_24 : decode cX11_pulpit 24 = .ok (.bipush (-2), 2) := by decide +kernel
theorem dX11_pulpit_26 : decode cX11_pulpit 26 = .ok (.ireturn, 1) := by decide +kernel
theorem dX11_pulpit_27 : decode cX11_pulpit 27 = .ok (.aload_n 0, 1) := by decide +kernel
theorem dX11_pulpit_28 : decode cX11_pulpit 28 = .ok (.getfield 10, 3) := by decide +kernel
theorem dX11_pulpit_31 : decode cX11_pulpit 31 = .ok (.iload_n 1, 1) := by decide +kernel
theorem dX11_pulpit_32 : decode cX11_pulpit 32 = .ok (.iload_n 2, 1) := by decide +kernel
theorem dX11_pulpit_33 : decode cX11_pulpit 33 = .ok (.iload_n 3, 1) := by decide +kernel
theorem dX11_pulpit_34 : decode cX11_pulpit 34 = .ok (.invokevirtual 100, 3) := by decide +kernel
theorem dX11_pulpit_37 : decode cX11_pulpit 37 = .ok (.iconst 0, 1) := by decide +kernel
theorem dX11_pulpit_38 : decode cX11_pulpit 38 = .ok (.ireturn, 1) := by decide +kernel
def fX11_pulpit (a1 : Int32) (a2 : Int32) (a3 : Int32) (h : Hp) : Option (Int32 × Hp) := br ((fX11_isPoint a1 h) = 0) (some ((-2), h)) (br ((fX11_isPoint a2 h) = 0) (some ((-2), h)) (br ((fX11_isWithin a3 1 100000 h) = 0) (some ((-2), h)) (bd (fX1_standPulpit a1 a2 a3 h) (fun r1 h2 => some (0, h2)))))
set_option maxRecDepth 20000 in
theorem tX11_pulpit {X : Cz} {a1 : Int32} {a2 : Int32} {a3 : Int32} {h hE : Hp} {rE : Int32} (hF : fX11_pulpit a1 a2 a3 h = some (rE, hE)) : Ct X mX11_pulpit true [zr 11 0, zi a1, zi a2, zi a3] h (some (zi rE)) hE := by
  refine Ct_of (by decide) (Nat.le_of_ble_eq_true rfl) (ls := [(0, zr 11 0), (1, zi a1), (2, zi a2), (3, zi a3)]) rfl ?_
  unfold fX11_pulpit at hF
  refine v_iload_n (j := 1) dX11_pulpit_0 rfl ?_
  refine v_cS (hm := h) (av := [zi a1]) (st := []) (stn := [zi (fX11_isPoint a1 h)]) (tX11_isPoint a1 h) lcX11_isPoint mlX11_91 sxX11_isPoint rfl ⟨by decide, by decide⟩ (Nat.le_of_ble_eq_true rfl) dX11_pulpit_1 rfl rfl ?_
  refine v_if_eq dX11_pulpit_4 (by decide : _ = ((24 : Nat) : Int)) (fun q => ?_) (fun q => ?_)
  · replace hF := brT q hF
    refine v_bipush (v := (-2)) dX11_pulpit_24 (by decide) ?_
    obtain ⟨rfl, rfl⟩ := ret_use hF
    exact v_iret rfl dX11_pulpit_26
  · replace hF := brF q hF
    refine v_iload_n (j := 2) dX11_pulpit_7 rfl ?_
    refine v_cS (hm := h) (av := [zi a2]) (st := []) (stn := [zi (fX11_isPoint a2 h)]) (tX11_isPoint a2 h) lcX11_isPoint mlX11_91 sxX11_isPoint rfl ⟨by decide, by decide⟩ (Nat.le_of_ble_eq_true rfl) dX11_pulpit_8 rfl rfl ?_
    refine v_if_eq dX11_pulpit_11 (by decide : _ = ((24 : Nat) : Int)) (fun q => ?_) (fun q => ?_)
    · replace hF := brT q hF
      refine v_bipush (v := (-2)) dX11_pulpit_24 (by decide) ?_
      obtain ⟨rfl, rfl⟩ := ret_use hF
      exact v_iret rfl dX11_pulpit_26
    · replace hF := brF q hF
      refine v_iload_n (j := 3) dX11_pulpit_14 rfl ?_
      refine v_iconst (v := 1) dX11_pulpit_15 (by decide) ?_
      refine v_ldc dX11_pulpit_16 kcX11_95 ?_
      refine v_cS (hm := h) (av := [zi a3, zi 1, zi 100000]) (st := []) (stn := [zi (fX11_isWithin a3 1 100000 h)]) (tX11_isWithin a3 1 100000 h) lcX11_isWithin mlX11_96 sxX11_isWithin rfl ⟨by decide, by decide⟩ (Nat.le_of_ble_eq_true rfl) dX11_pulpit_18 rfl rfl ?_
      refine v_if_ne dX11_pulpit_21 (by decide : _ = ((27 : Nat) : Int)) (fun q => ?_) (fun q => ?_)
      · replace hF := brF q hF
        refine v_aload_n (j := 0) dX11_pulpit_27 rfl ?_
        refine v_getL (c := 11) rfl rfl rfl ly11_0 cz11 flX11_10 dX11_pulpit_28 ?_
        refine v_iload_n (j := 1) dX11_pulpit_31 rfl ?_
        refine v_iload_n (j := 2) dX11_pulpit_32 rfl ?_
        refine v_iload_n (j := 3) dX11_pulpit_33 rfl ?_
        replace hF := bd_use hF
        obtain ⟨r1, h2, er1, hF⟩ := hF
        refine v_cV (hm := h2) (av := [zi a1, zi a2, zi a3]) (st := []) (stn := []) (tX1_standPulpit er1) lcX1_standPulpit mlX11_100 imX1_standPulpit seX1_standPulpit rfl rfl rfl rfl ⟨by decide, by decide⟩ (Nat.le_of_ble_eq_true rfl) dX11_pulpit_34 rfl rfl ?_
        clear er1
        refine v_iconst (v := 0) dX11_pulpit_37 (by decide) ?_
        obtain ⟨rfl, rfl⟩ := ret_use hF
        exact v_iret rfl dX11_pulpit_38
      · replace hF := brT (Decidable.not_not.mp q) hF
        refine v_bipush (v := (-2)) dX11_pulpit_24 (by decide) ?_
        obtain ⟨rfl, rfl⟩ := ret_use hF
        exact v_iret rfl dX11_pulpit_26
theorem dX11_terms_0 : decode cX11_terms 0 = .ok (.iload_n 1, 1) := by decide +kernel
theorem dX11_terms_1 : decode cX11_terms 1 = .ok (.iconst 2, 1) := by decide +kernel
theorem dX11_terms_2 : decode cX11_terms 2 = .ok (.bipush 30, 2) := by decide +kernel
theorem dX11_terms_4 : decode cX11_terms 4 = .ok (.invokestatic 96, 3) := by decide +kernel
theorem dX11_terms_7 : decode cX11_terms 7 = .ok (.ifCond .eq 13, 3) := by decide +kernel
theorem dX11_terms_10 : decode cX11_terms 10 = .ok (.iload_n 2, 1) := by decide +kernel
theorem dX11_terms_11 : decode cX11_terms 11 = .ok (.iconst 0, 1) := by decide +kernel
theorem dX11_terms_12 : decode cX11_terms 12 = .ok (.bipush 100, 2) := by decide +kernel
theorem dX11_terms_14 : decode cX11_terms 14 = .ok (.invokestatic 96, 3) := by decide +kernel
theorem dX11_terms_17 : decode cX11_terms 17 = .ok (.ifCond .ne 6, 3) := by decide +kernel
theorem dX11_terms_20 : decode cX11_terms 20 = .ok (.bipush (-2), 2) := by decide +kernel
theorem dX11_terms_22 : decode cX11_terms 22 = .ok (.ireturn, 1) := by decide +kernel
theorem dX11_terms_23 : decode cX11_terms 23 = .ok (.aload_n 0, 1) := by decide +kernel
theorem dX11_terms_24 : decode cX11_terms 24 = .ok (.iload_n 1, 1) := by decide +kernel
theorem dX11_terms_25 : decode cX11_terms 25 = .ok (.putfield 84, 3) := by decide +kernel
theorem dX11_terms_28 : decode cX11_terms 28 = .ok (.aload_n 0, 1) := by decide +kernel
theorem dX11_terms_29 : decode cX11_terms 29 = .ok (.iload_n 2, 1) := by decide +kernel
theorem dX11_terms_30 : decode cX11_terms 30 = .ok (.putfield 88, 3) := by decide +kernel
theorem dX11_terms_33 : decode cX11_terms 33 = .ok (.iconst 0, 1) := by decide +kernel
theorem dX11_terms_34 : decode cX11_terms 34 = .ok (.ireturn, 1) := by decide +kernel
def fX11_terms (a1 : Int32) (a2 : Int32) (h : Hp) : Option (Int32 × Hp) := br ((fX11_isWithin a1 2 30 h) = 0) (some ((-2), h)) (br ((fX11_isWithin a2 0 100 h) = 0) (some ((-2), h)) (lb (sI h 11 0 12 a1) (fun h1 => lb (sI h1 11 0 13 a2) (fun h2 => some (0, h2)))))
set_option maxRecDepth 20000 in
theorem tX11_terms {X : Cz} {a1 : Int32} {a2 : Int32} {h hE : Hp} {rE : Int32} (hF : fX11_terms a1 a2 h = some (rE, hE)) : Ct X mX11_terms true [zr 11 0, zi a1, zi a2] h (some (zi rE)) hE := by
  refine Ct_of (by decide) (Nat.le_of_ble_eq_true rfl) (ls := [(0, zr 11 0), (1, zi a1), (2, zi a2)]) rfl ?_
  unfold fX11_terms at hF
  refine v_iload_n (j := 1) dX11_terms_0 rfl ?_
  refine v_iconst (v := 2) dX11_terms_1 (by decide) ?_
  refine v_bipush (v := 30) dX11_terms_2 (by decide) ?_
  refine v_cS (hm := h) (av := [zi a1, zi 2, zi 30]) (st := []) (stn := [zi (fX11_isWithin a1 2 30 h)]) (tX11_isWithin a1 2 30 h) lcX11_isWithin mlX11_96 sxX11_isWithin rfl ⟨by decide, by decide⟩ (Nat.le_of_ble_eq_true rfl) dX11_terms_4 rfl rfl ?_
  refine v_if_eq dX11_terms_7 (by decide : _ = ((20 : Nat) : Int)) (fun q => ?_) (fun q => ?_)
  · replace hF := brT q hF
    refine v_bipush (v := (-2)) dX11_terms_20 (by decide) ?_
    obtain ⟨rfl, rfl⟩ := ret_use hF
    exact v_iret rfl dX11_terms_22
  · replace hF := brF q hF
    refine v_iload_n (j := 2) dX11_terms_10 rfl ?_
    refine v_iconst (v := 0) dX11_terms_11 (by decide) ?_
    refine v_bipush (v := 100) dX11_terms_12 (by decide) ?_
    refine v_cS (hm := h) (av := [zi a2, zi 0, zi 100]) (st := []) (stn := [zi (fX11_isWithin a2 0 100 h)]) (tX11_isWithin a2 0 100 h) lcX11_isWithin mlX11_96 sxX11_isWithin rfl ⟨by decide, by decide⟩ (Nat.le_of_ble_eq_true rfl) dX11_terms_14 rfl rfl ?_
    refine v_if_ne dX11_terms_17 (by decide : _ = ((23 : Nat) : Int)) (fun q => ?_) (fun q => ?_)
    · replace hF := brF q hF
      refine v_aload_n (j := 0) dX11_terms_23 rfl ?_
      refine v_iload_n (j := 1) dX11_terms_24 rfl ?_
      refine v_putI (c := 11) rfl rfl (Nat.le_of_ble_eq_true rfl) cz11 flX11_84 dX11_terms_25 ?_
      refine v_toph fun h1 eh1 => ?_
      replace hF := lb_use eh1 hF
      clear eh1
      refine v_aload_n (j := 0) dX11_terms_28 rfl ?_
      refine v_iload_n (j := 2) dX11_terms_29 rfl ?_
      refine v_putI (c := 11) rfl rfl (Nat.le_of_ble_eq_true rfl) cz11 flX11_88 dX11_terms_30 ?_
      refine v_toph fun h2 eh2 => ?_
      replace hF := lb_use eh2 hF
      clear eh2
      refine v_iconst (v := 0) dX11_terms_33 (by decide) ?_
      obtain ⟨rfl, rfl⟩ := ret_use hF
      exact v_iret rfl dX11_terms_34
    · replace hF := brT (Decidable.not_not.mp q) hF
      refine v_bipush (v := (-2)) dX11_terms_20 (by decide) ?_
      obtain ⟨rfl, rfl⟩ := ret_use hF
      exact v_iret rfl dX11_terms_22
theorem dX11_pillar_0 : decode cX11_pillar 0 = .ok (.iload_n 1, 1) := by decide +kernel
theorem dX11_pillar_1 : decode cX11_pillar 1 = .ok (.invokestatic 91, 3) := by decide +kernel
theorem dX11_pillar_4 : decode cX11_pillar 4 = .ok (.ifCond .eq 19, 3) := by decide +kernel
theorem dX11_pillar_7 : decode cX11_pillar 7 = .ok (.iload_n 2, 1) := by decide +kernel
theorem dX11_pillar_8 : decode cX11_pillar 8 = .ok (.invokestatic 91, 3) := by decide +kernel
theorem dX11_pillar_11 : decode cX11_pillar 11 = .ok (.ifCond .eq 12, 3) := by decide +kernel
theorem dX11_pillar_14 : decode cX11_pillar 14 = .ok (.iload_n 3, 1) := by decide +kernel
theorem dX11_pillar_15 : decode cX11_pillar 15 = .ok (.iconst 0, 1) := by decide +kernel
theorem dX11_pillar_16 : decode cX11_pillar 16 = .ok (.iconst 5, 1) := by decide +kernel
theorem dX11_pillar_17 : decode cX11_pillar 17 = .ok (.invokestatic 96, 3) := by decide +kernel
theorem dX11_pillar_20 : decode cX11_pillar 20 = .ok (.ifCond .ne 6, 3) := by decide +kernel
theorem dX11_pillar_23 : decode cX11_pillar 23 = .ok (.bipush (-2), 2) := by decide +kernel
theorem dX11_pillar_25 : decode cX11_pillar 25 = .ok (.ireturn, 1) := by decide +kernel
theorem dX11_pillar_26 : decode cX11_pillar 26 = .ok (.aload_n 0, 1) := by decide +kernel
theorem dX11_pillar_27 : decode cX11_pillar 27 = .ok (.getfield 10, 3) := by decide +kernel
theorem dX11_pillar_30 : decode cX11_pillar 30 = .ok (.iload_n 1, 1) := by decide +kernel
theorem dX11_pillar_31 : decode cX11_pillar 31 = .ok (.iload_n 2, 1) := by decide +kernel
theorem dX11_pillar_32 : decode cX11_pillar 32 = .ok (.iload_n 3, 1) := by decide +kernel
theorem dX11_pillar_33 : decode cX11_pillar 33 = .ok (.invokevirtual 104, 3) := by decide +kernel
theorem dX11_pillar_36 : decode cX11_pillar 36 = .ok (.ireturn, 1) := by decide +kernel
def fX11_pillar (a1 : Int32) (a2 : Int32) (a3 : Int32) (h : Hp) : Option (Int32 × Hp) := br ((fX11_isPoint a1 h) = 0) (some ((-2), h)) (br ((fX11_isPoint a2 h) = 0) (some ((-2), h)) (br ((fX11_isWithin a3 0 5 h) = 0) (some ((-2), h)) (bd (fX1_addPillar a1 a2 a3 h) (fun r1 h2 => some (r1, h2)))))
set_option maxRecDepth 20000 in
theorem tX11_pillar {X : Cz} {a1 : Int32} {a2 : Int32} {a3 : Int32} {h hE : Hp} {rE : Int32} (hF : fX11_pillar a1 a2 a3 h = some (rE, hE)) : Ct X mX11_pillar true [zr 11 0, zi a1, zi a2, zi a3] h (some (zi rE)) hE := by
  refine Ct_of (by decide) (Nat.le_of_ble_eq_true rfl) (ls := [(0, zr 11 0), (1, zi a1), (2, zi a2), (3, zi a3)]) rfl ?_
  unfold fX11_pillar at hF
  refine v_iload_n (j := 1) dX11_pillar_0 rfl ?_
  refine v_cS (hm := h) (av := [zi a1]) (st := []) (stn := [zi (fX11_isPoint a1 h)]) (tX11_isPoint a1 h) lcX11_isPoint mlX11_91 sxX11_isPoint rfl ⟨by decide, by decide⟩ (Nat.le_of_ble_eq_true rfl) dX11_pillar_1 rfl rfl ?_
  refine v_if_eq dX11_pillar_4 (by decide : _ = ((23 : Nat) : Int)) (fun q => ?_) (fun q => ?_)
  · replace hF := brT q hF
    refine v_bipush (v := (-2)) dX11_pillar_23 (by decide) ?_
    obtain ⟨rfl, rfl⟩ := ret_use hF
    exact v_iret rfl dX11_pillar_25
  · replace hF := brF q hF
    refine v_iload_n (j := 2) dX11_pillar_7 rfl ?_
    refine v_cS (hm := h) (av := [zi a2]) (st := []) (stn := [zi (fX11_isPoint a2 h)]) (tX11_isPoint a2 h) lcX11_isPoint mlX11_91 sxX11_isPoint rfl ⟨by decide, by decide⟩ (Nat.le_of_ble_eq_true rfl) dX11_pillar_8 rfl rfl ?_
    refine v_if_eq dX11_pillar_11 (by decide : _ = ((23 : Nat) : Int)) (fun q => ?_) (fun q => ?_)
    · replace hF := brT q hF
      refine v_bipush (v := (-2)) dX11_pillar_23 (by decide) ?_
      obtain ⟨rfl, rfl⟩ := ret_use hF
      exact v_iret rfl dX11_pillar_25
    · replace hF := brF q hF
      refine v_iload_n (j := 3) dX11_pillar_14 rfl ?_
      refine v_iconst (v := 0) dX11_pillar_15 (by decide) ?_
      refine v_iconst (v := 5) dX11_pillar_16 (by decide) ?_
      refine v_cS (hm := h) (av := [zi a3, zi 0, zi 5]) (st := []) (stn := [zi (fX11_isWithin a3 0 5 h)]) (tX11_isWithin a3 0 5 h) lcX11_isWithin mlX11_96 sxX11_isWithin rfl ⟨by decide, by decide⟩ (Nat.le_of_ble_eq_true rfl) dX11_pillar_17 rfl rfl ?_
      refine v_if_ne dX11_pillar_20 (by decide : _ = ((26 : Nat) : Int)) (fun q => ?_) (fun q => ?_)
      · replace hF := brF q hF
        refine v_aload_n (j := 0) dX11_pillar_26 rfl ?_
        refine v_getL (c := 11) rfl rfl rfl ly11_0 cz11 flX11_10 dX11_pillar_27 ?_
        refine v_iload_n (j := 1) dX11_pillar_30 rfl ?_
        refine v_iload_n (j := 2) dX11_pillar_31 rfl ?_
        refine v_iload_n (j := 3) dX11_pillar_32 rfl ?_
        replace hF := bd_use hF
        obtain ⟨r1, h2, er1, hF⟩ := hF
        refine v_cV (hm := h2) (av := [zi a1, zi a2, zi a3]) (st := []) (stn := [zi r1]) (tX1_addPillar er1) lcX1_addPillar mlX11_104 imX1_addPillar seX1_addPillar rfl rfl rfl rfl ⟨by decide, by decide⟩ (Nat.le_of_ble_eq_true rfl) dX11_pillar_33 rfl rfl ?_
        clear er1
        obtain ⟨rfl, rfl⟩ := ret_use hF
        exact v_iret rfl dX11_pillar_36
      · replace hF := brT (Decidable.not_not.mp q) hF
        refine v_bipush (v := (-2)) dX11_pillar_23 (by decide) ?_
        obtain ⟨rfl, rfl⟩ := ret_use hF
        exact v_iret rfl dX11_pillar_25
theorem dX11_bench_0 : decode cX11_bench 0 = .ok (.iload_n 2, 1) := by decide +kernel
theorem dX11_bench_1 : decode cX11_bench 1 = .ok (.invokestatic 91, 3) := by decide +kernel
theorem dX11_bench_4 : decode cX11_bench 4 = .ok (.ifCond .eq 31, 3) := by decide +kernel
theorem dX11_bench_7 : decode cX11_bench 7 = .ok (.iload_n 3, 1) := by decide +kernel
theorem dX11_bench_8 : decode cX11_bench 8 = .ok (.iconst 4, 1) := by decide +kernel
theorem dX11_bench_9 : decode cX11_bench 9 = .ok (.bipush 32, 2) := by decide +kernel
theorem dX11_bench_11 : decode cX11_bench 11 = .ok (.invokestatic 96, 3) := by decide +kernel
theorem dX11_bench_14 : decode cX11_bench 14 = .ok (.ifCond .eq 21, 3) := by decide +kernel
theorem dX11_bench_17 : decode cX11_bench 17 = .ok (.iload_n 1, 1) := by decide +kernel
theorem dX11_bench_18 : decode cX11_bench 18 = .ok (.invokestatic 91, 3) := by decide +kernel
theorem dX11_bench_21 : decode cX11_bench 21 = .ok (.ifCond .eq 14, 3) := by decide +kernel
theorem dX11_bench_24 : decode cX11_bench 24 = .ok (.iload_n 1, 1) := by decide +kernel
theorem dX11_bench_25 : decode cX11_bench 25 = .ok (.iload_n 3, 1) := by decide +kernel
theorem dX11_bench_26 : decode cX11_bench 26 = .ok (.iadd, 1) := by decide +kernel
theorem dX11_bench_27 : decode cX11_bench 27 = .ok (.iconst 1, 1) := by decide +kernel
theorem dX11_bench_28 : decode cX11_bench 28 = .ok (.isub, 1) := by decide +kernel
theorem dX11_bench_29 : decode cX11_bench 29 = .ok (.invokestatic 91, 3) := by decide +kernel
theorem dX11_bench_32 : decode cX11_bench 32 = .ok (.ifCond .ne 6, 3) := by decide +kernel
theorem dX11_bench_35 : decode cX11_bench 35 = .ok (.bipush (-2), 2) := by decide +kernel
theorem dX11_bench_37 : decode cX11_bench 37 = .ok (.ireturn, 1) := by decide +kernel
theorem dX11_bench_38 : decode cX11_bench 38 = .ok (.aload_n 0, 1) := by decide +kernel
theorem dX11_bench_39 : decode cX11_bench 39 = .ok (.getfield 10, 3) := by decide +kernel
theorem dX11_bench_42 : decode cX11_bench 42 = .ok (.getfield 108, 3) := by decide +kernel
theorem dX11_bench_45 : decode cX11_bench 45 = .ok (.bipush 8, 2) := by decide +kernel
theorem dX11_bench_47 : decode cX11_bench 47 = .ok (.if_icmp .lt 6, 3) := by decide +kernel
theorem dX11_bench_50 : decode cX11_bench 50 = .ok (.bipush (-3), 2) := by decide +kernel
theorem dX11_bench_52 : decode cX11_bench 52 = .ok (.ireturn, 1) := by decide +kernel
theorem dX11_bench_53 : decode cX11_bench 53 = .ok (.aload_n 0, 1) := by decide +kernel
theorem dX11_bench_54 : decode cX11_bench 54 = .ok (.getfield 111, 3) := by decide +kernel
theorem dX11_bench_57 : decode cX11_bench 57 = .ok (.ifCond .le 6, 3) := by decide +kernel
theorem dX11_bench_60 : decode cX11_bench 60 = .ok (.bipush (-9), 2) := by decide +kernel
theorem dX11_bench_62 : decode cX11_bench 62 = .ok (.ireturn, 1) := by decide +kernel
theorem dX11_bench_63 : decode cX11_bench 63 = .ok (.aload_n 0, 1) := by decide +kernel
theorem dX11_bench_64 : decode cX11_bench 64 = .ok (.getfield 10, 3) := by decide +kernel
theorem dX11_bench_67 : decode cX11_bench 67 = .ok (.iload_n 1, 1) := by decide +kernel
theorem dX11_bench_68 : decode cX11_bench 68 = .ok (.iload_n 2, 1) := by decide +kernel
theorem dX11_bench_69 : decode cX11_bench 69 = .ok (.iload_n 3, 1) := by decide +kernel
theorem dX11_bench_70 : decode cX11_bench 70 = .ok (.iload 4, 2) := by decide +kernel
theorem dX11_bench_72 : decode cX11_bench 72 = .ok (.invokevirtual 114, 3) := by decide +kernel
theorem dX11_bench_75 : decode cX11_bench 75 = .ok (.ireturn, 1) := by decide +kernel
def fX11_bench (a1 : Int32) (a2 : Int32) (a3 : Int32) (a4 : Int32) (h : Hp) : Option (Int32 × Hp) := br ((fX11_isPoint a2 h) = 0) (some ((-2), h)) (br ((fX11_isWithin a3 4 32 h) = 0) (some ((-2), h)) (br ((fX11_isPoint a1 h) = 0) (some ((-2), h)) (br ((fX11_isPoint ((a1 + a3) - 1) h) = 0) (some ((-2), h)) (br ((gI h 1 0 7) < 8) (br ((gI h 11 0 11) ≤ 0) (bd (fX1_addBench a1 a2 a3 a4 h) (fun r1 h2 => some (r1, h2))) (some ((-9), h))) (some ((-3), h))))))
set_option maxRecDepth 20000 in
theorem tX11_bench {X : Cz} {a1 : Int32} {a2 : Int32} {a3 : Int32} {a4 : Int32} {h hE : Hp} {rE : Int32} (hF : fX11_bench a1 a2 a3 a4 h = some (rE, hE)) : Ct X mX11_bench true [zr 11 0, zi a1, zi a2, zi a3, zi a4] h (some (zi rE)) hE := by
  refine Ct_of (by decide) (Nat.le_of_ble_eq_true rfl) (ls := [(0, zr 11 0), (1, zi a1), (2, zi a2), (3, zi a3), (4, zi a4)]) rfl ?_
  unfold fX11_bench at hF
  refine v_iload_n (j := 2) dX11_bench_0 rfl ?_
  refine v_cS (hm := h) (av := [zi a2]) (st := []) (stn := [zi (fX11_isPoint a2 h)]) (tX11_isPoint a2 h) lcX11_isPoint mlX11_91 sxX11_isPoint rfl ⟨by decide, by decide⟩ (Nat.le_of_ble_eq_true rfl) dX11_bench_1 rfl rfl ?_
  refine v_if_eq dX11_bench_4 (by decide : _ = ((35 : Nat) : Int)) (fun q => ?_) (fun q => ?_)
  · replace hF := brT q hF
    refine v_bipush (v := (-2)) dX11_bench_35 (by decide) ?_
    obtain ⟨rfl, rfl⟩ := ret_use hF
    exact v_iret rfl dX11_bench_37
  · replace hF := brF q hF
    refine v_iload_n (j := 3) dX11_bench_7 rfl ?_
    refine v_iconst (v := 4) dX11_bench_8 (by decide) ?_
    refine v_bipush (v := 32) dX11_bench_9 (by decide) ?_
    refine v_cS (hm := h) (av := [zi a3, zi 4, zi 32]) (st := []) (stn := [zi (fX11_isWithin a3 4 32 h)]) (tX11_isWithin a3 4 32 h) lcX11_isWithin mlX11_96 sxX11_isWithin rfl ⟨by decide, by decide⟩ (Nat.le_of_ble_eq_true rfl) dX11_bench_11 rfl rfl ?_
    refine v_if_eq dX11_bench_14 (by decide : _ = ((35 : Nat) : Int)) (fun q => ?_) (fun q => ?_)
    · replace hF := brT q hF
      refine v_bipush (v := (-2)) dX11_bench_35 (by decide) ?_
      obtain ⟨rfl, rfl⟩ := ret_use hF
      exact v_iret rfl dX11_bench_37
    · replace hF := brF q hF
      refine v_iload_n (j := 1) dX11_bench_17 rfl ?_
      refine v_cS (hm := h) (av := [zi a1]) (st := []) (stn := [zi (fX11_isPoint a1 h)]) (tX11_isPoint a1 h) lcX11_isPoint mlX11_91 sxX11_isPoint rfl ⟨by decide, by decide⟩ (Nat.le_of_ble_eq_true rfl) dX11_bench_18 rfl rfl ?_
      refine v_if_eq dX11_bench_21 (by decide : _ = ((35 : Nat) : Int)) (fun q => ?_) (fun q => ?_)
      · replace hF := brT q hF
        refine v_bipush (v := (-2)) dX11_bench_35 (by decide) ?_
        obtain ⟨rfl, rfl⟩ := ret_use hF
        exact v_iret rfl dX11_bench_37
      · replace hF := brF q hF
        refine v_iload_n (j := 1) dX11_bench_24 rfl ?_
        refine v_iload_n (j := 3) dX11_bench_25 rfl ?_
        refine v_iadd dX11_bench_26 ?_
        refine v_iconst (v := 1) dX11_bench_27 (by decide) ?_
        refine v_isub dX11_bench_28 ?_
        refine v_cS (hm := h) (av := [zi ((a1 + a3) - 1)]) (st := []) (stn := [zi (fX11_isPoint ((a1 + a3) - 1) h)]) (tX11_isPoint ((a1 + a3) - 1) h) lcX11_isPoint mlX11_91 sxX11_isPoint rfl ⟨by decide, by decide⟩ (Nat.le_of_ble_eq_true rfl) dX11_bench_29 rfl rfl ?_
        refine v_if_ne dX11_bench_32 (by decide : _ = ((38 : Nat) : Int)) (fun q => ?_) (fun q => ?_)
        · replace hF := brF q hF
          refine v_aload_n (j := 0) dX11_bench_38 rfl ?_
          refine v_getL (c := 11) rfl rfl rfl ly11_0 cz11 flX11_10 dX11_bench_39 ?_
          refine v_getI (c := 1) rfl (Or.inl rfl) cz1 flX11_108 dX11_bench_42 ?_
          refine v_bipush (v := 8) dX11_bench_45 (by decide) ?_
          refine v_icmp_lt dX11_bench_47 (by decide : _ = ((53 : Nat) : Int)) (fun q => ?_) (fun q => ?_)
          · replace hF := brT q hF
            refine v_aload_n (j := 0) dX11_bench_53 rfl ?_
            refine v_getI (c := 11) rfl (Or.inl rfl) cz11 flX11_111 dX11_bench_54 ?_
            refine v_if_le dX11_bench_57 (by decide : _ = ((63 : Nat) : Int)) (fun q => ?_) (fun q => ?_)
            · replace hF := brT q hF
              refine v_aload_n (j := 0) dX11_bench_63 rfl ?_
              refine v_getL (c := 11) rfl rfl rfl ly11_0 cz11 flX11_10 dX11_bench_64 ?_
              refine v_iload_n (j := 1) dX11_bench_67 rfl ?_
              refine v_iload_n (j := 2) dX11_bench_68 rfl ?_
              refine v_iload_n (j := 3) dX11_bench_69 rfl ?_
              refine v_iload (j := 4) dX11_bench_70 rfl ?_
              replace hF := bd_use hF
              obtain ⟨r1, h2, er1, hF⟩ := hF
              refine v_cV (hm := h2) (av := [zi a1, zi a2, zi a3, zi a4]) (st := []) (stn := [zi r1]) (tX1_addBench er1) lcX1_addBench mlX11_114 imX1_addBench seX1_addBench rfl rfl rfl rfl ⟨by decide, by decide⟩ (Nat.le_of_ble_eq_true rfl) dX11_bench_72 rfl rfl ?_
              clear er1
              obtain ⟨rfl, rfl⟩ := ret_use hF
              exact v_iret rfl dX11_bench_75
            · replace hF := brF q hF
              refine v_bipush (v := (-9)) dX11_bench_60 (by decide) ?_
              obtain ⟨rfl, rfl⟩ := ret_use hF
              exact v_iret rfl dX11_bench_62
          · replace hF := brF q hF
            refine v_bipush (v := (-3)) dX11_bench_50 (by decide) ?_
            obtain ⟨rfl, rfl⟩ := ret_use hF
            exact v_iret rfl dX11_bench_52
        · replace hF := brT (Decidable.not_not.mp q) hF
          refine v_bipush (v := (-2)) dX11_bench_35 (by decide) ?_
          obtain ⟨rfl, rfl⟩ := ret_use hF
          exact v_iret rfl dX11_bench_37
theorem dX11_household_0 : decode cX11_household 0 = .ok (.iload_n 1, 1) := by decide +kernel
theorem dX11_household_1 : decode cX11_household 1 = .ok (.iload_n 2, 1) := by decide +kernel
theorem dX11_household_2 : decode cX11_household 2 = .ok (.iload_n 3, 1) := by decide +kernel
theorem dX11_household_3 : decode cX11_household 3 = .ok (.invokestatic 118, 3) := by decide +kernel
theorem dX11_household_6 : decode cX11_household 6 = .ok (.ifCond .ne 6, 3) := by decide +kernel
theorem dX11_household_9 : decode cX11_household 9 = .ok (.bipush (-2), 2) := by decide +kernel
theorem dX11_household_11 : decode cX11_household 11 = .ok (.ireturn, 1) := by decide +kernel
theorem dX11_household_12 : decode cX11_household 12 = .ok (.aload_n 0, 1) := by decide +kernel
theorem dX11_household_13 : decode cX11_household 13 = .ok (.getfield 19, 3) := by decide +kernel
theorem dX11_household_16 : decode cX11_household 16 = .ok (.iload_n 1, 1) := by decide +kernel
theorem dX11_household_17 : decode cX11_household 17 = .ok (.iload_n 2, 1) := by decide +kernel
theorem dX11_household_18 : decode cX11_household 18 = .ok (.iload_n 3, 1) := by decide +kernel
theorem dX11_household_19 : decode cX11_household 19 = .ok (.invokevirtual 121, 3) := by decide +kernel
theorem dX11_household_22 : decode cX11_household 22 = .ok (.ireturn, 1) := by decide +kernel
def fX11_household (a1 : Int32) (a2 : Int32) (a3 : Int32) (h : Hp) : Option (Int32 × Hp) := br ((fX11_isHouseholdAsTold a1 a2 a3 h) = 0) (some ((-2), h)) (bd (fX4_addHousehold a1 a2 a3 h) (fun r1 h2 => some (r1, h2)))
set_option maxRecDepth 20000 in
theorem tX11_household {X : Cz} {a1 : Int32} {a2 : Int32} {a3 : Int32} {h hE : Hp} {rE : Int32} (hF : fX11_household a1 a2 a3 h = some (rE, hE)) : Ct X mX11_household true [zr 11 0, zi a1, zi a2, zi a3] h (some (zi rE)) hE := by
  refine Ct_of (by decide) (Nat.le_of_ble_eq_true rfl) (ls := [(0, zr 11 0), (1, zi a1), (2, zi a2), (3, zi a3)]) rfl ?_
  unfold fX11_household at hF
  refine v_iload_n (j := 1) dX11_household_0 rfl ?_
  refine v_iload_n (j := 2) dX11_household_1 rfl ?_
  refine v_iload_n (j := 3) dX11_household_2 rfl ?_
  refine v_cS (hm := h) (av := [zi a1, zi a2, zi a3]) (st := []) (stn := [zi (fX11_isHouseholdAsTold a1 a2 a3 h)]) (tX11_isHouseholdAsTold a1 a2 a3 h) lcX11_isHouseholdAsTold mlX11_118 sxX11_isHouseholdAsTold rfl ⟨by decide, by decide⟩ (Nat.le_of_ble_eq_true rfl) dX11_household_3 rfl rfl ?_
  refine v_if_ne dX11_household_6 (by decide : _ = ((12 : Nat) : Int)) (fun q => ?_) (fun q => ?_)
  · replace hF := brF q hF
    refine v_aload_n (j := 0) dX11_household_12 rfl ?_
    refine v_getL (c := 11) rfl rfl rfl ly11_1 cz11 flX11_19 dX11_household_13 ?_
    refine v_iload_n (j := 1) dX11_household_16 rfl ?_
    refine v_iload_n (j := 2) dX11_household_17 rfl ?_
    refine v_iload_n (j := 3) dX11_household_18 rfl ?_
    replace hF := bd_use hF
    obtain ⟨r1, h2, er1, hF⟩ := hF
    refine v_cV (hm := h2) (av := [zi a1, zi a2, zi a3]) (st := []) (stn := [zi r1]) (tX4_addHousehold er1) lcX4_addHousehold mlX11_121 imX4_addHousehold seX4_addHousehold rfl rfl rfl rfl ⟨by decide, by decide⟩ (Nat.le_of_ble_eq_true rfl) dX11_household_19 rfl rfl ?_
    clear er1
    obtain ⟨rfl, rfl⟩ := ret_use hF
    exact v_iret rfl dX11_household_22
  · replace hF := brT (Decidable.not_not.mp q) hF
    refine v_bipush (v := (-2)) dX11_household_9 (by decide) ?_
    obtain ⟨rfl, rfl⟩ := ret_use hF
    exact v_iret rfl dX11_household_11
theorem dX11_changed_0 : decode cX11_changed 0 = .ok (.aload_n 0, 1) := by decide +kernel
theorem dX11_changed_1 : decode cX11_changed 1 = .ok (.getfield 19, 3) := by decide +kernel
theorem dX11_changed_4 : decode cX11_changed 4 = .ok (.iload_n 1, 1) := by decide +kernel
theorem dX11_changed_5 : decode cX11_changed 5 = .ok (.invokevirtual 124, 3) := by decide +kernel
theorem dX11_changed_8 : decode cX11_changed 8 = .ok (.astore 5, 2) := by decide +kernel
theorem dX11_changed_10 : decode cX11_changed 10 = .ok (.aload 5, 2) := by decide +kernel
theorem dX11_changed_12 : decode cX11_changed 12 = .ok (.ifnull 21, 3) := by decide +kernel
theorem dX11_changed_15 : decode cX11_changed 15 = .ok (.aload 5, 2) := by decide +kernel
theorem dX11_changed_17 : decode cX11_changed 17 = .ok (.getfield 128, 3) := by decide +kernel
theorem dX11_changed_20 : decode cX11_changed 20 = .ok (.ifCond .ne 13, 3) := by decide +kernel
theorem dX11_changed_23 : decode cX11_changed 23 = .ok (.iload_n 2, 1) := by decide +kernel
theorem dX11_changed_24 : decode cX11_changed 24 = .ok (.iload_n 3, 1) := by decide +kernel
theorem dX11_changed_25 : decode cX11_changed 25 = .ok (.iload 4, 2) := by decide +kernel
theorem dX11_changed_27 : decode cX11_changed 27 = .ok (.invokestatic 118, 3) := by decide +kernel
theorem dX11_changed_30 : decode cX11_changed 30 = .ok (.ifCond .ne 6, 3) := by decide +kernel
theorem dX11_changed_33 : decode cX11_changed 33 = .ok (.bipush (-2), 2) := by decide +kernel
theorem dX11_changed_35 : decode cX11_changed 35 = .ok (.ireturn, 1) := by decide +kernel
theorem dX11_changed_36 : decode cX11_changed 36 = .ok (.aload 5, 2) := by decide +kernel
theorem dX11_changed_38 : decode cX11_changed 38 = .ok (.iload_n 2, 1) := by decide +kernel
theorem dX11_changed_39 : decode cX11_changed 39 = .ok (.putfield 134, 3) := by decide +kernel
theorem dX11_changed_42 : decode cX11_changed 42 = .ok (.aload 5, 2) := by decide +kernel
theorem dX11_changed_44 : decode cX11_changed 44 = .ok (.iload_n 3, 1) := by decide +kernel
theorem dX11_changed_45 : decode cX11_changed 45 = .ok (.putfield 137, 3) := by decide +kernel
theorem dX11_changed_48 : decode cX11_changed 48 = .ok (.aload 5, 2) := by decide +kernel
theorem dX11_changed_50 : decode cX11_changed 50 = .ok (.iload 4, 2) := by decide +kernel
theorem dX11_changed_52 : decode cX11_changed 52 = .ok (.putfield 140, 3) := by decide +kernel
theorem dX11_changed_55 : decode cX11_changed 55 = .ok (.iconst 0, 1) := by decide +kernel
theorem dX11_changed_56 : decode cX11_changed 56 = .ok (.ireturn, 1) := by decide +kernel
def fX11_changed (a1 : Int32) (a2 : Int32) (a3 : Int32) (a4 : Int32) (h : Hp) : Option (Int32 × Hp) := bd (fX4_find a1 h) (fun r1 h2 => mt r1 (some ((-2), h2)) (fun z3 => br ((gI h2 2 z3 3) = 0) (br ((fX11_isHouseholdAsTold a2 a3 a4 h2) = 0) (some ((-2), h2)) (lb (sI h2 2 z3 0 a2) (fun h4 => lb (sI h4 2 z3 1 a3) (fun h5 => lb (sI h5 2 z3 2 a4) (fun h6 => some (0, h6)))))) (some ((-2), h2))))
set_option maxRecDepth 20000 in
theorem tX11_changed {X : Cz} {a1 : Int32} {a2 : Int32} {a3 : Int32} {a4 : Int32} {h hE : Hp} {rE : Int32} (hF : fX11_changed a1 a2 a3 a4 h = some (rE, hE)) : Ct X mX11_changed true [zr 11 0, zi a1, zi a2, zi a3, zi a4] h (some (zi rE)) hE := by
  refine Ct_of (by decide) (Nat.le_of_ble_eq_true rfl) (ls := [(0, zr 11 0), (1, zi a1), (2, zi a2), (3, zi a3), (4, zi a4)]) rfl ?_
  unfold fX11_changed at hF
  refine v_aload_n (j := 0) dX11_changed_0 rfl ?_
  refine v_getL (c := 11) rfl rfl rfl ly11_1 cz11 flX11_19 dX11_changed_1 ?_
  refine v_iload_n (j := 1) dX11_changed_4 rfl ?_
  replace hF := bd_use hF
  obtain ⟨r1, h2, er1, hF⟩ := hF
  refine v_cV (hm := h2) (av := [zi a1]) (st := []) (stn := [zq 2 r1]) (tX4_find er1) lcX4_find mlX11_124 imX4_find seX4_find rfl rfl rfl rfl ⟨by decide, by decide⟩ (Nat.le_of_ble_eq_true rfl) dX11_changed_5 rfl rfl ?_
  clear er1
  refine v_astore (ls' := [(5, zq 2 r1), (0, zr 11 0), (1, zi a1), (2, zi a2), (3, zi a3), (4, zi a4)]) dX11_changed_8 (by decide) rfl ?_
  refine v_aload (j := 0) dX11_changed_10 rfl ?_
  cases r1 with
  | none =>
    replace hF := mtN hF
    refine v_ifnullN (tgt := 33) dX11_changed_12 (by decide) ?_
    refine v_bipush (v := (-2)) dX11_changed_33 (by decide) ?_
    obtain ⟨rfl, rfl⟩ := ret_use hF
    exact v_iret rfl dX11_changed_35
  | some z3 =>
    replace hF := mtS hF
    refine v_ifnullS (q := (2, z3)) (tgt := 33) dX11_changed_12 (by decide) ?_
    refine v_aload (j := 0) dX11_changed_15 rfl ?_
    refine v_getI (c := 2) rfl (Or.inr rfl) cz2 flX11_128 dX11_changed_17 ?_
    refine v_if_ne dX11_changed_20 (by decide : _ = ((33 : Nat) : Int)) (fun q => ?_) (fun q => ?_)
    · replace hF := brF q hF
      refine v_bipush (v := (-2)) dX11_changed_33 (by decide) ?_
      obtain ⟨rfl, rfl⟩ := ret_use hF
      exact v_iret rfl dX11_changed_35
    · replace hF := brT (Decidable.not_not.mp q) hF
      refine v_iload_n (j := 3) dX11_changed_23 rfl ?_
      refine v_iload_n (j := 4) dX11_changed_24 rfl ?_
      refine v_iload (j := 5) dX11_changed_25 rfl ?_
      refine v_cS (hm := h2) (av := [zi a2, zi a3, zi a4]) (st := []) (stn := [zi (fX11_isHouseholdAsTold a2 a3 a4 h2)]) (tX11_isHouseholdAsTold a2 a3 a4 h2) lcX11_isHouseholdAsTold mlX11_118 sxX11_isHouseholdAsTold rfl ⟨by decide, by decide⟩ (Nat.le_of_ble_eq_true rfl) dX11_changed_27 rfl rfl ?_
      refine v_if_ne dX11_changed_30 (by decide : _ = ((36 : Nat) : Int)) (fun q => ?_) (fun q => ?_)
      · replace hF := brF q hF
        refine v_aload (j := 0) dX11_changed_36 rfl ?_
        refine v_iload_n (j := 3) dX11_changed_38 rfl ?_
        refine v_putI (c := 2) rfl rfl (Nat.le_of_ble_eq_true rfl) cz2 flX11_134 dX11_changed_39 ?_
        refine v_toph fun h4 eh4 => ?_
        replace hF := lb_use eh4 hF
        clear eh4
        refine v_aload (j := 0) dX11_changed_42 rfl ?_
        refine v_iload_n (j := 4) dX11_changed_44 rfl ?_
        refine v_putI (c := 2) rfl rfl (Nat.le_of_ble_eq_true rfl) cz2 flX11_137 dX11_changed_45 ?_
        refine v_toph fun h5 eh5 => ?_
        replace hF := lb_use eh5 hF
        clear eh5
        refine v_aload (j := 0) dX11_changed_48 rfl ?_
        refine v_iload (j := 5) dX11_changed_50 rfl ?_
        refine v_putI (c := 2) rfl rfl (Nat.le_of_ble_eq_true rfl) cz2 flX11_140 dX11_changed_52 ?_
        refine v_toph fun h6 eh6 => ?_
        replace hF := lb_use eh6 hF
        clear eh6
        refine v_iconst (v := 0) dX11_changed_55 (by decide) ?_
        obtain ⟨rfl, rfl⟩ := ret_use hF
        exact v_iret rfl dX11_changed_56
      · replace hF := brT (Decidable.not_not.mp q) hF
        refine v_bipush (v := (-2)) dX11_changed_33 (by decide) ?_
        obtain ⟨rfl, rfl⟩ := ret_use hF
        exact v_iret rfl dX11_changed_35
theorem dX11_gone_0 : decode cX11_gone 0 = .ok (.aload_n 0, 1) := by decide +kernel
theorem dX11_gone_1 : decode cX11_gone 1 = .ok (.getfield 19, 3) := by decide +kernel
theorem dX11_gone_4 : decode cX11_gone 4 = .ok (.iload_n 1, 1) := by decide +kernel
theorem dX11_gone_5 : decode cX11_gone 5 = .ok (.invokevirtual 124, 3) := by decide +kernel
theorem dX11_gone_8 : decode cX11_gone 8 = .ok (.astore_n 3, 1) := by decide +kernel
theorem dX11_gone_9 : decode cX11_gone 9 = .ok (.aload_n 3, 1) := by decide +kernel
theorem dX11_gone_10 : decode cX11_gone 10 = .ok (.ifnull 15, 3) := by decide +kernel
theorem dX11_gone_13 : decode cX11_gone 13 = .ok (.aload_n 3, 1) := by decide +kernel
theorem dX11_gone_14 : decode cX11_gone 14 = .ok (.getfield 128, 3) := by decide +kernel
theorem dX11_gone_17 : decode cX11_gone 17 = .ok (.ifCond .ne 8, 3) := by decide +kernel
theorem dX11_gone_20 : decode cX11_gone 20 = .ok (.iload_n 2, 1) := by decide +kernel
theorem dX11_gone_21 : decode cX11_gone 21 = .ok (.iload_n 1, 1) := by decide +kernel
theorem dX11_gone_22 : decode cX11_gone 22 = .ok (.if_icmp .ne 6, 3) := by decide +kernel
theorem dX11_gone_25 : decode cX11_gone 25 = .ok (.bipush (-2), 2) := by decide +kernel
theorem dX11_gone_27 : decode cX11_gone 27 = .ok (.ireturn, 1) := by decide +kernel
theorem dX11_gone_28 : decode cX11_gone 28 = .ok (.iload_n 2, 1) := by decide +kernel
theorem dX11_gone_29 : decode cX11_gone 29 = .ok (.iconst (-1), 1) := by decide +kernel
theorem dX11_gone_30 : decode cX11_gone 30 = .ok (.if_icmp .eq 17, 3) := by decide +kernel
theorem dX11_gone_33 : decode cX11_gone 33 = .ok (.aload_n 0, 1) := by decide +kernel
theorem dX11_gone_34 : decode cX11_gone 34 = .ok (.getfield 19, 3) := by decide +kernel
theorem dX11_gone_37 : decode cX11_gone 37 = .ok (.iload_n 2, 1) := by decide +kernel
theorem dX11_gone_38 : decode cX11_gone 38 = .ok (.invokevirtual 143, 3) := by decide +kernel
theorem dX11_gone_41 : decode cX11_gone 41 = .ok (.ifCond .ne 6, 3) := by decide +kernel
theorem dX11_gone_44 : decode cX11_gone 44 = .ok (.bipush (-2), 2) := by decide +kernel
theorem dX11_gone_46 : decode cX11_gone 46 = .ok (.ireturn, 1) := by decide +kernel
theorem dX11_gone_47 : decode cX11_gone 47 = .ok (.iload_n 2, 1) := by decide +kernel
theorem dX11_gone_48 : decode cX11_gone 48 = .ok (.iconst (-1), 1) := by decide +kernel
theorem dX11_gone_49 : decode cX11_gone 49 = .ok (.if_icmp .ne 7, 3) := by decide +kernel
theorem dX11_gone_52 : decode cX11_gone 52 = .ok (.iconst 0, 1) := by decide +kernel
theorem dX11_gone_53 : decode cX11_gone 53 = .ok (.goto 15, 3) := by decide +kernel
theorem dX11_gone_56 : decode cX11_gone 56 = .ok (.aload_n 0, 1) := by decide +kernel
theorem dX11_gone_57 : decode cX11_gone 57 = .ok (.getfield 26, 3) := by decide +kernel
theorem dX11_gone_60 : decode cX11_gone 60 = .ok (.iload_n 1, 1) := by decide +kernel
theorem dX11_gone_61 : decode cX11_gone 61 = .ok (.aload_n 0, 1) := by decide +kernel
theorem dX11_gone_62 : decode cX11_gone 62 = .ok (.getfield 111, 3) := by decide +kernel
theorem dX11_gone_65 : decode cX11_gone 65 = .ok (.invokevirtual 146, 3) := by decide +kernel
theorem dX11_gone_68 : decode cX11_gone 68 = .ok (.istore 4, 2) := by decide +kernel
theorem dX11_gone_70 : decode cX11_gone 70 = .ok (.iload 4, 2) := by decide +kernel
theorem dX11_gone_72 : decode cX11_gone 72 = .ok (.aload_n 0, 1) := by decide +kernel
theorem dX11_gone_73 : decode cX11_gone 73 = .ok (.getfield 26, 3) := by decide +kernel
theorem dX11_gone_76 : decode cX11_gone 76 = .ok (.invokevirtual 150, 3) := by decide +kernel
theorem dX11_gone_79 : decode cX11_gone 79 = .ok (.if_icmp .le 6, 3) := by decide +kernel
theorem dX11_gone_82 : decode cX11_gone 82 = .ok (.bipush (-3), 2) := by decide +kernel
theorem dX11_gone_84 : decode cX11_gone 84 = .ok (.ireturn, 1) := by decide +kernel
theorem dX11_gone_85 : decode cX11_gone 85 = .ok (.aload_n 0, 1) := by decide +kernel
theorem dX11_gone_86 : decode cX11_gone 86 = .ok (.getfield 26, 3) := by decide +kernel
theorem dX11_gone_89 : decode cX11_gone 89 = .ok (.iload_n 1, 1) := by decide +kernel
theorem dX11_gone_90 : decode cX11_gone 90 = .ok (.iload_n 2, 1) := by decide +kernel
theorem dX11_gone_91 : decode cX11_gone 91 = .ok (.aload_n 0, 1) := by decide +kernel
theorem dX11_gone_92 : decode cX11_gone 92 = .ok (.getfield 111, 3) := by decide +kernel
theorem dX11_gone_95 : decode cX11_gone 95 = .ok (.invokevirtual 154, 3) := by decide +kernel
theorem dX11_gone_98 : decode cX11_gone 98 = .ok (.aload_n 0, 1) := by decide +kernel
theorem dX11_gone_99 : decode cX11_gone 99 = .ok (.getfield 26, 3) := by decide +kernel
theorem dX11_gone_102 : decode cX11_gone 102 = .ok (.iload_n 1, 1) := by decide +kernel
theorem dX11_gone_103 : decode cX11_gone 103 = .ok (.iload_n 2, 1) := by decide +kernel
theorem dX11_gone_104 : decode cX11_gone 104 = .ok (.aload_n 0, 1) := by decide +kernel
theorem dX11_gone_105 : decode cX11_gone 105 = .ok (.getfield 111, 3) := by decide +kernel
theorem dX11_gone_108 : decode cX11_gone 108 = .ok (.invokevirtual 157, 3) := by decide +kernel
theorem dX11_gone_111 : decode cX11_gone 111 = .ok (.aload_n 0, 1) := by decide +kernel
theorem dX11_gone_112 : decode cX11_gone 112 = .ok (.getfield 42, 3) := by decide +kernel
theorem dX11_gone_115 : decode cX11_gone 115 = .ok (.iload_n 1, 1) := by decide +kernel
theorem dX11_gone_116 : decode cX11_gone 116 = .ok (.invokevirtual 160, 3) := by decide +kernel
theorem dX11_gone_119 : decode cX11_gone 119 = .ok (.aload_n 3, 1) := by decide +kernel
theorem dX11_gone_120 : decode cX11_gone 120 = .ok (.iconst 1, 1) := by decide +kernel
theorem dX11_gone_121 : decode cX11_gone 121 = .ok (.putfield 128, 3) := by decide +kernel
theorem dX11_gone_124 : decode cX11_gone 124 = .ok (.iload 4, 2) := by decide +kernel
theorem dX11_gone_126 : decode cX11_gone 126 = .ok (.ireturn, 1) := by decide +kernel
def fX11_gone (a1 : Int32) (a2 : Int32) (h : Hp) : Option (Int32 × Hp) := bd (fX4_find a1 h) (fun r1 h2 => mt r1 (some ((-2), h2)) (fun z3 => br ((gI h2 2 z3 3) = 0) (br (a2 = a1) (some ((-2), h2)) (lb (fun (h5 : Hp) => lb (fun (x7 : Int32) (h8 : Hp) => br (x7 ≤ (fX3_numbersLeft h8)) (bd (fX3_passRights a1 a2 (gI h8 11 0 11) h8) (fun r9 h10 => bd (fX3_passPlots a1 a2 (gI h10 11 0 11) h10) (fun r11 h12 => bd (fX0_dropOffersOf a1 h12) (fun r13 h14 => lb (sI h14 2 z3 3 1) (fun h15 => some (x7, h15)))))) (some ((-3), h8))) (fun j6 => br (a2 = (-1)) (j6 0 h5) (bd (fX3_heritableOf a1 (gI h5 11 0 11) h5) (fun r16 h17 => j6 r16 h17)))) (fun j4 => br (a2 = (-1)) (j4 h2) (bd (fX4_isStaying a2 h2) (fun r18 h19 => br (r18 = 0) (some ((-2), h19)) (j4 h19)))))) (some ((-2), h2))))
set_option maxRecDepth 20000 in
theorem tX11_gone {X : Cz} {a1 : Int32} {a2 : Int32} {h hE : Hp} {rE : Int32} (hF : fX11_gone a1 a2 h = some (rE, hE)) : Ct X mX11_gone true [zr 11 0, zi a1, zi a2] h (some (zi rE)) hE := by
  refine Ct_of (by decide) (Nat.le_of_ble_eq_true rfl) (ls := [(0, zr 11 0), (1, zi a1), (2, zi a2)]) rfl ?_
  unfold fX11_gone at hF
  refine v_aload_n (j := 0) dX11_gone_0 rfl ?_
  refine v_getL (c := 11) rfl rfl rfl ly11_1 cz11 flX11_19 dX11_gone_1 ?_
  refine v_iload_n (j := 1) dX11_gone_4 rfl ?_
  replace hF := bd_use hF
  obtain ⟨r1, h2, er1, hF⟩ := hF
  refine v_cV (hm := h2) (av := [zi a1]) (st := []) (stn := [zq 2 r1]) (tX4_find er1) lcX4_find mlX11_124 imX4_find seX4_find rfl rfl rfl rfl ⟨by decide, by decide⟩ (Nat.le_of_ble_eq_true rfl) dX11_gone_5 rfl rfl ?_
  clear er1
  refine v_astore_n (ls' := [(3, zq 2 r1), (0, zr 11 0), (1, zi a1), (2, zi a2)]) dX11_gone_8 (by decide) rfl ?_
  refine v_aload_n (j := 0) dX11_gone_9 rfl ?_
  cases r1 with
  | none =>
    replace hF := mtN hF
    refine v_ifnullN (tgt := 25) dX11_gone_10 (by decide) ?_
    refine v_bipush (v := (-2)) dX11_gone_25 (by decide) ?_
    obtain ⟨rfl, rfl⟩ := ret_use hF
    exact v_iret rfl dX11_gone_27
  | some z3 =>
    replace hF := mtS hF
    refine v_ifnullS (q := (2, z3)) (tgt := 25) dX11_gone_10 (by decide) ?_
    refine v_aload_n (j := 0) dX11_gone_13 rfl ?_
    refine v_getI (c := 2) rfl (Or.inr rfl) cz2 flX11_128 dX11_gone_14 ?_
    refine v_if_ne dX11_gone_17 (by decide : _ = ((25 : Nat) : Int)) (fun q => ?_) (fun q => ?_)
    · replace hF := brF q hF
      refine v_bipush (v := (-2)) dX11_gone_25 (by decide) ?_
      obtain ⟨rfl, rfl⟩ := ret_use hF
      exact v_iret rfl dX11_gone_27
    · replace hF := brT (Decidable.not_not.mp q) hF
      refine v_iload_n (j := 3) dX11_gone_20 rfl ?_
      refine v_iload_n (j := 2) dX11_gone_21 rfl ?_
      refine v_icmp_ne dX11_gone_22 (by decide : _ = ((28 : Nat) : Int)) (fun q => ?_) (fun q => ?_)
      · replace hF := brF q hF
        refine v_iload_n (j := 3) dX11_gone_28 rfl ?_
        refine v_iconst (v := (-1)) dX11_gone_29 (by decide) ?_
        replace hF := lb_ex hF
        obtain ⟨j4, ej4, hF⟩ := hF
        have j4V : ∀ (h5 : Hp), j4 h5 = some (rE, hE) → V X mX11_gone true h 47 [(0, zr 11 0), (1, zi a1), (2, zi a2), (3, zr 2 z3)] [] h5 (some (zi rE)) hE := by
          intro h5 hF
          subst ej4
          refine v_iload_n (j := 2) dX11_gone_47 rfl ?_
          refine v_iconst (v := (-1)) dX11_gone_48 (by decide) ?_
          replace hF := lb_ex hF
          obtain ⟨j6, ej6, hF⟩ := hF
          have j6V : ∀ (x7 : Int32) (h8 : Hp), j6 x7 h8 = some (rE, hE) → V X mX11_gone true h 68 [(0, zr 11 0), (1, zi a1), (2, zi a2), (3, zr 2 z3)] [zi x7] h8 (some (zi rE)) hE := by
            intro x7 h8 hF
            subst ej6
            refine v_istore (ls' := [(4, zi x7), (0, zr 11 0), (1, zi a1), (2, zi a2), (3, zr 2 z3)]) dX11_gone_68 (by decide) rfl ?_
            refine v_iload (j := 0) dX11_gone_70 rfl ?_
            refine v_aload_n (j := 1) dX11_gone_72 rfl ?_
            refine v_getL (c := 11) rfl rfl rfl ly11_2 cz11 flX11_26 dX11_gone_73 ?_
            refine v_cV (hm := h8) (av := []) (st := [zi x7]) (stn := [zi (fX3_numbersLeft h8), zi x7]) (tX3_numbersLeft h8) lcX3_numbersLeft mlX11_150 imX3_numbersLeft seX3_numbersLeft rfl rfl rfl rfl ⟨by decide, by decide⟩ (Nat.le_of_ble_eq_true rfl) dX11_gone_76 rfl rfl ?_
            refine v_icmp_le dX11_gone_79 (by decide : _ = ((85 : Nat) : Int)) (fun q => ?_) (fun q => ?_)
            · replace hF := brT q hF
              refine v_aload_n (j := 1) dX11_gone_85 rfl ?_
              refine v_getL (c := 11) rfl rfl rfl ly11_2 cz11 flX11_26 dX11_gone_86 ?_
              refine v_iload_n (j := 2) dX11_gone_89 rfl ?_
              refine v_iload_n (j := 3) dX11_gone_90 rfl ?_
              refine v_aload_n (j := 1) dX11_gone_91 rfl ?_
              refine v_getI (c := 11) rfl (Or.inl rfl) cz11 flX11_111 dX11_gone_92 ?_
              replace hF := bd_use hF
              obtain ⟨r9, h10, er9, hF⟩ := hF
              refine v_cV (hm := h10) (av := [zi a1, zi a2, zi (gI h8 11 0 11)]) (st := []) (stn := []) (tX3_passRights er9) lcX3_passRights mlX11_154 imX3_passRights seX3_passRights rfl rfl rfl rfl ⟨by decide, by decide⟩ (Nat.le_of_ble_eq_true rfl) dX11_gone_95 rfl rfl ?_
              clear er9
              refine v_aload_n (j := 1) dX11_gone_98 rfl ?_
              refine v_getL (c := 11) rfl rfl rfl ly11_2 cz11 flX11_26 dX11_gone_99 ?_
              refine v_iload_n (j := 2) dX11_gone_102 rfl ?_
              refine v_iload_n (j := 3) dX11_gone_103 rfl ?_
              refine v_aload_n (j := 1) dX11_gone_104 rfl ?_
              refine v_getI (c := 11) rfl (Or.inl rfl) cz11 flX11_111 dX11_gone_105 ?_
              replace hF := bd_use hF
              obtain ⟨r11, h12, er11, hF⟩ := hF
              refine v_cV (hm := h12) (av := [zi a1, zi a2, zi (gI h10 11 0 11)]) (st := []) (stn := []) (tX3_passPlots er11) lcX3_passPlots mlX11_157 imX3_passPlots seX3_passPlots rfl rfl rfl rfl ⟨by decide, by decide⟩ (Nat.le_of_ble_eq_true rfl) dX11_gone_108 rfl rfl ?_
              clear er11
              refine v_aload_n (j := 1) dX11_gone_111 rfl ?_
              refine v_getL (c := 11) rfl rfl rfl ly11_4 cz11 flX11_42 dX11_gone_112 ?_
              refine v_iload_n (j := 2) dX11_gone_115 rfl ?_
              replace hF := bd_use hF
              obtain ⟨r13, h14, er13, hF⟩ := hF
              refine v_cV (hm := h14) (av := [zi a1]) (st := []) (stn := []) (tX0_dropOffersOf er13) lcX0_dropOffersOf mlX11_160 imX0_dropOffersOf seX0_dropOffersOf rfl rfl rfl rfl ⟨by decide, by decide⟩ (Nat.le_of_ble_eq_true rfl) dX11_gone_116 rfl rfl ?_
              clear er13
              refine v_aload_n (j := 4) dX11_gone_119 rfl ?_
              refine v_iconst (v := 1) dX11_gone_120 (by decide) ?_
              refine v_putZ (c := 2) rfl rfl (Nat.le_of_ble_eq_true rfl) cz2 flX11_128 (Or.inr rfl) dX11_gone_121 ?_
              refine v_toph fun h15 eh15 => ?_
              replace hF := lb_use eh15 hF
              clear eh15
              refine v_iload (j := 0) dX11_gone_124 rfl ?_
              obtain ⟨rfl, rfl⟩ := ret_use hF
              exact v_iret rfl dX11_gone_126
            · replace hF := brF q hF
              refine v_bipush (v := (-3)) dX11_gone_82 (by decide) ?_
              obtain ⟨rfl, rfl⟩ := ret_use hF
              exact v_iret rfl dX11_gone_84
          clear ej6
          refine v_icmp_ne dX11_gone_49 (by decide : _ = ((56 : Nat) : Int)) (fun q => ?_) (fun q => ?_)
          · replace hF := brF q hF
            refine v_aload_n (j := 0) dX11_gone_56 rfl ?_
            refine v_getL (c := 11) rfl rfl rfl ly11_2 cz11 flX11_26 dX11_gone_57 ?_
            refine v_iload_n (j := 1) dX11_gone_60 rfl ?_
            refine v_aload_n (j := 0) dX11_gone_61 rfl ?_
            refine v_getI (c := 11) rfl (Or.inl rfl) cz11 flX11_111 dX11_gone_62 ?_
            replace hF := bd_use hF
            obtain ⟨r16, h17, er16, hF⟩ := hF
            refine v_cV (hm := h17) (av := [zi a1, zi (gI h5 11 0 11)]) (st := []) (stn := [zi r16]) (tX3_heritableOf er16) lcX3_heritableOf mlX11_146 imX3_heritableOf seX3_heritableOf rfl rfl rfl rfl ⟨by decide, by decide⟩ (Nat.le_of_ble_eq_true rfl) dX11_gone_65 rfl rfl ?_
            clear er16
            exact j6V r16 h17 hF
          · replace hF := brT (Decidable.not_not.mp q) hF
            refine v_iconst (v := 0) dX11_gone_52 (by decide) ?_
            refine v_goto (tgt := 68) dX11_gone_53 (by decide) ?_
            exact j6V 0 h5 hF
        clear ej4
        refine v_icmp_eq dX11_gone_30 (by decide : _ = ((47 : Nat) : Int)) (fun q => ?_) (fun q => ?_)
        · replace hF := brT q hF
          refine v_sub [1, 2, 3, 0] rfl ?_
          exact j4V h2 hF
        · replace hF := brF q hF
          refine v_aload_n (j := 1) dX11_gone_33 rfl ?_
          refine v_getL (c := 11) rfl rfl rfl ly11_1 cz11 flX11_19 dX11_gone_34 ?_
          refine v_iload_n (j := 3) dX11_gone_37 rfl ?_
          replace hF := bd_use hF
          obtain ⟨r18, h19, er18, hF⟩ := hF
          refine v_cV (hm := h19) (av := [zi a2]) (st := []) (stn := [zi r18]) (tX4_isStaying er18) lcX4_isStaying mlX11_143 imX4_isStaying seX4_isStaying rfl rfl rfl rfl ⟨by decide, by decide⟩ (Nat.le_of_ble_eq_true rfl) dX11_gone_38 rfl rfl ?_
          clear er18
          refine v_if_ne dX11_gone_41 (by decide : _ = ((47 : Nat) : Int)) (fun q => ?_) (fun q => ?_)
          · replace hF := brF q hF
            refine v_sub [1, 2, 3, 0] rfl ?_
            exact j4V h19 hF
          · replace hF := brT (Decidable.not_not.mp q) hF
            refine v_bipush (v := (-2)) dX11_gone_44 (by decide) ?_
            obtain ⟨rfl, rfl⟩ := ret_use hF
            exact v_iret rfl dX11_gone_46
      · replace hF := brT (Decidable.not_not.mp q) hF
        refine v_bipush (v := (-2)) dX11_gone_25 (by decide) ?_
        obtain ⟨rfl, rfl⟩ := ret_use hF
        exact v_iret rfl dX11_gone_27
theorem dX11_sell_0 : decode cX11_sell 0 = .ok (.aload_n 0, 1) := by decide +kernel
theorem dX11_sell_1 : decode cX11_sell 1 = .ok (.getfield 26, 3) := by decide +kernel
theorem dX11_sell_4 : decode cX11_sell 4 = .ok (.iload_n 1, 1) := by decide +kernel
theorem dX11_sell_5 : decode cX11_sell 5 = .ok (.invokevirtual 164, 3) := by decide +kernel
theorem dX11_sell_8 : decode cX11_sell 8 = .ok (.ifCond .eq 19, 3) := by decide +kernel
theorem dX11_sell_11 : decode cX11_sell 11 = .ok (.iload_n 2, 1) := by decide +kernel
theorem dX11_sell_12 : decode cX11_sell 12 = .ok (.iconst (-1), 1) := by decide +kernel
theorem dX11_sell_13 : decode cX11_sell 13 = .ok (.if_icmp .eq 17, 3) := by decide +kernel
theorem dX11_sell_16 : decode cX11_sell 16 = .ok (.aload_n 0, 1) := by decide +kernel
theorem dX11_sell_17 : decode cX11_sell 17 = .ok (.getfield 19, 3) := by decide +kernel
theorem dX11_sell_20 : decode cX11_sell 20 = .ok (.iload_n 2, 1) := by decide +kernel
theorem dX11_sell_21 : decode cX11_sell 21 = .ok (.invokevirtual 143, 3) := by decide +kernel
theorem dX11_sell_24 : decode cX11_sell 24 = .ok (.ifCond .ne 6, 3) := by decide +kernel
theorem dX11_sell_27 : decode cX11_sell 27 = .ok (.bipush (-2), 2) := by decide +kernel
theorem dX11_sell_29 : decode cX11_sell 29 = .ok (.ireturn, 1) := by decide +kernel
theorem dX11_sell_30 : decode cX11_sell 30 = .ok (.aload_n 0, 1) := by decide +kernel
theorem dX11_sell_31 : decode cX11_sell 31 = .ok (.getfield 26, 3) := by decide +kernel
theorem dX11_sell_34 : decode cX11_sell 34 = .ok (.getfield 167, 3) := by decide +kernel
theorem dX11_sell_37 : decode cX11_sell 37 = .ok (.bipush 100, 2) := by decide +kernel
theorem dX11_sell_39 : decode cX11_sell 39 = .ok (.if_icmp .lt 6, 3) := by decide +kernel
theorem dX11_sell_42 : decode cX11_sell 42 = .ok (.bipush (-3), 2) := by decide +kernel
theorem dX11_sell_44 : decode cX11_sell 44 = .ok (.ireturn, 1) := by decide +kernel
theorem dX11_sell_45 : decode cX11_sell 45 = .ok (.aload_n 0, 1) := by decide +kernel
theorem dX11_sell_46 : decode cX11_sell 46 = .ok (.getfield 26, 3) := by decide +kernel
theorem dX11_sell_49 : decode cX11_sell 49 = .ok (.iload_n 1, 1) := by decide +kernel
theorem dX11_sell_50 : decode cX11_sell 50 = .ok (.aload_n 0, 1) := by decide +kernel
theorem dX11_sell_51 : decode cX11_sell 51 = .ok (.getfield 111, 3) := by decide +kernel
theorem dX11_sell_54 : decode cX11_sell 54 = .ok (.invokevirtual 170, 3) := by decide +kernel
theorem dX11_sell_57 : decode cX11_sell 57 = .ok (.istore_n 3, 1) := by decide +kernel
theorem dX11_sell_58 : decode cX11_sell 58 = .ok (.aload_n 0, 1) := by decide +kernel
theorem dX11_sell_59 : decode cX11_sell 59 = .ok (.getfield 26, 3) := by decide +kernel
theorem dX11_sell_62 : decode cX11_sell 62 = .ok (.iload_n 1, 1) := by decide +kernel
theorem dX11_sell_63 : decode cX11_sell 63 = .ok (.iload_n 2, 1) := by decide +kernel
theorem dX11_sell_64 : decode cX11_sell 64 = .ok (.aload_n 0, 1) := by decide +kernel
theorem dX11_sell_65 : decode cX11_sell 65 = .ok (.getfield 111, 3) := by decide +kernel
theorem dX11_sell_68 : decode cX11_sell 68 = .ok (.invokevirtual 173, 3) := by decide +kernel
theorem dX11_sell_71 : decode cX11_sell 71 = .ok (.aload_n 0, 1) := by decide +kernel
theorem dX11_sell_72 : decode cX11_sell 72 = .ok (.getfield 26, 3) := by decide +kernel
theorem dX11_sell_75 : decode cX11_sell 75 = .ok (.dup, 1) := by decide +kernel
theorem dX11_sell_76 : decode cX11_sell 76 = .ok (.getfield 167, 3) := by decide +kernel
theorem dX11_sell_79 : decode cX11_sell 79 = .ok (.iconst 1, 1) := by decide +kernel
theorem dX11_sell_80 : decode cX11_sell 80 = .ok (.iadd, 1) := by decide +kernel
theorem dX11_sell_81 : decode cX11_sell 81 = .ok (.putfield 167, 3) := by decide +kernel
theorem dX11_sell_84 : decode cX11_sell 84 = .ok (.iload_n 3, 1) := by decide +kernel
theorem dX11_sell_85 : decode cX11_sell 85 = .ok (.ireturn, 1) := by decide +kernel
def fX11_sell (a1 : Int32) (a2 : Int32) (h : Hp) : Option (Int32 × Hp) := br ((fX3_isPlot a1 h) = 0) (some ((-2), h)) (lb (fun (h2 : Hp) => br ((gI h2 3 0 2) < 100) (bd (fX3_plotOwner a1 (gI h2 11 0 11) h2) (fun r3 h4 => bd (fX3_givePlot a1 a2 (gI h4 11 0 11) h4) (fun r5 h6 => lb (sI h6 3 0 2 ((gI h6 3 0 2) + 1)) (fun h7 => some (r3, h7))))) (some ((-3), h2))) (fun j1 => br (a2 = (-1)) (j1 h) (bd (fX4_isStaying a2 h) (fun r8 h9 => br (r8 = 0) (some ((-2), h9)) (j1 h9)))))
set_option maxRecDepth 20000 in
theorem tX11_sell {X : Cz} {a1 : Int32} {a2 : Int32} {h hE : Hp} {rE : Int32} (hF : fX11_sell a1 a2 h = some (rE, hE)) : Ct X mX11_sell true [zr 11 0, zi a1, zi a2] h (some (zi rE)) hE := by
  refine Ct_of (by decide) (Nat.le_of_ble_eq_true rfl) (ls := [(0, zr 11 0), (1, zi a1), (2, zi a2)]) rfl ?_
  unfold fX11_sell at hF
  refine v_aload_n (j := 0) dX11_sell_0 rfl ?_
  refine v_getL (c := 11) rfl rfl rfl ly11_2 cz11 flX11_26 dX11_sell_1 ?_
  refine v_iload_n (j := 1) dX11_sell_4 rfl ?_
  refine v_cV (hm := h) (av := [zi a1]) (st := []) (stn := [zi (fX3_isPlot a1 h)]) (tX3_isPlot a1 h) lcX3_isPlot mlX11_164 imX3_isPlot seX3_isPlot rfl rfl rfl rfl ⟨by decide, by decide⟩ (Nat.le_of_ble_eq_true rfl) dX11_sell_5 rfl rfl ?_
  refine v_if_eq dX11_sell_8 (by decide : _ = ((27 : Nat) : Int)) (fun q => ?_) (fun q => ?_)
  · replace hF := brT q hF
    refine v_bipush (v := (-2)) dX11_sell_27 (by decide) ?_
    obtain ⟨rfl, rfl⟩ := ret_use hF
    exact v_iret rfl dX11_sell_29
  · replace hF := brF q hF
    refine v_iload_n (j := 2) dX11_sell_11 rfl ?_
    refine v_iconst (v := (-1)) dX11_sell_12 (by decide) ?_
    replace hF := lb_ex hF
    obtain ⟨j1, ej1, hF⟩ := hF
    have j1V : ∀ (h2 : Hp), j1 h2 = some (rE, hE) → V X mX11_sell true h 30 [(0, zr 11 0), (1, zi a1), (2, zi a2)] [] h2 (some (zi rE)) hE := by
      intro h2 hF
      subst ej1
      refine v_aload_n (j := 0) dX11_sell_30 rfl ?_
      refine v_getL (c := 11) rfl rfl rfl ly11_2 cz11 flX11_26 dX11_sell_31 ?_
      refine v_getI (c := 3) rfl (Or.inl rfl) cz3 flX11_167 dX11_sell_34 ?_
      refine v_bipush (v := 100) dX11_sell_37 (by decide) ?_
      refine v_icmp_lt dX11_sell_39 (by decide : _ = ((45 : Nat) : Int)) (fun q => ?_) (fun q => ?_)
      · replace hF := brT q hF
        refine v_aload_n (j := 0) dX11_sell_45 rfl ?_
        refine v_getL (c := 11) rfl rfl rfl ly11_2 cz11 flX11_26 dX11_sell_46 ?_
        refine v_iload_n (j := 1) dX11_sell_49 rfl ?_
        refine v_aload_n (j := 0) dX11_sell_50 rfl ?_
        refine v_getI (c := 11) rfl (Or.inl rfl) cz11 flX11_111 dX11_sell_51 ?_
        replace hF := bd_use hF
        obtain ⟨r3, h4, er3, hF⟩ := hF
        refine v_cV (hm := h4) (av := [zi a1, zi (gI h2 11 0 11)]) (st := []) (stn := [zi r3]) (tX3_plotOwner er3) lcX3_plotOwner mlX11_170 imX3_plotOwner seX3_plotOwner rfl rfl rfl rfl ⟨by decide, by decide⟩ (Nat.le_of_ble_eq_true rfl) dX11_sell_54 rfl rfl ?_
        clear er3
        refine v_istore_n (ls' := [(3, zi r3), (0, zr 11 0), (1, zi a1), (2, zi a2)]) dX11_sell_57 (by decide) rfl ?_
        refine v_aload_n (j := 1) dX11_sell_58 rfl ?_
        refine v_getL (c := 11) rfl rfl rfl ly11_2 cz11 flX11_26 dX11_sell_59 ?_
        refine v_iload_n (j := 2) dX11_sell_62 rfl ?_
        refine v_iload_n (j := 3) dX11_sell_63 rfl ?_
        refine v_aload_n (j := 1) dX11_sell_64 rfl ?_
        refine v_getI (c := 11) rfl (Or.inl rfl) cz11 flX11_111 dX11_sell_65 ?_
        replace hF := bd_use hF
        obtain ⟨r5, h6, er5, hF⟩ := hF
        refine v_cV (hm := h6) (av := [zi a1, zi a2, zi (gI h4 11 0 11)]) (st := []) (stn := []) (tX3_givePlot er5) lcX3_givePlot mlX11_173 imX3_givePlot seX3_givePlot rfl rfl rfl rfl ⟨by decide, by decide⟩ (Nat.le_of_ble_eq_true rfl) dX11_sell_68 rfl rfl ?_
        clear er5
        refine v_aload_n (j := 1) dX11_sell_71 rfl ?_
        refine v_getL (c := 11) rfl rfl rfl ly11_2 cz11 flX11_26 dX11_sell_72 ?_
        refine v_dup dX11_sell_75 rfl ?_
        refine v_getI (c := 3) rfl (Or.inl rfl) cz3 flX11_167 dX11_sell_76 ?_
        refine v_iconst (v := 1) dX11_sell_79 (by decide) ?_
        refine v_iadd dX11_sell_80 ?_
        refine v_putI (c := 3) rfl rfl (Nat.le_of_ble_eq_true rfl) cz3 flX11_167 dX11_sell_81 ?_
        refine v_toph fun h7 eh7 => ?_
        replace hF := lb_use eh7 hF
        clear eh7
        refine v_iload_n (j := 0) dX11_sell_84 rfl ?_
        obtain ⟨rfl, rfl⟩ := ret_use hF
        exact v_iret rfl dX11_sell_85
      · replace hF := brF q hF
        refine v_bipush (v := (-3)) dX11_sell_42 (by decide) ?_
        obtain ⟨rfl, rfl⟩ := ret_use hF
        exact v_iret rfl dX11_sell_44
    clear ej1
    refine v_icmp_eq dX11_sell_13 (by decide : _ = ((30 : Nat) : Int)) (fun q => ?_) (fun q => ?_)
    · replace hF := brT q hF
      exact j1V h hF
    · replace hF := brF q hF
      refine v_aload_n (j := 0) dX11_sell_16 rfl ?_
      refine v_getL (c := 11) rfl rfl rfl ly11_1 cz11 flX11_19 dX11_sell_17 ?_
      refine v_iload_n (j := 2) dX11_sell_20 rfl ?_
      replace hF := bd_use hF
      obtain ⟨r8, h9, er8, hF⟩ := hF
      refine v_cV (hm := h9) (av := [zi a2]) (st := []) (stn := [zi r8]) (tX4_isStaying er8) lcX4_isStaying mlX11_143 imX4_isStaying seX4_isStaying rfl rfl rfl rfl ⟨by decide, by decide⟩ (Nat.le_of_ble_eq_true rfl) dX11_sell_21 rfl rfl ?_
      clear er8
      refine v_if_ne dX11_sell_24 (by decide : _ = ((30 : Nat) : Int)) (fun q => ?_) (fun q => ?_)
      · replace hF := brF q hF
        exact j1V h9 hF
      · replace hF := brT (Decidable.not_not.mp q) hF
        refine v_bipush (v := (-2)) dX11_sell_27 (by decide) ?_
        obtain ⟨rfl, rfl⟩ := ret_use hF
        exact v_iret rfl dX11_sell_29
theorem dX11_plotOf_0 : decode cX11_plotOf 0 = .ok (.aload_n 0, 1) := by decide +kernel
theorem dX11_plotOf_1 : decode cX11_plotOf 1 = .ok (.getfield 26, 3) := by decide +kernel
theorem dX11_plotOf_4 : decode cX11_plotOf 4 = .ok (.iload_n 1, 1) := by decide +kernel
theorem dX11_plotOf_5 : decode cX11_plotOf 5 = .ok (.invokevirtual 164, 3) := by decide +kernel
theorem dX11_plotOf_8 : decode cX11_plotOf 8 = .ok (.ifCond .eq 10, 3) := by decide +kernel
theorem dX11_plotOf_11 : decode cX11_plotOf 11 = .ok (.iload_n 2, 1) := by decide +kernel
theorem dX11_plotOf_12 : decode cX11_plotOf 12 = .ok (.invokestatic 176, 3) := by decide +kernel
theorem dX11_plotOf_15 : decode cX11_plotOf 15 = .ok (.ifCond .ne 6, 3) := by decide +kernel
theorem dX11_plotOf_18 : decode cX11_plotOf 18 = .ok (.bipush (-2), 2) := by decide +kernel
theorem dX11_plotOf_20 : decode cX11_plotOf 20 = .ok (.ireturn, 1) := by decide +kernel
theorem dX11_plotOf_21 : decode cX11_plotOf 21 = .ok (.aload_n 0, 1) := by decide +kernel
theorem dX11_plotOf_22 : decode cX11_plotOf 22 = .ok (.getfield 26, 3) := by decide +kernel
theorem dX11_plotOf_25 : decode cX11_plotOf 25 = .ok (.iload_n 1, 1) := by decide +kernel
theorem dX11_plotOf_26 : decode cX11_plotOf 26 = .ok (.iload_n 2, 1) := by decide +kernel
theorem dX11_plotOf_27 : decode cX11_plotOf 27 = .ok (.invokevirtual 170, 3) := by decide +kernel
theorem dX11_plotOf_30 : decode cX11_plotOf 30 = .ok (.ireturn, 1) := by decide +kernel
def fX11_plotOf (a1 : Int32) (a2 : Int32) (h : Hp) : Option (Int32 × Hp) := br ((fX3_isPlot a1 h) = 0) (some ((-2), h)) (br ((fX11_isYear a2 h) = 0) (some ((-2), h)) (bd (fX3_plotOwner a1 a2 h) (fun r1 h2 => some (r1, h2))))
set_option maxRecDepth 20000 in
theorem tX11_plotOf {X : Cz} {a1 : Int32} {a2 : Int32} {h hE : Hp} {rE : Int32} (hF : fX11_plotOf a1 a2 h = some (rE, hE)) : Ct X mX11_plotOf true [zr 11 0, zi a1, zi a2] h (some (zi rE)) hE := by
  refine Ct_of (by decide) (Nat.le_of_ble_eq_true rfl) (ls := [(0, zr 11 0), (1, zi a1), (2, zi a2)]) rfl ?_
  unfold fX11_plotOf at hF
  refine v_aload_n (j := 0) dX11_plotOf_0 rfl ?_
  refine v_getL (c := 11) rfl rfl rfl ly11_2 cz11 flX11_26 dX11_plotOf_1 ?_
  refine v_iload_n (j := 1) dX11_plotOf_4 rfl ?_
  refine v_cV (hm := h) (av := [zi a1]) (st := []) (stn := [zi (fX3_isPlot a1 h)]) (tX3_isPlot a1 h) lcX3_isPlot mlX11_164 imX3_isPlot seX3_isPlot rfl rfl rfl rfl ⟨by decide, by decide⟩ (Nat.le_of_ble_eq_true rfl) dX11_plotOf_5 rfl rfl ?_
  refine v_if_eq dX11_plotOf_8 (by decide : _ = ((18 : Nat) : Int)) (fun q => ?_) (fun q => ?_)
  · replace hF := brT q hF
    refine v_bipush (v := (-2)) dX11_plotOf_18 (by decide) ?_
    obtain ⟨rfl, rfl⟩ := ret_use hF
    exact v_iret rfl dX11_plotOf_20
  · replace hF := brF q hF
    refine v_iload_n (j := 2) dX11_plotOf_11 rfl ?_
    refine v_cS (hm := h) (av := [zi a2]) (st := []) (stn := [zi (fX11_isYear a2 h)]) (tX11_isYear a2 h) lcX11_isYear mlX11_176 sxX11_isYear rfl ⟨by decide, by decide⟩ (Nat.le_of_ble_eq_true rfl) dX11_plotOf_12 rfl rfl ?_
    refine v_if_ne dX11_plotOf_15 (by decide : _ = ((21 : Nat) : Int)) (fun q => ?_) (fun q => ?_)
    · replace hF := brF q hF
      refine v_aload_n (j := 0) dX11_plotOf_21 rfl ?_
      refine v_getL (c := 11) rfl rfl rfl ly11_2 cz11 flX11_26 dX11_plotOf_22 ?_
      refine v_iload_n (j := 1) dX11_plotOf_25 rfl ?_
      refine v_iload_n (j := 2) dX11_plotOf_26 rfl ?_
      replace hF := bd_use hF
      obtain ⟨r1, h2, er1, hF⟩ := hF
      refine v_cV (hm := h2) (av := [zi a1, zi a2]) (st := []) (stn := [zi r1]) (tX3_plotOwner er1) lcX3_plotOwner mlX11_170 imX3_plotOwner seX3_plotOwner rfl rfl rfl rfl ⟨by decide, by decide⟩ (Nat.le_of_ble_eq_true rfl) dX11_plotOf_27 rfl rfl ?_
      clear er1
      obtain ⟨rfl, rfl⟩ := ret_use hF
      exact v_iret rfl dX11_plotOf_30
    · replace hF := brT (Decidable.not_not.mp q) hF
      refine v_bipush (v := (-2)) dX11_plotOf_18 (by decide) ?_
      obtain ⟨rfl, rfl⟩ := ret_use hF
      exact v_iret rfl dX11_plotOf_20
theorem dX11_right_0 : decode cX11_right 0 = .ok (.iload_n 1, 1) := by decide +kernel
theorem dX11_right_1 : decode cX11_right 1 = .ok (.iconst 0, 1) := by decide +kernel
theorem dX11_right_2 : decode cX11_right 2 = .ok (.iconst 3, 1) := by decide +kernel
theorem dX11_right_3 : decode cX11_right 3 = .ok (.invokestatic 96, 3) := by decide +kernel
theorem dX11_right_6 : decode cX11_right 6 = .ok (.ifCond .eq 18, 3) := by decide +kernel
theorem dX11_right_9 : decode cX11_right 9 = .ok (.aload_n 0, 1) := by decide +kernel
theorem dX11_right_10 : decode cX11_right 10 = .ok (.getfield 10, 3) := by decide +kernel
theorem dX11_right_13 : decode cX11_right 13 = .ok (.iload_n 3, 1) := by decide +kernel
theorem dX11_right_14 : decode cX11_right 14 = .ok (.iload 4, 2) := by decide +kernel
theorem dX11_right_16 : decode cX11_right 16 = .ok (.iload 5, 2) := by decide +kernel
theorem dX11_right_18 : decode cX11_right 18 = .ok (.invokevirtual 179, 3) := by decide +kernel
theorem dX11_right_21 : decode cX11_right 21 = .ok (.ifCond .ne 6, 3) := by decide +kernel
theorem dX11_right_24 : decode cX11_right 24 = .ok (.bipush (-2), 2) := by decide +kernel
theorem dX11_right_26 : decode cX11_right 26 = .ok (.ireturn, 1) := by decide +kernel
theorem dX11_right_27 : decode cX11_right 27 = .ok (.iload_n 1, 1) := by decide +kernel
theorem dX11_right_28 : decode cX11_right 28 = .ok (.iconst 1, 1) := by decide +kernel
theorem dX11_right_29 : decode cX11_right 29 = .ok (.if_icmp .ne 14, 3) := by decide +kernel
theorem dX11_right_32 : decode cX11_right 32 = .ok (.aload_n 0, 1) := by decide +kernel
theorem dX11_right_33 : decode cX11_right 33 = .ok (.getfield 26, 3) := by decide +kernel
theorem dX11_right_36 : decode cX11_right 36 = .ok (.iload_n 2, 1) := by decide +kernel
theorem dX11_right_37 : decode cX11_right 37 = .ok (.invokevirtual 164, 3) := by decide +kernel
theorem dX11_right_40 : decode cX11_right 40 = .ok (.goto 11, 3) := by decide +kernel
theorem dX11_right_43 : decode cX11_right 43 = .ok (.aload_n 0, 1) := by decide +kernel
theorem dX11_right_44 : decode cX11_right 44 = .ok (.getfield 19, 3) := by decide +kernel
theorem dX11_right_47 : decode cX11_right 47 = .ok (.iload_n 2, 1) := by decide +kernel
theorem dX11_right_48 : decode cX11_right 48 = .ok (.invokevirtual 182, 3) := by decide +kernel
theorem dX11_right_51 : decode cX11_right 51 = .ok (.istore 9, 2) := by decide +kernel
theorem dX11_right_53 : decode cX11_right 53 = .ok (.iload 9, 2) := by decide +kernel
theorem dX11_right_55 : decode cX11_right 55 = .ok (.ifCond .eq 26, 3) := by decide +kernel
theorem dX11_right_58 : decode cX11_right 58 = .ok (.iload 6, 2) := by decide +kernel
theorem dX11_right_60 : decode cX11_right 60 = .ok (.invokestatic 176, 3) := by decide +kernel
theorem dX11_right_63 : decode cX11_right 63 = .ok (.ifCond .eq 18, 3) := by decide +kernel
theorem dX11_right_66 : decode cX11_right 66 = .ok (.iload 7, 2) := by decide +kernel
theorem dX11_right_68 : decode cX11_right 68 = .ok (.invokestatic 176, 3) := by decide +kernel
theorem dX11_right_71 : decode cX11_right 71 = .ok (.ifCond .eq 10, 3) := by decide +kernel
theorem dX11_right_74 : decode cX11_right 74 = .ok (.iload 6, 2) := by decide +kernel
theorem dX11_right_76 : decode cX11_right 76 = .ok (.iload 7, 2) := by decide +kernel
theorem dX11_right_78 : decode cX11_right 78 = .ok (.if_icmp .le 6, 3) := by decide +kernel
theorem dX11_right_81 : decode cX11_right 81 = .ok (.bipush (-2), 2) := by decide +kernel
theorem dX11_right_83 : decode cX11_right 83 = .ok (.ireturn, 1) := by decide +kernel
theorem dX11_right_84 : decode cX11_right 84 = .ok (.aload_n 0, 1) := by decide +kernel
theorem dX11_right_85 : decode cX11_right 85 = .ok (.getfield 26, 3) := by decide +kernel
theorem dX11_right_88 : decode cX11_right 88 = .ok (.invokevirtual 150, 3) := by decide +kernel
theorem dX11_right_91 : decode cX11_right 91 = .ok (.iconst 1, 1) := by decide +kernel
theorem dX11_right_92 : decode cX11_right 92 = .ok (.if_icmp .ge 6, 3) := by decide +kernel
theorem dX11_right_95 : decode cX11_right 95 = .ok (.bipush (-3), 2) := by decide +kernel
theorem dX11_right_97 : decode cX11_right 97 = .ok (.ireturn, 1) := by decide +kernel
theorem dX11_right_98 : decode cX11_right 98 = .ok (.new 185, 3) := by decide +kernel
theorem dX11_right_101 : decode cX11_right 101 = .ok (.dup, 1) := by decide +kernel
theorem dX11_right_102 : decode cX11_right 102 = .ok (.iload_n 1, 1) := by decide +kernel
theorem dX11_right_103 : decode cX11_right 103 = .ok (.iload_n 2, 1) := by decide +kernel
theorem dX11_right_104 : decode cX11_right 104 = .ok (.iload_n 3, 1) := by decide +kernel
theorem dX11_right_105 : decode cX11_right 105 = .ok (.iload 4, 2) := by decide +kernel
theorem dX11_right_107 : decode cX11_right 107 = .ok (.iload 5, 2) := by decide +kernel
theorem dX11_right_109 : decode cX11_right 109 = .ok (.invokespecial 187, 3) := by decide +kernel
theorem dX11_right_112 : decode cX11_right 112 = .ok (.astore 10, 2) := by decide +kernel
theorem dX11_right_114 : decode cX11_right 114 = .ok (.aload 10, 2) := by decide +kernel
theorem dX11_right_116 : decode cX11_right 116 = .ok (.iload 6, 2) := by decide +kernel
theorem dX11_right_118 : decode cX11_right 118 = .ok (.iload 6, 2) := by decide +kernel
theorem dX11_right_120 : decode cX11_right 120 = .ok (.iload 7, 2) := by decide +kernel
theorem dX11_right_122 : decode cX11_right 122 = .ok (.aload_n 0, 1) := by decide +kernel
theorem dX11_right_123 : decode cX11_right 123 = .ok (.getfield 111, 3) := by decide +kernel
theorem dX11_right_126 : decode cX11_right 126 = .ok (.invokevirtual 190, 3) := by decide +kernel
theorem dX11_right_129 : decode cX11_right 129 = .ok (.aload 10, 2) := by decide +kernel
theorem dX11_right_131 : decode cX11_right 131 = .ok (.iload 8, 2) := by decide +kernel
theorem dX11_right_133 : decode cX11_right 133 = .ok (.putfield 194, 3) := by decide +kernel
theorem dX11_right_136 : decode cX11_right 136 = .ok (.aload_n 0, 1) := by decide +kernel
theorem dX11_right_137 : decode cX11_right 137 = .ok (.getfield 26, 3) := by decide +kernel
theorem dX11_right_140 : decode cX11_right 140 = .ok (.aload 10, 2) := by decide +kernel
theorem dX11_right_142 : decode cX11_right 142 = .ok (.invokevirtual 197, 3) := by decide +kernel
theorem dX11_right_145 : decode cX11_right 145 = .ok (.ireturn, 1) := by decide +kernel
def fX11_right (a1 : Int32) (a2 : Int32) (a3 : Int32) (a4 : Int32) (a5 : Int32) (a6 : Int32) (a7 : Int32) (a8 : Int32) (h : Hp) : Option (Int32 × Hp) := br ((fX11_isWithin a1 0 3 h) = 0) (some ((-2), h)) (bd (fX1_hasRun a3 a4 a5 h) (fun r1 h2 => br (r1 = 0) (some ((-2), h2)) (lb (fun (x4 : Int32) (h5 : Hp) => br (x4 = 0) (some ((-2), h5)) (br ((fX11_isYear a6 h5) = 0) (some ((-2), h5)) (br ((fX11_isYear a7 h5) = 0) (some ((-2), h5)) (br (a6 ≤ a7) (br (1 ≤ (fX3_numbersLeft h5)) (lb (gN h5 5) (fun z6 => lb (nw h5 5 13) (fun h7 => bd (fX5_init z6 a1 a2 a3 a4 a5 h7) (fun r8 h9 => bd (fX5_setYears z6 a6 a6 a7 (gI h9 11 0 11) h9) (fun r10 h11 => gd (a8 = 0 ∨ a8 = 1) (lb (sI h11 5 z6 9 a8) (fun h13 => bd (fX3_enter z6 h13) (fun r14 h15 => some (r14, h15))))))))) (some ((-3), h5))) (some ((-2), h5)))))) (fun j3 => br (a1 = 1) (j3 (fX3_isPlot a2 h2) h2) (j3 (fX4_isHousehold a2 h2) h2)))))
set_option maxRecDepth 20000 in
theorem tX11_right {X : Cz} {a1 : Int32} {a2 : Int32} {a3 : Int32} {a4 : Int32} {a5 : Int32} {a6 : Int32} {a7 : Int32} {a8 : Int32} {h hE : Hp} {rE : Int32} (hF : fX11_right a1 a2 a3 a4 a5 a6 a7 a8 h = some (rE, hE)) : Ct X mX11_right true [zr 11 0, zi a1, zi a2, zi a3, zi a4, zi a5, zi a6, zi a7, zi a8] h (some (zi rE)) hE := by
  refine Ct_of (by decide) (Nat.le_of_ble_eq_true rfl) (ls := [(0, zr 11 0), (1, zi a1), (2, zi a2), (3, zi a3), (4, zi a4), (5, zi a5), (6, zi a6), (7, zi a7), (8, zi a8)]) rfl ?_
  unfold fX11_right at hF
  refine v_iload_n (j := 1) dX11_right_0 rfl ?_
  refine v_iconst (v := 0) dX11_right_1 (by decide) ?_
  refine v_iconst (v := 3) dX11_right_2 (by decide) ?_
  refine v_cS (hm := h) (av := [zi a1, zi 0, zi 3]) (st := []) (stn := [zi (fX11_isWithin a1 0 3 h)]) (tX11_isWithin a1 0 3 h) lcX11_isWithin mlX11_96 sxX11_isWithin rfl ⟨by decide, by decide⟩ (Nat.le_of_ble_eq_true rfl) dX11_right_3 rfl rfl ?_
  refine v_if_eq dX11_right_6 (by decide : _ = ((24 : Nat) : Int)) (fun q => ?_) (fun q => ?_)
  · replace hF := brT q hF
    refine v_bipush (v := (-2)) dX11_right_24 (by decide) ?_
    obtain ⟨rfl, rfl⟩ := ret_use hF
    exact v_iret rfl dX11_right_26
  · replace hF := brF q hF
    refine v_aload_n (j := 0) dX11_right_9 rfl ?_
    refine v_getL (c := 11) rfl rfl rfl ly11_0 cz11 flX11_10 dX11_right_10 ?_
    refine v_iload_n (j := 3) dX11_right_13 rfl ?_
    refine v_iload (j := 4) dX11_right_14 rfl ?_
    refine v_iload (j := 5) dX11_right_16 rfl ?_
    replace hF := bd_use hF
    obtain ⟨r1, h2, er1, hF⟩ := hF
    refine v_cV (hm := h2) (av := [zi a3, zi a4, zi a5]) (st := []) (stn := [zi r1]) (tX1_hasRun er1) lcX1_hasRun mlX11_179 imX1_hasRun seX1_hasRun rfl rfl rfl rfl ⟨by decide, by decide⟩ (Nat.le_of_ble_eq_true rfl) dX11_right_18 rfl rfl ?_
    clear er1
    refine v_if_ne dX11_right_21 (by decide : _ = ((27 : Nat) : Int)) (fun q => ?_) (fun q => ?_)
    · replace hF := brF q hF
      refine v_iload_n (j := 1) dX11_right_27 rfl ?_
      refine v_iconst (v := 1) dX11_right_28 (by decide) ?_
      replace hF := lb_ex hF
      obtain ⟨j3, ej3, hF⟩ := hF
      have j3V : ∀ (x4 : Int32) (h5 : Hp), j3 x4 h5 = some (rE, hE) → V X mX11_right true h 51 [(0, zr 11 0), (1, zi a1), (2, zi a2), (3, zi a3), (4, zi a4), (5, zi a5), (6, zi a6), (7, zi a7), (8, zi a8)] [zi x4] h5 (some (zi rE)) hE := by
        intro x4 h5 hF
        subst ej3
        refine v_istore (ls' := [(9, zi x4), (0, zr 11 0), (1, zi a1), (2, zi a2), (3, zi a3), (4, zi a4), (5, zi a5), (6, zi a6), (7, zi a7), (8, zi a8)]) dX11_right_51 (by decide) rfl ?_
        refine v_iload (j := 0) dX11_right_53 rfl ?_
        refine v_if_eq dX11_right_55 (by decide : _ = ((81 : Nat) : Int)) (fun q => ?_) (fun q => ?_)
        · replace hF := brT q hF
          refine v_bipush (v := (-2)) dX11_right_81 (by decide) ?_
          obtain ⟨rfl, rfl⟩ := ret_use hF
          exact v_iret rfl dX11_right_83
        · replace hF := brF q hF
          refine v_iload (j := 7) dX11_right_58 rfl ?_
          refine v_cS (hm := h5) (av := [zi a6]) (st := []) (stn := [zi (fX11_isYear a6 h5)]) (tX11_isYear a6 h5) lcX11_isYear mlX11_176 sxX11_isYear rfl ⟨by decide, by decide⟩ (Nat.le_of_ble_eq_true rfl) dX11_right_60 rfl rfl ?_
          refine v_if_eq dX11_right_63 (by decide : _ = ((81 : Nat) : Int)) (fun q => ?_) (fun q => ?_)
          · replace hF := brT q hF
            refine v_bipush (v := (-2)) dX11_right_81 (by decide) ?_
            obtain ⟨rfl, rfl⟩ := ret_use hF
            exact v_iret rfl dX11_right_83
          · replace hF := brF q hF
            refine v_iload (j := 8) dX11_right_66 rfl ?_
            refine v_cS (hm := h5) (av := [zi a7]) (st := []) (stn := [zi (fX11_isYear a7 h5)]) (tX11_isYear a7 h5) lcX11_isYear mlX11_176 sxX11_isYear rfl ⟨by decide, by decide⟩ (Nat.le_of_ble_eq_true rfl) dX11_right_68 rfl rfl ?_
            refine v_if_eq dX11_right_71 (by decide : _ = ((81 : Nat) : Int)) (fun q => ?_) (fun q => ?_)
            · replace hF := brT q hF
              refine v_bipush (v := (-2)) dX11_right_81 (by decide) ?_
              obtain ⟨rfl, rfl⟩ := ret_use hF
              exact v_iret rfl dX11_right_83
            · replace hF := brF q hF
              refine v_iload (j := 7) dX11_right_74 rfl ?_
              refine v_iload (j := 8) dX11_right_76 rfl ?_
              refine v_icmp_le dX11_right_78 (by decide : _ = ((84 : Nat) : Int)) (fun q => ?_) (fun q => ?_)
              · replace hF := brT q hF
                refine v_aload_n (j := 1) dX11_right_84 rfl ?_
                refine v_getL (c := 11) rfl rfl rfl ly11_2 cz11 flX11_26 dX11_right_85 ?_
                refine v_cV (hm := h5) (av := []) (st := []) (stn := [zi (fX3_numbersLeft h5)]) (tX3_numbersLeft h5) lcX3_numbersLeft mlX11_150 imX3_numbersLeft seX3_numbersLeft rfl rfl rfl rfl ⟨by decide, by decide⟩ (Nat.le_of_ble_eq_true rfl) dX11_right_88 rfl rfl ?_
                refine v_iconst (v := 1) dX11_right_91 (by decide) ?_
                refine v_icmp_ge dX11_right_92 (by decide : _ = ((98 : Nat) : Int)) (fun q => ?_) (fun q => ?_)
                · replace hF := brT q hF
                  refine v_new (k := 5) (c := 5) rfl (by decide) rfl clX11_185 cz5 (Or.inr (by decide)) dX11_right_98 ?_
                  refine v_topr fun z6 ez6 => ?_
                  replace hF := lb_use ez6 hF
                  clear ez6
                  refine v_toph fun h7 eh7 => ?_
                  replace hF := lb_use eh7 hF
                  clear eh7
                  refine v_dup dX11_right_101 rfl ?_
                  refine v_iload_n (j := 2) dX11_right_102 rfl ?_
                  refine v_iload_n (j := 3) dX11_right_103 rfl ?_
                  refine v_iload_n (j := 4) dX11_right_104 rfl ?_
                  refine v_iload (j := 5) dX11_right_105 rfl ?_
                  refine v_iload (j := 6) dX11_right_107 rfl ?_
                  replace hF := bd_use hF
                  obtain ⟨r8, h9, er8, hF⟩ := hF
                  refine v_cI (hm := h9) (av := [zi a1, zi a2, zi a3, zi a4, zi a5]) (st := [zr 5 z6]) (stn := [zr 5 z6]) (tX5_init er8) lcX5_init mlX11_187 imX5_init rfl rfl rfl ⟨by decide, by decide⟩ (Nat.le_of_ble_eq_true rfl) dX11_right_109 rfl rfl ?_
                  clear er8
                  refine v_astore (ls' := [(10, zr 5 z6), (9, zi x4), (0, zr 11 0), (1, zi a1), (2, zi a2), (3, zi a3), (4, zi a4), (5, zi a5), (6, zi a6), (7, zi a7), (8, zi a8)]) dX11_right_112 (by decide) rfl ?_
                  refine v_aload (j := 0) dX11_right_114 rfl ?_
                  refine v_iload (j := 8) dX11_right_116 rfl ?_
                  refine v_iload (j := 8) dX11_right_118 rfl ?_
                  refine v_iload (j := 9) dX11_right_120 rfl ?_
                  refine v_aload_n (j := 2) dX11_right_122 rfl ?_
                  refine v_getI (c := 11) rfl (Or.inl rfl) cz11 flX11_111 dX11_right_123 ?_
                  replace hF := bd_use hF
                  obtain ⟨r10, h11, er10, hF⟩ := hF
                  refine v_cV (hm := h11) (av := [zi a6, zi a6, zi a7, zi (gI h9 11 0 11)]) (st := []) (stn := []) (tX5_setYears er10) lcX5_setYears mlX11_190 imX5_setYears seX5_setYears rfl rfl rfl rfl ⟨by decide, by decide⟩ (Nat.le_of_ble_eq_true rfl) dX11_right_126 rfl rfl ?_
                  clear er10
                  refine v_aload (j := 0) dX11_right_129 rfl ?_
                  refine v_iload (j := 10) dX11_right_131 rfl ?_
                  replace hF := gd_use hF
                  obtain ⟨q12, hF⟩ := hF
                  refine v_putZ (c := 5) rfl rfl (Nat.le_of_ble_eq_true rfl) cz5 flX11_194 q12 dX11_right_133 ?_
                  refine v_toph fun h13 eh13 => ?_
                  replace hF := lb_use eh13 hF
                  clear eh13
                  refine v_aload_n (j := 2) dX11_right_136 rfl ?_
                  refine v_getL (c := 11) rfl rfl rfl ly11_2 cz11 flX11_26 dX11_right_137 ?_
                  refine v_aload (j := 0) dX11_right_140 rfl ?_
                  replace hF := bd_use hF
                  obtain ⟨r14, h15, er14, hF⟩ := hF
                  refine v_cV (hm := h15) (av := [zr 5 z6]) (st := []) (stn := [zi r14]) (tX3_enter er14) lcX3_enter mlX11_197 imX3_enter seX3_enter rfl rfl rfl rfl ⟨by decide, by decide⟩ (Nat.le_of_ble_eq_true rfl) dX11_right_142 rfl rfl ?_
                  clear er14
                  obtain ⟨rfl, rfl⟩ := ret_use hF
                  exact v_iret rfl dX11_right_145
                · replace hF := brF q hF
                  refine v_bipush (v := (-3)) dX11_right_95 (by decide) ?_
                  obtain ⟨rfl, rfl⟩ := ret_use hF
                  exact v_iret rfl dX11_right_97
              · replace hF := brF q hF
                refine v_bipush (v := (-2)) dX11_right_81 (by decide) ?_
                obtain ⟨rfl, rfl⟩ := ret_use hF
                exact v_iret rfl dX11_right_83
      clear ej3
      refine v_icmp_ne dX11_right_29 (by decide : _ = ((43 : Nat) : Int)) (fun q => ?_) (fun q => ?_)
      · replace hF := brF q hF
        refine v_aload_n (j := 0) dX11_right_43 rfl ?_
        refine v_getL (c := 11) rfl rfl rfl ly11_1 cz11 flX11_19 dX11_right_44 ?_
        refine v_iload_n (j := 2) dX11_right_47 rfl ?_
        refine v_cV (hm := h2) (av := [zi a2]) (st := []) (stn := [zi (fX4_isHousehold a2 h2)]) (tX4_isHousehold a2 h2) lcX4_isHousehold mlX11_182 imX4_isHousehold seX4_isHousehold rfl rfl rfl rfl ⟨by decide, by decide⟩ (Nat.le_of_ble_eq_true rfl) dX11_right_48 rfl rfl ?_
        exact j3V (fX4_isHousehold a2 h2) h2 hF
      · replace hF := brT (Decidable.not_not.mp q) hF
        refine v_aload_n (j := 0) dX11_right_32 rfl ?_
        refine v_getL (c := 11) rfl rfl rfl ly11_2 cz11 flX11_26 dX11_right_33 ?_
        refine v_iload_n (j := 2) dX11_right_36 rfl ?_
        refine v_cV (hm := h2) (av := [zi a2]) (st := []) (stn := [zi (fX3_isPlot a2 h2)]) (tX3_isPlot a2 h2) lcX3_isPlot mlX11_164 imX3_isPlot seX3_isPlot rfl rfl rfl rfl ⟨by decide, by decide⟩ (Nat.le_of_ble_eq_true rfl) dX11_right_37 rfl rfl ?_
        refine v_goto (tgt := 51) dX11_right_40 (by decide) ?_
        exact j3V (fX3_isPlot a2 h2) h2 hF
    · replace hF := brT (Decidable.not_not.mp q) hF
      refine v_bipush (v := (-2)) dX11_right_24 (by decide) ?_
      obtain ⟨rfl, rfl⟩ := ret_use hF
      exact v_iret rfl dX11_right_26
theorem dX11_ends_0 : decode cX11_ends 0 = .ok (.aload_n 0, 1) := by decide +kernel
theorem dX11_ends_1 : decode cX11_ends 1 = .ok (.getfield 26, 3) := by decide +kernel
theorem dX11_ends_4 : decode cX11_ends 4 = .ok (.iload_n 1, 1) := by decide +kernel
theorem dX11_ends_5 : decode cX11_ends 5 = .ok (.invokevirtual 201, 3) := by decide +kernel
theorem dX11_ends_8 : decode cX11_ends 8 = .ok (.astore_n 2, 1) := by decide +kernel
theorem dX11_ends_9 : decode cX11_ends 9 = .ok (.aload_n 2, 1) := by decide +kernel
theorem dX11_ends_10 : decode cX11_ends 10 = .ok (.ifnull 14, 3) := by decide +kernel
theorem dX11_ends_13 : decode cX11_ends 13 = .ok (.aload_n 2, 1) := by decide +kernel
theorem dX11_ends_14 : decode cX11_ends 14 = .ok (.getfield 204, 3) := by decide +kernel
theorem dX11_ends_17 : decode cX11_ends 17 = .ok (.aload_n 0, 1) := by decide +kernel
theorem dX11_ends_18 : decode cX11_ends 18 = .ok (.getfield 111, 3) := by decide +kernel
theorem dX11_ends_21 : decode cX11_ends 21 = .ok (.if_icmp .ge 5, 3) := by decide +kernel
theorem dX11_ends_24 : decode cX11_ends 24 = .ok (.iconst 0, 1) := by decide +kernel
theorem dX11_ends_25 : decode cX11_ends 25 = .ok (.ireturn, 1) := by decide +kernel
theorem dX11_ends_26 : decode cX11_ends 26 = .ok (.aload_n 2, 1) := by decide +kernel
theorem dX11_ends_27 : decode cX11_ends 27 = .ok (.aload_n 0, 1) := by decide +kernel
theorem dX11_ends_28 : decode cX11_ends 28 = .ok (.getfield 111, 3) := by decide +kernel
theorem dX11_ends_31 : decode cX11_ends 31 = .ok (.invokevirtual 207, 3) := by decide +kernel
theorem dX11_ends_34 : decode cX11_ends 34 = .ok (.iconst 1, 1) := by decide +kernel
theorem dX11_ends_35 : decode cX11_ends 35 = .ok (.ireturn, 1) := by decide +kernel
def fX11_ends (a1 : Int32) (h : Hp) : Option (Int32 × Hp) := bd (fX3_find a1 h) (fun r1 h2 => mt r1 (some (0, h2)) (fun z3 => br ((gI h2 11 0 11) ≤ (gI h2 5 z3 7)) (bd (fX5_endAhead z3 (gI h2 11 0 11) h2) (fun r4 h5 => some (1, h5))) (some (0, h2))))
set_option maxRecDepth 20000 in
theorem tX11_ends {X : Cz} {a1 : Int32} {h hE : Hp} {rE : Int32} (hF : fX11_ends a1 h = some (rE, hE)) : Ct X mX11_ends true [zr 11 0, zi a1] h (some (zi rE)) hE := by
  refine Ct_of (by decide) (Nat.le_of_ble_eq_true rfl) (ls := [(0, zr 11 0), (1, zi a1)]) rfl ?_
  unfold fX11_ends at hF
  refine v_aload_n (j := 0) dX11_ends_0 rfl ?_
  refine v_getL (c := 11) rfl rfl rfl ly11_2 cz11 flX11_26 dX11_ends_1 ?_
  refine v_iload_n (j := 1) dX11_ends_4 rfl ?_
  replace hF := bd_use hF
  obtain ⟨r1, h2, er1, hF⟩ := hF
  refine v_cV (hm := h2) (av := [zi a1]) (st := []) (stn := [zq 5 r1]) (tX3_find er1) lcX3_find mlX11_201 imX3_find seX3_find rfl rfl rfl rfl ⟨by decide, by decide⟩ (Nat.le_of_ble_eq_true rfl) dX11_ends_5 rfl rfl ?_
  clear er1
  refine v_astore_n (ls' := [(2, zq 5 r1), (0, zr 11 0), (1, zi a1)]) dX11_ends_8 (by decide) rfl ?_
  refine v_aload_n (j := 0) dX11_ends_9 rfl ?_
  cases r1 with
  | none =>
    replace hF := mtN hF
    refine v_ifnullN (tgt := 24) dX11_ends_10 (by decide) ?_
    refine v_iconst (v := 0) dX11_ends_24 (by decide) ?_
    obtain ⟨rfl, rfl⟩ := ret_use hF
    exact v_zret rfl (Or.inl rfl) dX11_ends_25
  | some z3 =>
    replace hF := mtS hF
    refine v_ifnullS (q := (5, z3)) (tgt := 24) dX11_ends_10 (by decide) ?_
    refine v_aload_n (j := 0) dX11_ends_13 rfl ?_
    refine v_getI (c := 5) rfl (Or.inl rfl) cz5 flX11_204 dX11_ends_14 ?_
    refine v_aload_n (j := 1) dX11_ends_17 rfl ?_
    refine v_getI (c := 11) rfl (Or.inl rfl) cz11 flX11_111 dX11_ends_18 ?_
    refine v_icmp_ge dX11_ends_21 (by decide : _ = ((26 : Nat) : Int)) (fun q => ?_) (fun q => ?_)
    · replace hF := brT q hF
      refine v_aload_n (j := 0) dX11_ends_26 rfl ?_
      refine v_aload_n (j := 1) dX11_ends_27 rfl ?_
      refine v_getI (c := 11) rfl (Or.inl rfl) cz11 flX11_111 dX11_ends_28 ?_
      replace hF := bd_use hF
      obtain ⟨r4, h5, er4, hF⟩ := hF
      refine v_cV (hm := h5) (av := [zi (gI h2 11 0 11)]) (st := []) (stn := []) (tX5_endAhead er4) lcX5_endAhead mlX11_207 imX5_endAhead seX5_endAhead rfl rfl rfl rfl ⟨by decide, by decide⟩ (Nat.le_of_ble_eq_true rfl) dX11_ends_31 rfl rfl ?_
      clear er4
      refine v_iconst (v := 1) dX11_ends_34 (by decide) ?_
      obtain ⟨rfl, rfl⟩ := ret_use hF
      exact v_zret rfl (Or.inr rfl) dX11_ends_35
    · replace hF := brF q hF
      refine v_iconst (v := 0) dX11_ends_24 (by decide) ?_
      obtain ⟨rfl, rfl⟩ := ret_use hF
      exact v_zret rfl (Or.inl rfl) dX11_ends_25
theorem dX11_rightOf_0 : decode cX11_rightOf 0 = .ok (.aload_n 0, 1) := by decide +kernel
theorem dX11_rightOf_1 : decode cX11_rightOf 1 = .ok (.getfield 26, 3) := by decide +kernel
theorem dX11_rightOf_4 : decode cX11_rightOf 4 = .ok (.iload_n 1, 1) := by decide +kernel
theorem dX11_rightOf_5 : decode cX11_rightOf 5 = .ok (.invokevirtual 201, 3) := by decide +kernel
theorem dX11_rightOf_8 : decode cX11_rightOf 8 = .ok (.astore_n 3, 1) := by decide +kernel
theorem dX11_rightOf_9 : decode cX11_rightOf 9 = .ok (.aload_n 3, 1) := by decide +kernel
theorem dX11_rightOf_10 : decode cX11_rightOf 10 = .ok (.ifnonnull 8, 3) := by decide +kernel
theorem dX11_rightOf_13 : decode cX11_rightOf 13 = .ok (.bipush (-2), 2) := by decide +kernel
theorem dX11_rightOf_15 : decode cX11_rightOf 15 = .ok (.goto 8, 3) := by decide +kernel
theorem dX11_rightOf_18 : decode cX11_rightOf 18 = .ok (.aload_n 3, 1) := by decide +kernel
theorem dX11_rightOf_19 : decode cX11_rightOf 19 = .ok (.iload_n 2, 1) := by decide +kernel
theorem dX11_rightOf_20 : decode cX11_rightOf 20 = .ok (.invokevirtual 210, 3) := by decide +kernel
theorem dX11_rightOf_23 : decode cX11_rightOf 23 = .ok (.ireturn, 1) := by decide +kernel
def fX11_rightOf (a1 : Int32) (a2 : Int32) (h : Hp) : Option (Int32 × Hp) := bd (fX3_find a1 h) (fun r1 h2 => mt r1 (some ((-2), h2)) (fun z3 => some (fX5_detail z3 a2 h2, h2)))
set_option maxRecDepth 20000 in
theorem tX11_rightOf {X : Cz} {a1 : Int32} {a2 : Int32} {h hE : Hp} {rE : Int32} (hF : fX11_rightOf a1 a2 h = some (rE, hE)) : Ct X mX11_rightOf true [zr 11 0, zi a1, zi a2] h (some (zi rE)) hE := by
  refine Ct_of (by decide) (Nat.le_of_ble_eq_true rfl) (ls := [(0, zr 11 0), (1, zi a1), (2, zi a2)]) rfl ?_
  unfold fX11_rightOf at hF
  refine v_aload_n (j := 0) dX11_rightOf_0 rfl ?_
  refine v_getL (c := 11) rfl rfl rfl ly11_2 cz11 flX11_26 dX11_rightOf_1 ?_
  refine v_iload_n (j := 1) dX11_rightOf_4 rfl ?_
  replace hF := bd_use hF
  obtain ⟨r1, h2, er1, hF⟩ := hF
  refine v_cV (hm := h2) (av := [zi a1]) (st := []) (stn := [zq 5 r1]) (tX3_find er1) lcX3_find mlX11_201 imX3_find seX3_find rfl rfl rfl rfl ⟨by decide, by decide⟩ (Nat.le_of_ble_eq_true rfl) dX11_rightOf_5 rfl rfl ?_
  clear er1
  refine v_astore_n (ls' := [(3, zq 5 r1), (0, zr 11 0), (1, zi a1), (2, zi a2)]) dX11_rightOf_8 (by decide) rfl ?_
  refine v_aload_n (j := 0) dX11_rightOf_9 rfl ?_
  cases r1 with
  | none =>
    replace hF := mtN hF
    refine v_ifnonnullN (tgt := 18) dX11_rightOf_10 (by decide) ?_
    refine v_bipush (v := (-2)) dX11_rightOf_13 (by decide) ?_
    refine v_goto (tgt := 23) dX11_rightOf_15 (by decide) ?_
    obtain ⟨rfl, rfl⟩ := ret_use hF
    exact v_iret rfl dX11_rightOf_23
  | some z3 =>
    replace hF := mtS hF
    refine v_ifnonnullS (q := (5, z3)) (tgt := 18) dX11_rightOf_10 (by decide) ?_
    refine v_aload_n (j := 0) dX11_rightOf_18 rfl ?_
    refine v_iload_n (j := 3) dX11_rightOf_19 rfl ?_
    refine v_cV (hm := h2) (av := [zi a2]) (st := []) (stn := [zi (fX5_detail z3 a2 h2)]) (tX5_detail z3 a2 h2) lcX5_detail mlX11_210 imX5_detail seX5_detail rfl rfl rfl rfl ⟨by decide, by decide⟩ (Nat.le_of_ble_eq_true rfl) dX11_rightOf_20 rfl rfl ?_
    obtain ⟨rfl, rfl⟩ := ret_use hF
    exact v_iret rfl dX11_rightOf_23
theorem dX11_unit_0 : decode cX11_unit 0 = .ok (.aload_n 0, 1) := by decide +kernel
theorem dX11_unit_1 : decode cX11_unit 1 = .ok (.getfield 10, 3) := by decide +kernel
theorem dX11_unit_4 : decode cX11_unit 4 = .ok (.iload_n 1, 1) := by decide +kernel
theorem dX11_unit_5 : decode cX11_unit 5 = .ok (.iload_n 2, 1) := by decide +kernel
theorem dX11_unit_6 : decode cX11_unit 6 = .ok (.invokevirtual 214, 3) := by decide +kernel
theorem dX11_unit_9 : decode cX11_unit 9 = .ok (.ifCond .ne 6, 3) := by decide +kernel
theorem dX11_unit_12 : decode cX11_unit 12 = .ok (.bipush (-2), 2) := by decide +kernel
theorem dX11_unit_14 : decode cX11_unit 14 = .ok (.ireturn, 1) := by decide +kernel
theorem dX11_unit_15 : decode cX11_unit 15 = .ok (.iload_n 1, 1) := by decide +kernel
theorem dX11_unit_16 : decode cX11_unit 16 = .ok (.bipush 32, 2) := by decide +kernel
theorem dX11_unit_18 : decode cX11_unit 18 = .ok (.imul, 1) := by decide +kernel
theorem dX11_unit_19 : decode cX11_unit 19 = .ok (.iload_n 2, 1) := by decide +kernel
theorem dX11_unit_20 : decode cX11_unit 20 = .ok (.iadd, 1) := by decide +kernel
theorem dX11_unit_21 : decode cX11_unit 21 = .ok (.istore 4, 2) := by decide +kernel
theorem dX11_unit_23 : decode cX11_unit 23 = .ok (.iload_n 3, 1) := by decide +kernel
theorem dX11_unit_24 : decode cX11_unit 24 = .ok (.tableswitch 69 0 2 #[28, 39, 50], 28) := by decide +kernel
theorem dX11_unit_52 : decode cX11_unit 52 = .ok (.aload_n 0, 1) := by decide +kernel
theorem dX11_unit_53 : decode cX11_unit 53 = .ok (.getfield 10, 3) := by decide +kernel
theorem dX11_unit_56 : decode cX11_unit 56 = .ok (.getfield 218, 3) := by decide +kernel
theorem dX11_unit_59 : decode cX11_unit 59 = .ok (.iload 4, 2) := by decide +kernel
theorem dX11_unit_61 : decode cX11_unit 61 = .ok (.iaload, 1) := by decide +kernel
theorem dX11_unit_62 : decode cX11_unit 62 = .ok (.ireturn, 1) := by decide +kernel
theorem dX11_unit_63 : decode cX11_unit 63 = .ok (.aload_n 0, 1) := by decide +kernel
theorem dX11_unit_64 : decode cX11_unit 64 = .ok (.getfield 10, 3) := by decide +kernel
theorem dX11_unit_67 : decode cX11_unit 67 = .ok (.getfield 221, 3) := by decide +kernel
theorem dX11_unit_70 : decode cX11_unit 70 = .ok (.iload 4, 2) := by decide +kernel
theorem dX11_unit_72 : decode cX11_unit 72 = .ok (.iaload, 1) := by decide +kernel
theorem dX11_unit_73 : decode cX11_unit 73 = .ok (.ireturn, 1) := by decide +kernel
theorem dX11_unit_74 : decode cX11_unit 74 = .ok (.aload_n 0, 1) := by decide +kernel
theorem dX11_unit_75 : decode cX11_unit 75 = .ok (.getfield 10, 3) := by decide +kernel
theorem dX11_unit_78 : decode cX11_unit 78 = .ok (.getfield 221, 3) := by decide +kernel
theorem dX11_unit_81 : decode cX11_unit 81 = .ok (.iload 4, 2) := by decide +kernel
theorem dX11_unit_83 : decode cX11_unit 83 = .ok (.iaload, 1) := by decide +kernel
theorem dX11_unit_84 : decode cX11_unit 84 = .ok (.ifCond .ne 7, 3) := by decide +kernel
theorem dX11_unit_87 : decode cX11_unit 87 = .ok (.iconst 1, 1) := by decide +kernel
theorem dX11_unit_88 : decode cX11_unit 88 = .ok (.goto 4, 3) := by decide +kernel
theorem dX11_unit_91 : decode cX11_unit 91 = .ok (.iconst 0, 1) := by decide +kernel
theorem dX11_unit_92 : decode cX11_unit 92 = .ok (.ireturn, 1) := by decide +kernel
theorem dX11_unit_93 : decode cX11_unit 93 = .ok (.bipush (-2), 2) := by decide +kernel
theorem dX11_unit_95 : decode cX11_unit 95 = .ok (.ireturn, 1) := by decide +kernel
def fX11_unit (a1 : Int32) (a2 : Int32) (a3 : Int32) (h : Hp) : Option (Int32 × Hp) := bd (fX1_hasUnit a1 a2 h) (fun r1 h2 => br (r1 = 0) (some ((-2), h2)) (lb ((a1 * 32) + a2) (fun v3 => br (a3 = 0) (gd (ib v3 256) (some (gI h2 30 0 (ix v3), h2))) (br (a3 = 1) (gd (ib v3 256) (some (gI h2 31 0 (ix v3), h2))) (br (a3 = 2) (gd (ib v3 256) (br ((gI h2 31 0 (ix v3)) = 0) (some (1, h2)) (some (0, h2)))) (some ((-2), h2)))))))
set_option maxRecDepth 20000 in
theorem tX11_unit {X : Cz} {a1 : Int32} {a2 : Int32} {a3 : Int32} {h hE : Hp} {rE : Int32} (hF : fX11_unit a1 a2 a3 h = some (rE, hE)) : Ct X mX11_unit true [zr 11 0, zi a1, zi a2, zi a3] h (some (zi rE)) hE := by
  refine Ct_of (by decide) (Nat.le_of_ble_eq_true rfl) (ls := [(0, zr 11 0), (1, zi a1), (2, zi a2), (3, zi a3)]) rfl ?_
  unfold fX11_unit at hF
  refine v_aload_n (j := 0) dX11_unit_0 rfl ?_
  refine v_getL (c := 11) rfl rfl rfl ly11_0 cz11 flX11_10 dX11_unit_1 ?_
  refine v_iload_n (j := 1) dX11_unit_4 rfl ?_
  refine v_iload_n (j := 2) dX11_unit_5 rfl ?_
  replace hF := bd_use hF
  obtain ⟨r1, h2, er1, hF⟩ := hF
  refine v_cV (hm := h2) (av := [zi a1, zi a2]) (st := []) (stn := [zi r1]) (tX1_hasUnit er1) lcX1_hasUnit mlX11_214 imX1_hasUnit seX1_hasUnit rfl rfl rfl rfl ⟨by decide, by decide⟩ (Nat.le_of_ble_eq_true rfl) dX11_unit_6 rfl rfl ?_
  clear er1
  refine v_if_ne dX11_unit_9 (by decide : _ = ((15 : Nat) : Int)) (fun q => ?_) (fun q => ?_)
  · replace hF := brF q hF
    refine v_iload_n (j := 1) dX11_unit_15 rfl ?_
    refine v_bipush (v := 32) dX11_unit_16 (by decide) ?_
    refine v_imul dX11_unit_18 ?_
    refine v_iload_n (j := 2) dX11_unit_19 rfl ?_
    refine v_iadd dX11_unit_20 ?_
    refine v_topi fun v3 ev3 => ?_
    replace hF := lb_use ev3 hF
    clear ev3
    refine v_istore (ls' := [(4, zi v3), (0, zr 11 0), (1, zi a1), (2, zi a2), (3, zi a3)]) dX11_unit_21 (by decide) rfl ?_
    refine v_iload_n (j := 4) dX11_unit_23 rfl ?_
    by_cases q0 : a3 = 0
    · replace hF := brT q0 hF
      subst q0
      refine v_tblIn (tgt := 52) dX11_unit_24 (by decide) (by decide) rfl (by decide) ?_
      refine v_aload_n (j := 1) dX11_unit_52 rfl ?_
      refine v_getL (c := 11) rfl rfl rfl ly11_0 cz11 flX11_10 dX11_unit_53 ?_
      refine v_getL (c := 1) rfl rfl rfl ly1_12 cz1 flX11_218 dX11_unit_56 ?_
      refine v_iload (j := 0) dX11_unit_59 rfl ?_
      replace hF := gd_use hF
      obtain ⟨q4, hF⟩ := hF
      refine v_iald rfl q4 dX11_unit_61 ?_
      obtain ⟨rfl, rfl⟩ := ret_use hF
      exact v_iret rfl dX11_unit_62
    replace hF := brF q0 hF
    by_cases q1 : a3 = 1
    · replace hF := brT q1 hF
      subst q1
      refine v_tblIn (tgt := 63) dX11_unit_24 (by decide) (by decide) rfl (by decide) ?_
      refine v_aload_n (j := 1) dX11_unit_63 rfl ?_
      refine v_getL (c := 11) rfl rfl rfl ly11_0 cz11 flX11_10 dX11_unit_64 ?_
      refine v_getL (c := 1) rfl rfl rfl ly1_13 cz1 flX11_221 dX11_unit_67 ?_
      refine v_iload (j := 0) dX11_unit_70 rfl ?_
      replace hF := gd_use hF
      obtain ⟨q5, hF⟩ := hF
      refine v_iald rfl q5 dX11_unit_72 ?_
      obtain ⟨rfl, rfl⟩ := ret_use hF
      exact v_iret rfl dX11_unit_73
    replace hF := brF q1 hF
    by_cases q2 : a3 = 2
    · replace hF := brT q2 hF
      subst q2
      refine v_tblIn (tgt := 74) dX11_unit_24 (by decide) (by decide) rfl (by decide) ?_
      refine v_aload_n (j := 1) dX11_unit_74 rfl ?_
      refine v_getL (c := 11) rfl rfl rfl ly11_0 cz11 flX11_10 dX11_unit_75 ?_
      refine v_getL (c := 1) rfl rfl rfl ly1_13 cz1 flX11_221 dX11_unit_78 ?_
      refine v_iload (j := 0) dX11_unit_81 rfl ?_
      replace hF := gd_use hF
      obtain ⟨q6, hF⟩ := hF
      refine v_iald rfl q6 dX11_unit_83 ?_
      refine v_if_ne dX11_unit_84 (by decide : _ = ((91 : Nat) : Int)) (fun q => ?_) (fun q => ?_)
      · replace hF := brF q hF
        refine v_iconst (v := 0) dX11_unit_91 (by decide) ?_
        obtain ⟨rfl, rfl⟩ := ret_use hF
        exact v_iret rfl dX11_unit_92
      · replace hF := brT (Decidable.not_not.mp q) hF
        refine v_iconst (v := 1) dX11_unit_87 (by decide) ?_
        refine v_goto (tgt := 92) dX11_unit_88 (by decide) ?_
        obtain ⟨rfl, rfl⟩ := ret_use hF
        exact v_iret rfl dX11_unit_92
    replace hF := brF q2 hF
    have nq0 := lv_neT (a := 0) q0 rfl
    have nq1 := lv_neT (a := 1) q1 rfl
    have nq2 := lv_neT (a := 2) q2 rfl
    refine v_tblOut (tgt := 93) dX11_unit_24 (by omega) (by decide) ?_
    refine v_bipush (v := (-2)) dX11_unit_93 (by decide) ?_
    obtain ⟨rfl, rfl⟩ := ret_use hF
    exact v_iret rfl dX11_unit_95
  · replace hF := brT (Decidable.not_not.mp q) hF
    refine v_bipush (v := (-2)) dX11_unit_12 (by decide) ?_
    obtain ⟨rfl, rfl⟩ := ret_use hF
    exact v_iret rfl dX11_unit_14
theorem dX11_worth_0 : decode cX11_worth 0 = .ok (.aload_n 0, 1) := by decide +kernel
theorem dX11_worth_1 : decode cX11_worth 1 = .ok (.getfield 19, 3) := by decide +kernel
theorem dX11_worth_4 : decode cX11_worth 4 = .ok (.iload_n 1, 1) := by decide +kernel
theorem dX11_worth_5 : decode cX11_worth 5 = .ok (.invokevirtual 124, 3) := by decide +kernel
theorem dX11_worth_8 : decode cX11_worth 8 = .ok (.astore 4, 2) := by decide +kernel
theorem dX11_worth_10 : decode cX11_worth 10 = .ok (.aload 4, 2) := by decide +kernel
theorem dX11_worth_12 : decode cX11_worth 12 = .ok (.ifnull 20, 3) := by decide +kernel
theorem dX11_worth_15 : decode cX11_worth 15 = .ok (.aload_n 0, 1) := by decide +kernel
theorem dX11_worth_16 : decode cX11_worth 16 = .ok (.getfield 10, 3) := by decide +kernel
theorem dX11_worth_19 : decode cX11_worth 19 = .ok (.iload_n 2, 1) := by decide +kernel
theorem dX11_worth_20 : decode cX11_worth 20 = .ok (.iload_n 3, 1) := by decide +kernel
theorem dX11_worth_21 : decode cX11_worth 21 = .ok (.aload 4, 2) := by decide +kernel
theorem dX11_worth_23 : decode cX11_worth 23 = .ok (.getfield 137, 3) := by decide +kernel
theorem dX11_worth_26 : decode cX11_worth 26 = .ok (.invokevirtual 179, 3) := by decide +kernel
theorem dX11_worth_29 : decode cX11_worth 29 = .ok (.ifCond .ne 6, 3) := by decide +kernel
theorem dX11_worth_32 : decode cX11_worth 32 = .ok (.bipush (-2), 2) := by decide +kernel
theorem dX11_worth_34 : decode cX11_worth 34 = .ok (.ireturn, 1) := by decide +kernel
theorem dX11_worth_35 : decode cX11_worth 35 = .ok (.aload_n 0, 1) := by decide +kernel
theorem dX11_worth_36 : decode cX11_worth 36 = .ok (.getfield 10, 3) := by decide +kernel
theorem dX11_worth_39 : decode cX11_worth 39 = .ok (.iload_n 2, 1) := by decide +kernel
theorem dX11_worth_40 : decode cX11_worth 40 = .ok (.bipush 32, 2) := by decide +kernel
theorem dX11_worth_42 : decode cX11_worth 42 = .ok (.imul, 1) := by decide +kernel
theorem dX11_worth_43 : decode cX11_worth 43 = .ok (.iload_n 3, 1) := by decide +kernel
theorem dX11_worth_44 : decode cX11_worth 44 = .ok (.iadd, 1) := by decide +kernel
theorem dX11_worth_45 : decode cX11_worth 45 = .ok (.aload 4, 2) := by decide +kernel
theorem dX11_worth_47 : decode cX11_worth 47 = .ok (.getfield 137, 3) := by decide +kernel
theorem dX11_worth_50 : decode cX11_worth 50 = .ok (.aload 4, 2) := by decide +kernel
theorem dX11_worth_52 : decode cX11_worth 52 = .ok (.getfield 140, 3) := by decide +kernel
theorem dX11_worth_55 : decode cX11_worth 55 = .ok (.invokevirtual 224, 3) := by decide +kernel
theorem dX11_worth_58 : decode cX11_worth 58 = .ok (.ireturn, 1) := by decide +kernel
def fX11_worth (a1 : Int32) (a2 : Int32) (a3 : Int32) (h : Hp) : Option (Int32 × Hp) := bd (fX4_find a1 h) (fun r1 h2 => mt r1 (some ((-2), h2)) (fun z3 => bd (fX1_hasRun a2 a3 (gI h2 2 z3 1) h2) (fun r4 h5 => br (r4 = 0) (some ((-2), h5)) (bd (fX1_worthOf ((a2 * 32) + a3) (gI h5 2 z3 1) (gI h5 2 z3 2) h5) (fun r6 h7 => some (r6, h7))))))
set_option maxRecDepth 20000 in
theorem tX11_worth {X : Cz} {a1 : Int32} {a2 : Int32} {a3 : Int32} {h hE : Hp} {rE : Int32} (hF : fX11_worth a1 a2 a3 h = some (rE, hE)) : Ct X mX11_worth true [zr 11 0, zi a1, zi a2, zi a3] h (some (zi rE)) hE := by
  refine Ct_of (by decide) (Nat.le_of_ble_eq_true rfl) (ls := [(0, zr 11 0), (1, zi a1), (2, zi a2), (3, zi a3)]) rfl ?_
  unfold fX11_worth at hF
  refine v_aload_n (j := 0) dX11_worth_0 rfl ?_
  refine v_getL (c := 11) rfl rfl rfl ly11_1 cz11 flX11_19 dX11_worth_1 ?_
  refine v_iload_n (j := 1) dX11_worth_4 rfl ?_
  replace hF := bd_use hF
  obtain ⟨r1, h2, er1, hF⟩ := hF
  refine v_cV (hm := h2) (av := [zi a1]) (st := []) (stn := [zq 2 r1]) (tX4_find er1) lcX4_find mlX11_124 imX4_find seX4_find rfl rfl rfl rfl ⟨by decide, by decide⟩ (Nat.le_of_ble_eq_true rfl) dX11_worth_5 rfl rfl ?_
  clear er1
  refine v_astore (ls' := [(4, zq 2 r1), (0, zr 11 0), (1, zi a1), (2, zi a2), (3, zi a3)]) dX11_worth_8 (by decide) rfl ?_
  refine v_aload (j := 0) dX11_worth_10 rfl ?_
  cases r1 with
  | none =>
    replace hF := mtN hF
    refine v_ifnullN (tgt := 32) dX11_worth_12 (by decide) ?_
    refine v_bipush (v := (-2)) dX11_worth_32 (by decide) ?_
    obtain ⟨rfl, rfl⟩ := ret_use hF
    exact v_iret rfl dX11_worth_34
  | some z3 =>
    replace hF := mtS hF
    refine v_ifnullS (q := (2, z3)) (tgt := 32) dX11_worth_12 (by decide) ?_
    refine v_aload_n (j := 1) dX11_worth_15 rfl ?_
    refine v_getL (c := 11) rfl rfl rfl ly11_0 cz11 flX11_10 dX11_worth_16 ?_
    refine v_iload_n (j := 3) dX11_worth_19 rfl ?_
    refine v_iload_n (j := 4) dX11_worth_20 rfl ?_
    refine v_aload (j := 0) dX11_worth_21 rfl ?_
    refine v_getI (c := 2) rfl (Or.inl rfl) cz2 flX11_137 dX11_worth_23 ?_
    replace hF := bd_use hF
    obtain ⟨r4, h5, er4, hF⟩ := hF
    refine v_cV (hm := h5) (av := [zi a2, zi a3, zi (gI h2 2 z3 1)]) (st := []) (stn := [zi r4]) (tX1_hasRun er4) lcX1_hasRun mlX11_179 imX1_hasRun seX1_hasRun rfl rfl rfl rfl ⟨by decide, by decide⟩ (Nat.le_of_ble_eq_true rfl) dX11_worth_26 rfl rfl ?_
    clear er4
    refine v_if_ne dX11_worth_29 (by decide : _ = ((35 : Nat) : Int)) (fun q => ?_) (fun q => ?_)
    · replace hF := brF q hF
      refine v_aload_n (j := 1) dX11_worth_35 rfl ?_
      refine v_getL (c := 11) rfl rfl rfl ly11_0 cz11 flX11_10 dX11_worth_36 ?_
      refine v_iload_n (j := 3) dX11_worth_39 rfl ?_
      refine v_bipush (v := 32) dX11_worth_40 (by decide) ?_
      refine v_imul dX11_worth_42 ?_
      refine v_iload_n (j := 4) dX11_worth_43 rfl ?_
      refine v_iadd dX11_worth_44 ?_
      refine v_aload (j := 0) dX11_worth_45 rfl ?_
      refine v_getI (c := 2) rfl (Or.inl rfl) cz2 flX11_137 dX11_worth_47 ?_
      refine v_aload (j := 0) dX11_worth_50 rfl ?_
      refine v_getI (c := 2) rfl (Or.inl rfl) cz2 flX11_140 dX11_worth_52 ?_
      replace hF := bd_use hF
      obtain ⟨r6, h7, er6, hF⟩ := hF
      refine v_cV (hm := h7) (av := [zi ((a2 * 32) + a3), zi (gI h5 2 z3 1), zi (gI h5 2 z3 2)]) (st := []) (stn := [zi r6]) (tX1_worthOf er6) lcX1_worthOf mlX11_224 imX1_worthOf seX1_worthOf rfl rfl rfl rfl ⟨by decide, by decide⟩ (Nat.le_of_ble_eq_true rfl) dX11_worth_55 rfl rfl ?_
      clear er6
      obtain ⟨rfl, rfl⟩ := ret_use hF
      exact v_iret rfl dX11_worth_58
    · replace hF := brT (Decidable.not_not.mp q) hF
      refine v_bipush (v := (-2)) dX11_worth_32 (by decide) ?_
      obtain ⟨rfl, rfl⟩ := ret_use hF
      exact v_iret rfl dX11_worth_34
theorem dX11_isAsked_0 : decode cX11_isAsked 0 = .ok (.aload_n 0, 1) := by decide +kernel
theorem dX11_isAsked_1 : decode cX11_isAsked 1 = .ok (.getfield 10, 3) := by decide +kernel
theorem dX11_isAsked_4 : decode cX11_isAsked 4 = .ok (.iload_n 1, 1) := by decide +kernel
theorem dX11_isAsked_5 : decode cX11_isAsked 5 = .ok (.iload_n 2, 1) := by decide +kernel
theorem dX11_isAsked_6 : decode cX11_isAsked 6 = .ok (.invokevirtual 214, 3) := by decide +kernel
theorem dX11_isAsked_9 : decode cX11_isAsked 9 = .ok (.ifCond .eq 27, 3) := by decide +kernel
theorem dX11_isAsked_12 : decode cX11_isAsked 12 = .ok (.iload_n 3, 1) := by decide +kernel
theorem dX11_isAsked_13 : decode cX11_isAsked 13 = .ok (.invokestatic 176, 3) := by decide +kernel
theorem dX11_isAsked_16 : decode cX11_isAsked 16 = .ok (.ifCond .eq 20, 3) := by decide +kernel
theorem dX11_isAsked_19 : decode cX11_isAsked 19 = .ok (.iload 4, 2) := by decide +kernel
theorem dX11_isAsked_21 : decode cX11_isAsked 21 = .ok (.iconst 0, 1) := by decide +kernel
theorem dX11_isAsked_22 : decode cX11_isAsked 22 = .ok (.aload_n 0, 1) := by decide +kernel
theorem dX11_isAsked_23 : decode cX11_isAsked 23 = .ok (.getfield 111, 3) := by decide +kernel
theorem dX11_isAsked_26 : decode cX11_isAsked 26 = .ok (.invokestatic 96, 3) := by decide +kernel
theorem dX11_isAsked_29 : decode cX11_isAsked 29 = .ok (.ifCond .eq 7, 3) := by decide +kernel
theorem dX11_isAsked_32 : decode cX11_isAsked 32 = .ok (.iconst 1, 1) := by decide +kernel
theorem dX11_isAsked_33 : decode cX11_isAsked 33 = .ok (.goto 4, 3) := by decide +kernel
theorem dX11_isAsked_36 : decode cX11_isAsked 36 = .ok (.iconst 0, 1) := by decide +kernel
theorem dX11_isAsked_37 : decode cX11_isAsked 37 = .ok (.ireturn, 1) := by decide +kernel
def fX11_isAsked (a1 : Int32) (a2 : Int32) (a3 : Int32) (a4 : Int32) (h : Hp) : Option (Int32 × Hp) := bd (fX1_hasUnit a1 a2 h) (fun r1 h2 => br (r1 = 0) (some (0, h2)) (br ((fX11_isYear a3 h2) = 0) (some (0, h2)) (br ((fX11_isWithin a4 0 (gI h2 11 0 11) h2) = 0) (some (0, h2)) (some (1, h2)))))
set_option maxRecDepth 20000 in
theorem tX11_isAsked {X : Cz} {a1 : Int32} {a2 : Int32} {a3 : Int32} {a4 : Int32} {h hE : Hp} {rE : Int32} (hF : fX11_isAsked a1 a2 a3 a4 h = some (rE, hE)) : Ct X mX11_isAsked true [zr 11 0, zi a1, zi a2, zi a3, zi a4] h (some (zi rE)) hE := by
  refine Ct_of (by decide) (Nat.le_of_ble_eq_true rfl) (ls := [(0, zr 11 0), (1, zi a1), (2, zi a2), (3, zi a3), (4, zi a4)]) rfl ?_
  unfold fX11_isAsked at hF
  refine v_aload_n (j := 0) dX11_isAsked_0 rfl ?_
  refine v_getL (c := 11) rfl rfl rfl ly11_0 cz11 flX11_10 dX11_isAsked_1 ?_
  refine v_iload_n (j := 1) dX11_isAsked_4 rfl ?_
  refine v_iload_n (j := 2) dX11_isAsked_5 rfl ?_
  replace hF := bd_use hF
  obtain ⟨r1, h2, er1, hF⟩ := hF
  refine v_cV (hm := h2) (av := [zi a1, zi a2]) (st := []) (stn := [zi r1]) (tX1_hasUnit er1) lcX1_hasUnit mlX11_214 imX1_hasUnit seX1_hasUnit rfl rfl rfl rfl ⟨by decide, by decide⟩ (Nat.le_of_ble_eq_true rfl) dX11_isAsked_6 rfl rfl ?_
  clear er1
  refine v_if_eq dX11_isAsked_9 (by decide : _ = ((36 : Nat) : Int)) (fun q => ?_) (fun q => ?_)
  · replace hF := brT q hF
    refine v_iconst (v := 0) dX11_isAsked_36 (by decide) ?_
    obtain ⟨rfl, rfl⟩ := ret_use hF
    exact v_zret rfl (Or.inl rfl) dX11_isAsked_37
  · replace hF := brF q hF
    refine v_iload_n (j := 3) dX11_isAsked_12 rfl ?_
    refine v_cS (hm := h2) (av := [zi a3]) (st := []) (stn := [zi (fX11_isYear a3 h2)]) (tX11_isYear a3 h2) lcX11_isYear mlX11_176 sxX11_isYear rfl ⟨by decide, by decide⟩ (Nat.le_of_ble_eq_true rfl) dX11_isAsked_13 rfl rfl ?_
    refine v_if_eq dX11_isAsked_16 (by decide : _ = ((36 : Nat) : Int)) (fun q => ?_) (fun q => ?_)
    · replace hF := brT q hF
      refine v_iconst (v := 0) dX11_isAsked_36 (by decide) ?_
      obtain ⟨rfl, rfl⟩ := ret_use hF
      exact v_zret rfl (Or.inl rfl) dX11_isAsked_37
    · replace hF := brF q hF
      refine v_iload (j := 4) dX11_isAsked_19 rfl ?_
      refine v_iconst (v := 0) dX11_isAsked_21 (by decide) ?_
      refine v_aload_n (j := 0) dX11_isAsked_22 rfl ?_
      refine v_getI (c := 11) rfl (Or.inl rfl) cz11 flX11_111 dX11_isAsked_23 ?_
      refine v_cS (hm := h2) (av := [zi a4, zi 0, zi (gI h2 11 0 11)]) (st := []) (stn := [zi (fX11_isWithin a4 0 (gI h2 11 0 11) h2)]) (tX11_isWithin a4 0 (gI h2 11 0 11) h2) lcX11_isWithin mlX11_96 sxX11_isWithin rfl ⟨by decide, by decide⟩ (Nat.le_of_ble_eq_true rfl) dX11_isAsked_26 rfl rfl ?_
      refine v_if_eq dX11_isAsked_29 (by decide : _ = ((36 : Nat) : Int)) (fun q => ?_) (fun q => ?_)
      · replace hF := brT q hF
        refine v_iconst (v := 0) dX11_isAsked_36 (by decide) ?_
        obtain ⟨rfl, rfl⟩ := ret_use hF
        exact v_zret rfl (Or.inl rfl) dX11_isAsked_37
      · replace hF := brF q hF
        refine v_iconst (v := 1) dX11_isAsked_32 (by decide) ?_
        refine v_goto (tgt := 37) dX11_isAsked_33 (by decide) ?_
        obtain ⟨rfl, rfl⟩ := ret_use hF
        exact v_zret rfl (Or.inr rfl) dX11_isAsked_37
theorem dX11_belongs_0 : decode cX11_belongs 0 = .ok (.aload_n 0, 1) := by decide +kernel
theorem dX11_belongs_1 : decode cX11_belongs 1 = .ok (.iload_n 1, 1) := by decide +kernel
theorem dX11_belongs_2 : decode cX11_belongs 2 = .ok (.iload_n 2, 1) := by decide +kernel
theorem dX11_belongs_3 : decode cX11_belongs 3 = .ok (.iload_n 3, 1) := by decide +kernel
theorem dX11_belongs_4 : decode cX11_belongs 4 = .ok (.iload 4, 2) := by decide +kernel
theorem dX11_belongs_6 : decode cX11_belongs 6 = .ok (.invokevirtual 227, 3) := by decide +kernel
theorem dX11_belongs_9 : decode cX11_belongs 9 = .ok (.ifCond .eq 13, 3) := by decide +kernel
theorem dX11_belongs_12 : decode cX11_belongs 12 = .ok (.iload 5, 2) := by decide +kernel
theorem dX11_belongs_14 : decode cX11_belongs 14 = .ok (.iconst 0, 1) := by decide +kernel
theorem dX11_belongs_15 : decode cX11_belongs 15 = .ok (.iconst 1, 1) := by decide +kernel
theorem dX11_belongs_16 : decode cX11_belongs 16 = .ok (.invokestatic 96, 3) := by decide +kernel
theorem dX11_belongs_19 : decode cX11_belongs 19 = .ok (.ifCond .ne 6, 3) := by decide +kernel
theorem dX11_belongs_22 : decode cX11_belongs 22 = .ok (.bipush (-2), 2) := by decide +kernel
theorem dX11_belongs_24 : decode cX11_belongs 24 = .ok (.ireturn, 1) := by decide +kernel
theorem dX11_belongs_25 : decode cX11_belongs 25 = .ok (.aload_n 0, 1) := by decide +kernel
theorem dX11_belongs_26 : decode cX11_belongs 26 = .ok (.getfield 26, 3) := by decide +kernel
theorem dX11_belongs_29 : decode cX11_belongs 29 = .ok (.iload_n 1, 1) := by decide +kernel
theorem dX11_belongs_30 : decode cX11_belongs 30 = .ok (.iload_n 2, 1) := by decide +kernel
theorem dX11_belongs_31 : decode cX11_belongs 31 = .ok (.iload_n 3, 1) := by decide +kernel
theorem dX11_belongs_32 : decode cX11_belongs 32 = .ok (.iload 4, 2) := by decide +kernel
theorem dX11_belongs_34 : decode cX11_belongs 34 = .ok (.sipush 4095, 3) := by decide +kernel
theorem dX11_belongs_37 : decode cX11_belongs 37 = .ok (.invokevirtual 231, 3) := by decide +kernel
theorem dX11_belongs_40 : decode cX11_belongs 40 = .ok (.istore 6, 2) := by decide +kernel
theorem dX11_belongs_42 : decode cX11_belongs 42 = .ok (.iload 5, 2) := by decide +kernel
theorem dX11_belongs_44 : decode cX11_belongs 44 = .ok (.iconst 1, 1) := by decide +kernel
theorem dX11_belongs_45 : decode cX11_belongs 45 = .ok (.if_icmp .ne 8, 3) := by decide +kernel
theorem dX11_belongs_48 : decode cX11_belongs 48 = .ok (.iload 6, 2) := by decide +kernel
theorem dX11_belongs_50 : decode cX11_belongs 50 = .ok (.goto 13, 3) := by decide +kernel
theorem dX11_belongs_53 : decode cX11_belongs 53 = .ok (.aload_n 0, 1) := by decide +kernel
theorem dX11_belongs_54 : decode cX11_belongs 54 = .ok (.getfield 26, 3) := by decide +kernel
theorem dX11_belongs_57 : decode cX11_belongs 57 = .ok (.iload 6, 2) := by decide +kernel
theorem dX11_belongs_59 : decode cX11_belongs 59 = .ok (.iload_n 3, 1) := by decide +kernel
theorem dX11_belongs_60 : decode cX11_belongs 60 = .ok (.invokevirtual 235, 3) := by decide +kernel
theorem dX11_belongs_63 : decode cX11_belongs 63 = .ok (.ireturn, 1) := by decide +kernel
def fX11_belongs (a1 : Int32) (a2 : Int32) (a3 : Int32) (a4 : Int32) (a5 : Int32) (h : Hp) : Option (Int32 × Hp) := bd (fX11_isAsked a1 a2 a3 a4 h) (fun r1 h2 => br (r1 = 0) (some ((-2), h2)) (br ((fX11_isWithin a5 0 1 h2) = 0) (some ((-2), h2)) (bd (fX3_bestFor a1 a2 a3 a4 4095 h2) (fun r3 h4 => br (a5 = 1) (some (r3, h4)) (bd (fX3_holderOf r3 a3 h4) (fun r5 h6 => some (r5, h6)))))))
set_option maxRecDepth 20000 in
theorem tX11_belongs {X : Cz} {a1 : Int32} {a2 : Int32} {a3 : Int32} {a4 : Int32} {a5 : Int32} {h hE : Hp} {rE : Int32} (hF : fX11_belongs a1 a2 a3 a4 a5 h = some (rE, hE)) : Ct X mX11_belongs true [zr 11 0, zi a1, zi a2, zi a3, zi a4, zi a5] h (some (zi rE)) hE := by
  refine Ct_of (by decide) (Nat.le_of_ble_eq_true rfl) (ls := [(0, zr 11 0), (1, zi a1), (2, zi a2), (3, zi a3), (4, zi a4), (5, zi a5)]) rfl ?_
  unfold fX11_belongs at hF
  refine v_aload_n (j := 0) dX11_belongs_0 rfl ?_
  refine v_iload_n (j := 1) dX11_belongs_1 rfl ?_
  refine v_iload_n (j := 2) dX11_belongs_2 rfl ?_
  refine v_iload_n (j := 3) dX11_belongs_3 rfl ?_
  refine v_iload (j := 4) dX11_belongs_4 rfl ?_
  replace hF := bd_use hF
  obtain ⟨r1, h2, er1, hF⟩ := hF
  refine v_cV (hm := h2) (av := [zi a1, zi a2, zi a3, zi a4]) (st := []) (stn := [zi r1]) (tX11_isAsked er1) lcX11_isAsked mlX11_227 imX11_isAsked seX11_isAsked rfl rfl rfl rfl ⟨by decide, by decide⟩ (Nat.le_of_ble_eq_true rfl) dX11_belongs_6 rfl rfl ?_
  clear er1
  refine v_if_eq dX11_belongs_9 (by decide : _ = ((22 : Nat) : Int)) (fun q => ?_) (fun q => ?_)
  · replace hF := brT q hF
    refine v_bipush (v := (-2)) dX11_belongs_22 (by decide) ?_
    obtain ⟨rfl, rfl⟩ := ret_use hF
    exact v_iret rfl dX11_belongs_24
  · replace hF := brF q hF
    refine v_iload (j := 5) dX11_belongs_12 rfl ?_
    refine v_iconst (v := 0) dX11_belongs_14 (by decide) ?_
    refine v_iconst (v := 1) dX11_belongs_15 (by decide) ?_
    refine v_cS (hm := h2) (av := [zi a5, zi 0, zi 1]) (st := []) (stn := [zi (fX11_isWithin a5 0 1 h2)]) (tX11_isWithin a5 0 1 h2) lcX11_isWithin mlX11_96 sxX11_isWithin rfl ⟨by decide, by decide⟩ (Nat.le_of_ble_eq_true rfl) dX11_belongs_16 rfl rfl ?_
    refine v_if_ne dX11_belongs_19 (by decide : _ = ((25 : Nat) : Int)) (fun q => ?_) (fun q => ?_)
    · replace hF := brF q hF
      refine v_aload_n (j := 0) dX11_belongs_25 rfl ?_
      refine v_getL (c := 11) rfl rfl rfl ly11_2 cz11 flX11_26 dX11_belongs_26 ?_
      refine v_iload_n (j := 1) dX11_belongs_29 rfl ?_
      refine v_iload_n (j := 2) dX11_belongs_30 rfl ?_
      refine v_iload_n (j := 3) dX11_belongs_31 rfl ?_
      refine v_iload (j := 4) dX11_belongs_32 rfl ?_
      refine v_sipush (v := 4095) dX11_belongs_34 (by decide) ?_
      replace hF := bd_use hF
      obtain ⟨r3, h4, er3, hF⟩ := hF
      refine v_cV (hm := h4) (av := [zi a1, zi a2, zi a3, zi a4, zi 4095]) (st := []) (stn := [zi r3]) (tX3_bestFor er3) lcX3_bestFor mlX11_231 imX3_bestFor seX3_bestFor rfl rfl rfl rfl ⟨by decide, by decide⟩ (Nat.le_of_ble_eq_true rfl) dX11_belongs_37 rfl rfl ?_
      clear er3
      refine v_istore (ls' := [(6, zi r3), (0, zr 11 0), (1, zi a1), (2, zi a2), (3, zi a3), (4, zi a4), (5, zi a5)]) dX11_belongs_40 (by decide) rfl ?_
      refine v_iload (j := 6) dX11_belongs_42 rfl ?_
      refine v_iconst (v := 1) dX11_belongs_44 (by decide) ?_
      refine v_icmp_ne dX11_belongs_45 (by decide : _ = ((53 : Nat) : Int)) (fun q => ?_) (fun q => ?_)
      · replace hF := brF q hF
        refine v_aload_n (j := 1) dX11_belongs_53 rfl ?_
        refine v_getL (c := 11) rfl rfl rfl ly11_2 cz11 flX11_26 dX11_belongs_54 ?_
        refine v_iload (j := 0) dX11_belongs_57 rfl ?_
        refine v_iload_n (j := 4) dX11_belongs_59 rfl ?_
        replace hF := bd_use hF
        obtain ⟨r5, h6, er5, hF⟩ := hF
        refine v_cV (hm := h6) (av := [zi r3, zi a3]) (st := []) (stn := [zi r5]) (tX3_holderOf er5) lcX3_holderOf mlX11_235 imX3_holderOf seX3_holderOf rfl rfl rfl rfl ⟨by decide, by decide⟩ (Nat.le_of_ble_eq_true rfl) dX11_belongs_60 rfl rfl ?_
        clear er5
        obtain ⟨rfl, rfl⟩ := ret_use hF
        exact v_iret rfl dX11_belongs_63
      · replace hF := brT (Decidable.not_not.mp q) hF
        refine v_iload (j := 0) dX11_belongs_48 rfl ?_
        refine v_goto (tgt := 63) dX11_belongs_50 (by decide) ?_
        obtain ⟨rfl, rfl⟩ := ret_use hF
        exact v_iret rfl dX11_belongs_63
    · replace hF := brT (Decidable.not_not.mp q) hF
      refine v_bipush (v := (-2)) dX11_belongs_22 (by decide) ?_
      obtain ⟨rfl, rfl⟩ := ret_use hF
      exact v_iret rfl dX11_belongs_24
theorem dX11_judge_0 : decode cX11_judge 0 = .ok (.aload_n 0, 1) := by decide +kernel
theorem dX11_judge_1 : decode cX11_judge 1 = .ok (.getfield 19, 3) := by decide +kernel
theorem dX11_judge_4 : decode cX11_judge 4 = .ok (.iload_n 1, 1) := by decide +kernel
theorem dX11_judge_5 : decode cX11_judge 5 = .ok (.invokevirtual 182, 3) := by decide +kernel
theorem dX11_judge_8 : decode cX11_judge 8 = .ok (.ifCond .eq 33, 3) := by decide +kernel
theorem dX11_judge_11 : decode cX11_judge 11 = .ok (.aload_n 0, 1) := by decide +kernel
theorem dX11_judge_12 : decode cX11_judge 12 = .ok (.getfield 19, 3) := by decide +kernel
theorem dX11_judge_15 : decode cX11_judge 15 = .ok (.iload_n 2, 1) := by decide +kernel
theorem dX11_judge_16 : decode cX11_judge 16 = .ok (.invokevirtual 182, 3) := by decide +kernel
theorem dX11_judge_19 : decode cX11_judge 19 = .ok (.ifCond .eq 22, 3) := by decide +kernel
theorem dX11_judge_22 : decode cX11_judge 22 = .ok (.iload_n 1, 1) := by decide +kernel
theorem dX11_judge_23 : decode cX11_judge 23 = .ok (.iload_n 2, 1) := by decide +kernel
theorem dX11_judge_24 : decode cX11_judge 24 = .ok (.if_icmp .eq 17, 3) := by decide +kernel
theorem dX11_judge_27 : decode cX11_judge 27 = .ok (.aload_n 0, 1) := by decide +kernel
theorem dX11_judge_28 : decode cX11_judge 28 = .ok (.iload_n 3, 1) := by decide +kernel
theorem dX11_judge_29 : decode cX11_judge 29 = .ok (.iload 4, 2) := by decide +kernel
theorem dX11_judge_31 : decode cX11_judge 31 = .ok (.iload 5, 2) := by decide +kernel
theorem dX11_judge_33 : decode cX11_judge 33 = .ok (.iload 6, 2) := by decide +kernel
theorem dX11_judge_35 : decode cX11_judge 35 = .ok (.invokevirtual 227, 3) := by decide +kernel
theorem dX11_judge_38 : decode cX11_judge 38 = .ok (.ifCond .ne 6, 3) := by decide +kernel
theorem dX11_judge_41 : decode cX11_judge 41 = .ok (.bipush (-2), 2) := by decide +kernel
theorem dX11_judge_43 : decode cX11_judge 43 = .ok (.ireturn, 1) := by decide +kernel
theorem dX11_judge_44 : decode cX11_judge 44 = .ok (.aload_n 0, 1) := by decide +kernel
theorem dX11_judge_45 : decode cX11_judge 45 = .ok (.getfield 26, 3) := by decide +kernel
theorem dX11_judge_48 : decode cX11_judge 48 = .ok (.iload_n 3, 1) := by decide +kernel
theorem dX11_judge_49 : decode cX11_judge 49 = .ok (.iload 4, 2) := by decide +kernel
theorem dX11_judge_51 : decode cX11_judge 51 = .ok (.iload 5, 2) := by decide +kernel
theorem dX11_judge_53 : decode cX11_judge 53 = .ok (.iload 6, 2) := by decide +kernel
theorem dX11_judge_55 : decode cX11_judge 55 = .ok (.iconst 1, 1) := by decide +kernel
theorem dX11_judge_56 : decode cX11_judge 56 = .ok (.iload_n 1, 1) := by decide +kernel
theorem dX11_judge_57 : decode cX11_judge 57 = .ok (.ishl, 1) := by decide +kernel
theorem dX11_judge_58 : decode cX11_judge 58 = .ok (.iconst 1, 1) := by decide +kernel
theorem dX11_judge_59 : decode cX11_judge 59 = .ok (.iload_n 2, 1) := by decide +kernel
theorem dX11_judge_60 : decode cX11_judge 60 = .ok (.ishl, 1) := by decide +kernel
theorem dX11_judge_61 : decode cX11_judge 61 = .ok (.ior, 1) := by decide +kernel
theorem dX11_judge_62 : decode cX11_judge 62 = .ok (.invokevirtual 231, 3) := by decide +kernel
theorem dX11_judge_65 : decode cX11_judge 65 = .ok (.istore 7, 2) := by decide +kernel
theorem dX11_judge_67 : decode cX11_judge 67 = .ok (.aload_n 0, 1) := by decide +kernel
theorem dX11_judge_68 : decode cX11_judge 68 = .ok (.getfield 26, 3) := by decide +kernel
theorem dX11_judge_71 : decode cX11_judge 71 = .ok (.iload 7, 2) := by decide +kernel
theorem dX11_judge_73 : decode cX11_judge 73 = .ok (.iload 5, 2) := by decide +kernel
theorem dX11_judge_75 : decode cX11_judge 75 = .ok (.invokevirtual 235, 3) := by decide +kernel
theorem dX11_judge_78 : decode cX11_judge 78 = .ok (.ireturn, 1) := by decide +kernel
def fX11_judge (a1 : Int32) (a2 : Int32) (a3 : Int32) (a4 : Int32) (a5 : Int32) (a6 : Int32) (h : Hp) : Option (Int32 × Hp) := br ((fX4_isHousehold a1 h) = 0) (some ((-2), h)) (br ((fX4_isHousehold a2 h) = 0) (some ((-2), h)) (br (a1 = a2) (some ((-2), h)) (bd (fX11_isAsked a3 a4 a5 a6 h) (fun r1 h2 => br (r1 = 0) (some ((-2), h2)) (bd (fX3_bestFor a3 a4 a5 a6 (((1 : Int32) <<< (a1 &&& 31)) ||| ((1 : Int32) <<< (a2 &&& 31))) h2) (fun r3 h4 => bd (fX3_holderOf r3 a5 h4) (fun r5 h6 => some (r5, h6))))))))
set_option maxRecDepth 20000 in
theorem tX11_judge {X : Cz} {a1 : Int32} {a2 : Int32} {a3 : Int32} {a4 : Int32} {a5 : Int32} {a6 : Int32} {h hE : Hp} {rE : Int32} (hF : fX11_judge a1 a2 a3 a4 a5 a6 h = some (rE, hE)) : Ct X mX11_judge true [zr 11 0, zi a1, zi a2, zi a3, zi a4, zi a5, zi a6] h (some (zi rE)) hE := by
  refine Ct_of (by decide) (Nat.le_of_ble_eq_true rfl) (ls := [(0, zr 11 0), (1, zi a1), (2, zi a2), (3, zi a3), (4, zi a4), (5, zi a5), (6, zi a6)]) rfl ?_
  unfold fX11_judge at hF
  refine v_aload_n (j := 0) dX11_judge_0 rfl ?_
  refine v_getL (c := 11) rfl rfl rfl ly11_1 cz11 flX11_19 dX11_judge_1 ?_
  refine v_iload_n (j := 1) dX11_judge_4 rfl ?_
  refine v_cV (hm := h) (av := [zi a1]) (st := []) (stn := [zi (fX4_isHousehold a1 h)]) (tX4_isHousehold a1 h) lcX4_isHousehold mlX11_182 imX4_isHousehold seX4_isHousehold rfl rfl rfl rfl ⟨by decide, by decide⟩ (Nat.le_of_ble_eq_true rfl) dX11_judge_5 rfl rfl ?_
  refine v_if_eq dX11_judge_8 (by decide : _ = ((41 : Nat) : Int)) (fun q => ?_) (fun q => ?_)
  · replace hF := brT q hF
    refine v_bipush (v := (-2)) dX11_judge_41 (by decide) ?_
    obtain ⟨rfl, rfl⟩ := ret_use hF
    exact v_iret rfl dX11_judge_43
  · replace hF := brF q hF
    refine v_aload_n (j := 0) dX11_judge_11 rfl ?_
    refine v_getL (c := 11) rfl rfl rfl ly11_1 cz11 flX11_19 dX11_judge_12 ?_
    refine v_iload_n (j := 2) dX11_judge_15 rfl ?_
    refine v_cV (hm := h) (av := [zi a2]) (st := []) (stn := [zi (fX4_isHousehold a2 h)]) (tX4_isHousehold a2 h) lcX4_isHousehold mlX11_182 imX4_isHousehold seX4_isHousehold rfl rfl rfl rfl ⟨by decide, by decide⟩ (Nat.le_of_ble_eq_true rfl) dX11_judge_16 rfl rfl ?_
    refine v_if_eq dX11_judge_19 (by decide : _ = ((41 : Nat) : Int)) (fun q => ?_) (fun q => ?_)
    · replace hF := brT q hF
      refine v_bipush (v := (-2)) dX11_judge_41 (by decide) ?_
      obtain ⟨rfl, rfl⟩ := ret_use hF
      exact v_iret rfl dX11_judge_43
    · replace hF := brF q hF
      refine v_iload_n (j := 1) dX11_judge_22 rfl ?_
      refine v_iload_n (j := 2) dX11_judge_23 rfl ?_
      refine v_icmp_eq dX11_judge_24 (by decide : _ = ((41 : Nat) : Int)) (fun q => ?_) (fun q => ?_)
      · replace hF := brT q hF
        refine v_bipush (v := (-2)) dX11_judge_41 (by decide) ?_
        obtain ⟨rfl, rfl⟩ := ret_use hF
        exact v_iret rfl dX11_judge_43
      · replace hF := brF q hF
        refine v_aload_n (j := 0) dX11_judge_27 rfl ?_
        refine v_iload_n (j := 3) dX11_judge_28 rfl ?_
        refine v_iload (j := 4) dX11_judge_29 rfl ?_
        refine v_iload (j := 5) dX11_judge_31 rfl ?_
        refine v_iload (j := 6) dX11_judge_33 rfl ?_
        replace hF := bd_use hF
        obtain ⟨r1, h2, er1, hF⟩ := hF
        refine v_cV (hm := h2) (av := [zi a3, zi a4, zi a5, zi a6]) (st := []) (stn := [zi r1]) (tX11_isAsked er1) lcX11_isAsked mlX11_227 imX11_isAsked seX11_isAsked rfl rfl rfl rfl ⟨by decide, by decide⟩ (Nat.le_of_ble_eq_true rfl) dX11_judge_35 rfl rfl ?_
        clear er1
        refine v_if_ne dX11_judge_38 (by decide : _ = ((44 : Nat) : Int)) (fun q => ?_) (fun q => ?_)
        · replace hF := brF q hF
          refine v_aload_n (j := 0) dX11_judge_44 rfl ?_
          refine v_getL (c := 11) rfl rfl rfl ly11_2 cz11 flX11_26 dX11_judge_45 ?_
          refine v_iload_n (j := 3) dX11_judge_48 rfl ?_
          refine v_iload (j := 4) dX11_judge_49 rfl ?_
          refine v_iload (j := 5) dX11_judge_51 rfl ?_
          refine v_iload (j := 6) dX11_judge_53 rfl ?_
          refine v_iconst (v := 1) dX11_judge_55 (by decide) ?_
          refine v_iload_n (j := 1) dX11_judge_56 rfl ?_
          refine v_ishl dX11_judge_57 ?_
          refine v_iconst (v := 1) dX11_judge_58 (by decide) ?_
          refine v_iload_n (j := 2) dX11_judge_59 rfl ?_
          refine v_ishl dX11_judge_60 ?_
          refine v_ior dX11_judge_61 ?_
          replace hF := bd_use hF
          obtain ⟨r3, h4, er3, hF⟩ := hF
          refine v_cV (hm := h4) (av := [zi a3, zi a4, zi a5, zi a6, zi (((1 : Int32) <<< (a1 &&& 31)) ||| ((1 : Int32) <<< (a2 &&& 31)))]) (st := []) (stn := [zi r3]) (tX3_bestFor er3) lcX3_bestFor mlX11_231 imX3_bestFor seX3_bestFor rfl rfl rfl rfl ⟨by decide, by decide⟩ (Nat.le_of_ble_eq_true rfl) dX11_judge_62 rfl rfl ?_
          clear er3
          refine v_istore (ls' := [(7, zi r3), (0, zr 11 0), (1, zi a1), (2, zi a2), (3, zi a3), (4, zi a4), (5, zi a5), (6, zi a6)]) dX11_judge_65 (by decide) rfl ?_
          refine v_aload_n (j := 1) dX11_judge_67 rfl ?_
          refine v_getL (c := 11) rfl rfl rfl ly11_2 cz11 flX11_26 dX11_judge_68 ?_
          refine v_iload (j := 0) dX11_judge_71 rfl ?_
          refine v_iload (j := 6) dX11_judge_73 rfl ?_
          replace hF := bd_use hF
          obtain ⟨r5, h6, er5, hF⟩ := hF
          refine v_cV (hm := h6) (av := [zi r3, zi a5]) (st := []) (stn := [zi r5]) (tX3_holderOf er5) lcX3_holderOf mlX11_235 imX3_holderOf seX3_holderOf rfl rfl rfl rfl ⟨by decide, by decide⟩ (Nat.le_of_ble_eq_true rfl) dX11_judge_75 rfl rfl ?_
          clear er5
          obtain ⟨rfl, rfl⟩ := ret_use hF
          exact v_iret rfl dX11_judge_78
        · replace hF := brT (Decidable.not_not.mp q) hF
          refine v_bipush (v := (-2)) dX11_judge_41 (by decide) ?_
          obtain ⟨rfl, rfl⟩ := ret_use hF
          exact v_iret rfl dX11_judge_43
theorem dX11_lot_0 : decode cX11_lot 0 = .ok (.aload_n 0, 1) := by decide +kernel
theorem dX11_lot_1 : decode cX11_lot 1 = .ok (.getfield 10, 3) := by decide +kernel
theorem dX11_lot_4 : decode cX11_lot 4 = .ok (.iload_n 1, 1) := by decide +kernel
theorem dX11_lot_5 : decode cX11_lot 5 = .ok (.iload_n 2, 1) := by decide +kernel
theorem dX11_lot_6 : decode cX11_lot 6 = .ok (.iload_n 3, 1) := by decide +kernel
theorem dX11_lot_7 : decode cX11_lot 7 = .ok (.invokevirtual 179, 3) := by decide +kernel
theorem dX11_lot_10 : decode cX11_lot 10 = .ok (.ifCond .eq 14, 3) := by decide +kernel
theorem dX11_lot_13 : decode cX11_lot 13 = .ok (.iload 4, 2) := by decide +kernel
theorem dX11_lot_15 : decode cX11_lot 15 = .ok (.iconst 1, 1) := by decide +kernel
theorem dX11_lot_16 : decode cX11_lot 16 = .ok (.bipush 30, 2) := by decide +kernel
theorem dX11_lot_18 : decode cX11_lot 18 = .ok (.invokestatic 96, 3) := by decide +kernel
theorem dX11_lot_21 : decode cX11_lot 21 = .ok (.ifCond .ne 6, 3) := by decide +kernel
theorem dX11_lot_24 : decode cX11_lot 24 = .ok (.bipush (-2), 2) := by decide +kernel
theorem dX11_lot_26 : decode cX11_lot 26 = .ok (.ireturn, 1) := by decide +kernel
theorem dX11_lot_27 : decode cX11_lot 27 = .ok (.aload_n 0, 1) := by decide +kernel
theorem dX11_lot_28 : decode cX11_lot 28 = .ok (.getfield 42, 3) := by decide +kernel
theorem dX11_lot_31 : decode cX11_lot 31 = .ok (.iload_n 1, 1) := by decide +kernel
theorem dX11_lot_32 : decode cX11_lot 32 = .ok (.iload_n 2, 1) := by decide +kernel
theorem dX11_lot_33 : decode cX11_lot 33 = .ok (.iload_n 3, 1) := by decide +kernel
theorem dX11_lot_34 : decode cX11_lot 34 = .ok (.iload 4, 2) := by decide +kernel
theorem dX11_lot_36 : decode cX11_lot 36 = .ok (.invokevirtual 238, 3) := by decide +kernel
theorem dX11_lot_39 : decode cX11_lot 39 = .ok (.ireturn, 1) := by decide +kernel
def fX11_lot (a1 : Int32) (a2 : Int32) (a3 : Int32) (a4 : Int32) (h : Hp) : Option (Int32 × Hp) := bd (fX1_hasRun a1 a2 a3 h) (fun r1 h2 => br (r1 = 0) (some ((-2), h2)) (br ((fX11_isWithin a4 1 30 h2) = 0) (some ((-2), h2)) (bd (fX0_putUp a1 a2 a3 a4 h2) (fun r3 h4 => some (r3, h4)))))
set_option maxRecDepth 20000 in
theorem tX11_lot {X : Cz} {a1 : Int32} {a2 : Int32} {a3 : Int32} {a4 : Int32} {h hE : Hp} {rE : Int32} (hF : fX11_lot a1 a2 a3 a4 h = some (rE, hE)) : Ct X mX11_lot true [zr 11 0, zi a1, zi a2, zi a3, zi a4] h (some (zi rE)) hE := by
  refine Ct_of (by decide) (Nat.le_of_ble_eq_true rfl) (ls := [(0, zr 11 0), (1, zi a1), (2, zi a2), (3, zi a3), (4, zi a4)]) rfl ?_
  unfold fX11_lot at hF
  refine v_aload_n (j := 0) dX11_lot_0 rfl ?_
  refine v_getL (c := 11) rfl rfl rfl ly11_0 cz11 flX11_10 dX11_lot_1 ?_
  refine v_iload_n (j := 1) dX11_lot_4 rfl ?_
  refine v_iload_n (j := 2) dX11_lot_5 rfl ?_
  refine v_iload_n (j := 3) dX11_lot_6 rfl ?_
  replace hF := bd_use hF
  obtain ⟨r1, h2, er1, hF⟩ := hF
  refine v_cV (hm := h2) (av := [zi a1, zi a2, zi a3]) (st := []) (stn := [zi r1]) (tX1_hasRun er1) lcX1_hasRun mlX11_179 imX1_hasRun seX1_hasRun rfl rfl rfl rfl ⟨by decide, by decide⟩ (Nat.le_of_ble_eq_true rfl) dX11_lot_7 rfl rfl ?_
  clear er1
  refine v_if_eq dX11_lot_10 (by decide : _ = ((24 : Nat) : Int)) (fun q => ?_) (fun q => ?_)
  · replace hF := brT q hF
    refine v_bipush (v := (-2)) dX11_lot_24 (by decide) ?_
    obtain ⟨rfl, rfl⟩ := ret_use hF
    exact v_iret rfl dX11_lot_26
  · replace hF := brF q hF
    refine v_iload (j := 4) dX11_lot_13 rfl ?_
    refine v_iconst (v := 1) dX11_lot_15 (by decide) ?_
    refine v_bipush (v := 30) dX11_lot_16 (by decide) ?_
    refine v_cS (hm := h2) (av := [zi a4, zi 1, zi 30]) (st := []) (stn := [zi (fX11_isWithin a4 1 30 h2)]) (tX11_isWithin a4 1 30 h2) lcX11_isWithin mlX11_96 sxX11_isWithin rfl ⟨by decide, by decide⟩ (Nat.le_of_ble_eq_true rfl) dX11_lot_18 rfl rfl ?_
    refine v_if_ne dX11_lot_21 (by decide : _ = ((27 : Nat) : Int)) (fun q => ?_) (fun q => ?_)
    · replace hF := brF q hF
      refine v_aload_n (j := 0) dX11_lot_27 rfl ?_
      refine v_getL (c := 11) rfl rfl rfl ly11_4 cz11 flX11_42 dX11_lot_28 ?_
      refine v_iload_n (j := 1) dX11_lot_31 rfl ?_
      refine v_iload_n (j := 2) dX11_lot_32 rfl ?_
      refine v_iload_n (j := 3) dX11_lot_33 rfl ?_
      refine v_iload (j := 4) dX11_lot_34 rfl ?_
      replace hF := bd_use hF
      obtain ⟨r3, h4, er3, hF⟩ := hF
      refine v_cV (hm := h4) (av := [zi a1, zi a2, zi a3, zi a4]) (st := []) (stn := [zi r3]) (tX0_putUp er3) lcX0_putUp mlX11_238 imX0_putUp seX0_putUp rfl rfl rfl rfl ⟨by decide, by decide⟩ (Nat.le_of_ble_eq_true rfl) dX11_lot_36 rfl rfl ?_
      clear er3
      obtain ⟨rfl, rfl⟩ := ret_use hF
      exact v_iret rfl dX11_lot_39
    · replace hF := brT (Decidable.not_not.mp q) hF
      refine v_bipush (v := (-2)) dX11_lot_24 (by decide) ?_
      obtain ⟨rfl, rfl⟩ := ret_use hF
      exact v_iret rfl dX11_lot_26
theorem dX11_offers_0 : decode cX11_offers 0 = .ok (.aload_n 0, 1) := by decide +kernel
theorem dX11_offers_1 : decode cX11_offers 1 = .ok (.getfield 42, 3) := by decide +kernel
theorem dX11_offers_4 : decode cX11_offers 4 = .ok (.iload_n 1, 1) := by decide +kernel
theorem dX11_offers_5 : decode cX11_offers 5 = .ok (.invokevirtual 242, 3) := by decide +kernel
theorem dX11_offers_8 : decode cX11_offers 8 = .ok (.ifCond .eq 14, 3) := by decide +kernel
theorem dX11_offers_11 : decode cX11_offers 11 = .ok (.aload_n 0, 1) := by decide +kernel
theorem dX11_offers_12 : decode cX11_offers 12 = .ok (.getfield 65, 3) := by decide +kernel
theorem dX11_offers_15 : decode cX11_offers 15 = .ok (.iload_n 2, 1) := by decide +kernel
theorem dX11_offers_16 : decode cX11_offers 16 = .ok (.invokevirtual 245, 3) := by decide +kernel
theorem dX11_offers_19 : decode cX11_offers 19 = .ok (.ifCond .ne 6, 3) := by decide +kernel
theorem dX11_offers_22 : decode cX11_offers 22 = .ok (.bipush (-2), 2) := by decide +kernel
theorem dX11_offers_24 : decode cX11_offers 24 = .ok (.ireturn, 1) := by decide +kernel
theorem dX11_offers_25 : decode cX11_offers 25 = .ok (.aload_n 0, 1) := by decide +kernel
theorem dX11_offers_26 : decode cX11_offers 26 = .ok (.getfield 65, 3) := by decide +kernel
theorem dX11_offers_29 : decode cX11_offers 29 = .ok (.iload_n 2, 1) := by decide +kernel
theorem dX11_offers_30 : decode cX11_offers 30 = .ok (.invokevirtual 248, 3) := by decide +kernel
theorem dX11_offers_33 : decode cX11_offers 33 = .ok (.ifCond .ne 6, 3) := by decide +kernel
theorem dX11_offers_36 : decode cX11_offers 36 = .ok (.bipush (-5), 2) := by decide +kernel
theorem dX11_offers_38 : decode cX11_offers 38 = .ok (.ireturn, 1) := by decide +kernel
theorem dX11_offers_39 : decode cX11_offers 39 = .ok (.iconst 0, 1) := by decide +kernel
theorem dX11_offers_40 : decode cX11_offers 40 = .ok (.istore_n 3, 1) := by decide +kernel
theorem dX11_offers_41 : decode cX11_offers 41 = .ok (.iload_n 3, 1) := by decide +kernel
theorem dX11_offers_42 : decode cX11_offers 42 = .ok (.aload_n 0, 1) := by decide +kernel
theorem dX11_offers_43 : decode cX11_offers 43 = .ok (.getfield 65, 3) := by decide +kernel
theorem dX11_offers_46 : decode cX11_offers 46 = .ok (.iload_n 2, 1) := by decide +kernel
theorem dX11_offers_47 : decode cX11_offers 47 = .ok (.invokevirtual 251, 3) := by decide +kernel
theorem dX11_offers_50 : decode cX11_offers 50 = .ok (.if_icmp .ge 39, 3) := by decide +kernel
theorem dX11_offers_53 : decode cX11_offers 53 = .ok (.aload_n 0, 1) := by decide +kernel
theorem dX11_offers_54 : decode cX11_offers 54 = .ok (.getfield 65, 3) := by decide +kernel
theorem dX11_offers_57 : decode cX11_offers 57 = .ok (.iload_n 2, 1) := by decide +kernel
theorem dX11_offers_58 : decode cX11_offers 58 = .ok (.iload_n 3, 1) := by decide +kernel
theorem dX11_offers_59 : decode cX11_offers 59 = .ok (.invokevirtual 254, 3) := by decide +kernel
theorem dX11_offers_62 : decode cX11_offers 62 = .ok (.lstore 4, 2) := by decide +kernel
theorem dX11_offers_64 : decode cX11_offers 64 = .ok (.lload 4, 2) := by decide +kernel
theorem dX11_offers_66 : decode cX11_offers 66 = .ok (.lconst 0, 1) := by decide +kernel
theorem dX11_offers_67 : decode cX11_offers 67 = .ok (.lcmp, 1) := by decide +kernel
theorem dX11_offers_68 : decode cX11_offers 68 = .ok (.ifCond .lt 12, 3) := by decide +kernel
theorem dX11_offers_71 : decode cX11_offers 71 = .ok (.lload 4, 2) := by decide +kernel
theorem dX11_offers_73 : decode cX11_offers 73 = .ok (.ldc2_w 258, 3) := by decide +kernel
theorem dX11_offers_76 : decode cX11_offers 76 = .ok (.lcmp, 1) := by decide +kernel
theorem dX11_offers_77 : decode cX11_offers 77 = .ok (.ifCond .le 6, 3) := by decide +kernel
theorem dX11_offers_80 : decode cX11_offers 80 = .ok (.bipush (-4), 2) := by decide +kernel
theorem dX11_offers_82 : decode cX11_offers 82 = .ok (.ireturn, 1) := by decide +kernel
theorem dX11_offers_83 : decode cX11_offers 83 = .ok (.iinc 3 1, 3) := by decide +kernel
theorem dX11_offers_86 : decode cX11_offers 86 = .ok (.goto (-45), 3) := by decide +kernel
theorem dX11_offers_89 : decode cX11_offers 89 = .ok (.iconst 0, 1) := by decide +kernel
theorem dX11_offers_90 : decode cX11_offers 90 = .ok (.istore_n 3, 1) := by decide +kernel
theorem dX11_offers_91 : decode cX11_offers 91 = .ok (.iconst 0, 1) := by decide +kernel
theorem dX11_offers_92 : decode cX11_offers 92 = .ok (.istore 4, 2) := by decide +kernel
theorem dX11_offers_94 : decode cX11_offers 94 = .ok (.iload 4, 2) := by decide +kernel
theorem dX11_offers_96 : decode cX11_offers 96 = .ok (.bipush 12, 2) := by decide +kernel
theorem dX11_offers_98 : decode cX11_offers 98 = .ok (.if_icmp .ge 63, 3) := by decide +kernel
theorem dX11_offers_101 : decode cX11_offers 101 = .ok (.aload_n 0, 1) := by decide +kernel
theorem dX11_offers_102 : decode cX11_offers 102 = .ok (.getfield 19, 3) := by decide +kernel
theorem dX11_offers_105 : decode cX11_offers 105 = .ok (.iload 4, 2) := by decide +kernel
theorem dX11_offers_107 : decode cX11_offers 107 = .ok (.invokevirtual 143, 3) := by decide +kernel
theorem dX11_offers_110 : decode cX11_offers 110 = .ok (.ifCond .eq 17, 3) := by decide +kernel
theorem dX11_offers_113 : decode cX11_offers 113 = .ok (.aload_n 0, 1) := by decide +kernel
theorem dX11_offers_114 : decode cX11_offers 114 = .ok (.getfield 65, 3) := by decide +kernel
theorem dX11_offers_117 : decode cX11_offers 117 = .ok (.iload_n 2, 1) := by decide +kernel
theorem dX11_offers_118 : decode cX11_offers 118 = .ok (.iload 4, 2) := by decide +kernel
theorem dX11_offers_120 : decode cX11_offers 120 = .ok (.invokevirtual 254, 3) := by decide +kernel
theorem dX11_offers_123 : decode cX11_offers 123 = .ok (.l2i, 1) := by decide +kernel
theorem dX11_offers_124 : decode cX11_offers 124 = .ok (.goto 4, 3) := by decide +kernel
theorem dX11_offers_127 : decode cX11_offers 127 = .ok (.iconst 0, 1) := by decide +kernel
theorem dX11_offers_128 : decode cX11_offers 128 = .ok (.istore 5, 2) := by decide +kernel
theorem dX11_offers_130 : decode cX11_offers 130 = .ok (.aload_n 0, 1) := by decide +kernel
theorem dX11_offers_131 : decode cX11_offers 131 = .ok (.getfield 42, 3) := by decide +kernel
theorem dX11_offers_134 : decode cX11_offers 134 = .ok (.iload_n 1, 1) := by decide +kernel
theorem dX11_offers_135 : decode cX11_offers 135 = .ok (.iload 4, 2) := by decide +kernel
theorem dX11_offers_137 : decode cX11_offers 137 = .ok (.iload 5, 2) := by decide +kernel
theorem dX11_offers_139 : decode cX11_offers 139 = .ok (.invokevirtual 260, 3) := by decide +kernel
theorem dX11_offers_142 : decode cX11_offers 142 = .ok (.iload_n 3, 1) := by decide +kernel
theorem dX11_offers_143 : decode cX11_offers 143 = .ok (.iload 5, 2) := by decide +kernel
theorem dX11_offers_145 : decode cX11_offers 145 = .ok (.ifCond .le 7, 3) := by decide +kernel
theorem dX11_offers_148 : decode cX11_offers 148 = .ok (.iconst 1, 1) := by decide +kernel
theorem dX11_offers_149 : decode cX11_offers 149 = .ok (.goto 4, 3) := by decide +kernel
theorem dX11_offers_152 : decode cX11_offers 152 = .ok (.iconst 0, 1) := by decide +kernel
theorem dX11_offers_153 : decode cX11_offers 153 = .ok (.iadd, 1) := by decide +kernel
theorem dX11_offers_154 : decode cX11_offers 154 = .ok (.istore_n 3, 1) := by decide +kernel
theorem dX11_offers_155 : decode cX11_offers 155 = .ok (.iinc 4 1, 3) := by decide +kernel
theorem dX11_offers_158 : decode cX11_offers 158 = .ok (.goto (-64), 3) := by decide +kernel
theorem dX11_offers_161 : decode cX11_offers 161 = .ok (.iload_n 3, 1) := by decide +kernel
theorem dX11_offers_162 : decode cX11_offers 162 = .ok (.ireturn, 1) := by decide +kernel
def fX11_offers_L41 : Nat → Int32 → Int32 → Int32 → Hp → Option ((Int32 ⊕ Int32) × Hp)
  | 0, _, _, _, _ => none
  | n + 1, a1, a2, a3, h => bd (fX7_lengthOf a2 h) (fun r3 h4 => br (r3 ≤ a3) (some (.inr (a3), h4)) (bd (fX7_numberAt a2 a3 h4) (fun r5 h6 => br (r5 < (0 : Int64)) (some (.inl (-4), h6)) (br (r5 ≤ (10000 : Int64)) (lb (a3 + 1) (fun v7 => fX11_offers_L41 n a1 a2 v7 h6)) (some (.inl (-4), h6))))))
def fX11_offers_L94 : Nat → Int32 → Int32 → Int32 → Int32 → Hp → Option ((Int32 × Int32) × Hp)
  | 0, _, _, _, _, _ => none
  | n + 1, a1, a2, a3, a4, h => br (12 ≤ a4) (some ((a3, a4), h)) (bd (fX4_isStaying a4 h) (fun r13 h14 => lb (fun (x16 : Int32) (h17 : Hp) => bd (fX0_noteOffer a1 a4 x16 h17) (fun r18 h19 => br (x16 ≤ 0) (lb (a3 + 0) (fun v20 => lb (a4 + 1) (fun v21 => fX11_offers_L94 n a1 a2 v20 v21 h19))) (lb (a3 + 1) (fun v22 => lb (a4 + 1) (fun v23 => fX11_offers_L94 n a1 a2 v22 v23 h19))))) (fun j15 => br (r13 = 0) (j15 0 h14) (bd (fX7_numberAt a2 a4 h14) (fun r24 h25 => j15 r24.toInt32 h25)))))
def fX11_offers (a1 : Int32) (a2 : Int32) (h : Hp) : Option (Int32 × Hp) := br ((fX0_isLot a1 h) = 0) (some ((-2), h)) (br ((fX7_isPlace a2 h) = 0) (some ((-2), h)) (bd (fX7_isFilled a2 h) (fun r1 h2 => br (r1 = 0) (some ((-5), h2)) (bd (fX11_offers_L41 FU a1 a2 0 h2) (fun u11 h8 => ms u11 (fun r12 => some (r12, h8)) (fun v10 => bd (fX11_offers_L94 FU a1 a2 0 0 h8) (fun t27 h26 => lb t27.1 (fun v28 => lb t27.2 (fun v29 => some (v28, h26))))))))))
set_option maxRecDepth 20000 in
theorem tX11_offers_L41 {X : Cz} {h0 : Hp} {r : Option AV} {hE : Hp} : ∀ (n : Nat) (a1 : Int32) (a2 : Int32) (a3 : Int32) (h : Hp) (z : (Int32 ⊕ Int32) × Hp), fX11_offers_L41 n a1 a2 a3 h = some z → lk z r hE (fun v => some (zi v)) (fun t hx => V X mX11_offers true h0 89 [(0, zr 11 0), (1, zi a1), (2, zi a2), (3, zi t)] [] hx r hE) → V X mX11_offers true h0 41 [(0, zr 11 0), (1, zi a1), (2, zi a2), (3, zi a3)] [] h r hE := by
  intro n
  induction n with
  | zero => intro a1 a2 a3 h z hF k; cases hF
  | succ n ih =>
    intro a1 a2 a3 h z hF k
    rw [fX11_offers_L41] at hF
    refine v_iload_n (j := 3) dX11_offers_41 rfl ?_
    refine v_aload_n (j := 0) dX11_offers_42 rfl ?_
    refine v_getL (c := 11) rfl rfl rfl ly11_7 cz11 flX11_65 dX11_offers_43 ?_
    refine v_iload_n (j := 2) dX11_offers_46 rfl ?_
    replace hF := bd_use hF
    obtain ⟨r3, h4, er3, hF⟩ := hF
    refine v_cV (hm := h4) (av := [zi a2]) (st := [zi a3]) (stn := [zi r3, zi a3]) (tX7_lengthOf er3) lcX7_lengthOf mlX11_251 imX7_lengthOf seX7_lengthOf rfl rfl rfl rfl ⟨by decide, by decide⟩ (Nat.le_of_ble_eq_true rfl) dX11_offers_47 rfl rfl ?_
    clear er3
    refine v_icmp_ge dX11_offers_50 (by decide : _ = ((89 : Nat) : Int)) (fun q => ?_) (fun q => ?_)
    · replace hF := brT q hF
      cases hF
      exact k
    · replace hF := brF q hF
      refine v_aload_n (j := 0) dX11_offers_53 rfl ?_
      refine v_getL (c := 11) rfl rfl rfl ly11_7 cz11 flX11_65 dX11_offers_54 ?_
      refine v_iload_n (j := 2) dX11_offers_57 rfl ?_
      refine v_iload_n (j := 3) dX11_offers_58 rfl ?_
      replace hF := bd_use hF
      obtain ⟨r5, h6, er5, hF⟩ := hF
      refine v_cV (hm := h6) (av := [zi a2, zi a3]) (st := []) (stn := [zj r5]) (tX7_numberAt er5) lcX7_numberAt mlX11_254 imX7_numberAt seX7_numberAt rfl rfl rfl rfl ⟨by decide, by decide⟩ (Nat.le_of_ble_eq_true rfl) dX11_offers_59 rfl rfl ?_
      clear er5
      refine v_lstore (ls' := [(4, zj r5), (0, zr 11 0), (1, zi a1), (2, zi a2), (3, zi a3)]) dX11_offers_62 (by decide) rfl ?_
      refine v_lload (j := 0) dX11_offers_64 rfl ?_
      refine v_lconst (v := 0) dX11_offers_66 (by decide) ?_
      refine v_lif_lt (x := r5) (y := (0 : Int64)) dX11_offers_67 dX11_offers_68 (by decide : _ = ((80 : Nat) : Int)) (fun q => ?_) (fun q => ?_)
      · replace hF := brT q hF
        refine v_bipush (v := (-4)) dX11_offers_80 (by decide) ?_
        cases hF
        obtain ⟨rfl, rfl⟩ := (k : _ ∧ _)
        exact v_iret rfl dX11_offers_82
      · replace hF := brF q hF
        refine v_lload (j := 0) dX11_offers_71 rfl ?_
        refine v_ldc2 dX11_offers_73 kcX11_258 ?_
        refine v_lif_le (x := r5) (y := (10000 : Int64)) dX11_offers_76 dX11_offers_77 (by decide : _ = ((83 : Nat) : Int)) (fun q => ?_) (fun q => ?_)
        · replace hF := brT q hF
          obtain ⟨v7, ev7⟩ : ∃ y : Int32, y = a3 + 1 := ⟨_, rfl⟩
          replace hF := lb_use ev7 hF
          refine v_iinc (j := 4) (v := v7) (ls' := [(3, zi v7), (4, zj r5), (0, zr 11 0), (1, zi a1), (2, zi a2)]) dX11_offers_83 rfl (by rw [ev7]; rfl) (by decide) rfl ?_
          clear ev7
          refine v_goto (tgt := 41) dX11_offers_86 (by decide) ?_
          refine v_sub [2, 3, 4, 0] rfl ?_
          exact ih a1 a2 v7 h6 _ hF k
        · replace hF := brF q hF
          refine v_bipush (v := (-4)) dX11_offers_80 (by decide) ?_
          cases hF
          obtain ⟨rfl, rfl⟩ := (k : _ ∧ _)
          exact v_iret rfl dX11_offers_82
set_option maxRecDepth 20000 in
theorem tX11_offers_L94 {X : Cz} {h0 : Hp} {r : Option AV} {hE : Hp} : ∀ (n : Nat) (a1 : Int32) (a2 : Int32) (a3 : Int32) (a4 : Int32) (h : Hp) (z : (Int32 × Int32) × Hp), fX11_offers_L94 n a1 a2 a3 a4 h = some z → V X mX11_offers true h0 161 [(0, zr 11 0), (1, zi a1), (2, zi a2), (3, zi z.1.1), (4, zi z.1.2)] [] z.2 r hE → V X mX11_offers true h0 94 [(0, zr 11 0), (1, zi a1), (2, zi a2), (3, zi a3), (4, zi a4)] [] h r hE := by
  intro n
  induction n with
  | zero => intro a1 a2 a3 a4 h z hF k; cases hF
  | succ n ih =>
    intro a1 a2 a3 a4 h z hF k
    rw [fX11_offers_L94] at hF
    refine v_iload (j := 4) dX11_offers_94 rfl ?_
    refine v_bipush (v := 12) dX11_offers_96 (by decide) ?_
    refine v_icmp_ge dX11_offers_98 (by decide : _ = ((161 : Nat) : Int)) (fun q => ?_) (fun q => ?_)
    · replace hF := brT q hF
      cases hF
      exact k
    · replace hF := brF q hF
      refine v_aload_n (j := 0) dX11_offers_101 rfl ?_
      refine v_getL (c := 11) rfl rfl rfl ly11_1 cz11 flX11_19 dX11_offers_102 ?_
      refine v_iload (j := 4) dX11_offers_105 rfl ?_
      replace hF := bd_use hF
      obtain ⟨r13, h14, er13, hF⟩ := hF
      refine v_cV (hm := h14) (av := [zi a4]) (st := []) (stn := [zi r13]) (tX4_isStaying er13) lcX4_isStaying mlX11_143 imX4_isStaying seX4_isStaying rfl rfl rfl rfl ⟨by decide, by decide⟩ (Nat.le_of_ble_eq_true rfl) dX11_offers_107 rfl rfl ?_
      clear er13
      replace hF := lb_ex hF
      obtain ⟨j15, ej15, hF⟩ := hF
      have j15V : ∀ (x16 : Int32) (h17 : Hp), j15 x16 h17 = some z → V X mX11_offers true h0 128 [(0, zr 11 0), (1, zi a1), (2, zi a2), (3, zi a3), (4, zi a4)] [zi x16] h17 r hE := by
        intro x16 h17 hF
        subst ej15
        refine v_istore (ls' := [(5, zi x16), (0, zr 11 0), (1, zi a1), (2, zi a2), (3, zi a3), (4, zi a4)]) dX11_offers_128 (by decide) rfl ?_
        refine v_aload_n (j := 1) dX11_offers_130 rfl ?_
        refine v_getL (c := 11) rfl rfl rfl ly11_4 cz11 flX11_42 dX11_offers_131 ?_
        refine v_iload_n (j := 2) dX11_offers_134 rfl ?_
        refine v_iload (j := 5) dX11_offers_135 rfl ?_
        refine v_iload (j := 0) dX11_offers_137 rfl ?_
        replace hF := bd_use hF
        obtain ⟨r18, h19, er18, hF⟩ := hF
        refine v_cV (hm := h19) (av := [zi a1, zi a4, zi x16]) (st := []) (stn := []) (tX0_noteOffer er18) lcX0_noteOffer mlX11_260 imX0_noteOffer seX0_noteOffer rfl rfl rfl rfl ⟨by decide, by decide⟩ (Nat.le_of_ble_eq_true rfl) dX11_offers_139 rfl rfl ?_
        clear er18
        refine v_iload_n (j := 4) dX11_offers_142 rfl ?_
        refine v_iload (j := 0) dX11_offers_143 rfl ?_
        refine v_if_le dX11_offers_145 (by decide : _ = ((152 : Nat) : Int)) (fun q => ?_) (fun q => ?_)
        · replace hF := brT q hF
          refine v_iconst (v := 0) dX11_offers_152 (by decide) ?_
          refine v_iadd dX11_offers_153 ?_
          refine v_topi fun v20 ev20 => ?_
          replace hF := lb_use ev20 hF
          clear ev20
          refine v_istore_n (ls' := [(3, zi v20), (5, zi x16), (0, zr 11 0), (1, zi a1), (2, zi a2), (4, zi a4)]) dX11_offers_154 (by decide) rfl ?_
          obtain ⟨v21, ev21⟩ : ∃ y : Int32, y = a4 + 1 := ⟨_, rfl⟩
          replace hF := lb_use ev21 hF
          refine v_iinc (j := 5) (v := v21) (ls' := [(4, zi v21), (3, zi v20), (5, zi x16), (0, zr 11 0), (1, zi a1), (2, zi a2)]) dX11_offers_155 rfl (by rw [ev21]; rfl) (by decide) rfl ?_
          clear ev21
          refine v_goto (tgt := 94) dX11_offers_158 (by decide) ?_
          refine v_sub [3, 4, 5, 1, 0] rfl ?_
          exact ih a1 a2 v20 v21 h19 _ hF k
        · replace hF := brF q hF
          refine v_iconst (v := 1) dX11_offers_148 (by decide) ?_
          refine v_goto (tgt := 153) dX11_offers_149 (by decide) ?_
          refine v_iadd dX11_offers_153 ?_
          refine v_topi fun v22 ev22 => ?_
          replace hF := lb_use ev22 hF
          clear ev22
          refine v_istore_n (ls' := [(3, zi v22), (5, zi x16), (0, zr 11 0), (1, zi a1), (2, zi a2), (4, zi a4)]) dX11_offers_154 (by decide) rfl ?_
          obtain ⟨v23, ev23⟩ : ∃ y : Int32, y = a4 + 1 := ⟨_, rfl⟩
          replace hF := lb_use ev23 hF
          refine v_iinc (j := 5) (v := v23) (ls' := [(4, zi v23), (3, zi v22), (5, zi x16), (0, zr 11 0), (1, zi a1), (2, zi a2)]) dX11_offers_155 rfl (by rw [ev23]; rfl) (by decide) rfl ?_
          clear ev23
          refine v_goto (tgt := 94) dX11_offers_158 (by decide) ?_
          refine v_sub [3, 4, 5, 1, 0] rfl ?_
          exact ih a1 a2 v22 v23 h19 _ hF k
      clear ej15
      refine v_if_eq dX11_offers_110 (by decide : _ = ((127 : Nat) : Int)) (fun q => ?_) (fun q => ?_)
      · replace hF := brT q hF
        refine v_iconst (v := 0) dX11_offers_127 (by decide) ?_
        exact j15V 0 h14 hF
      · replace hF := brF q hF
        refine v_aload_n (j := 0) dX11_offers_113 rfl ?_
        refine v_getL (c := 11) rfl rfl rfl ly11_7 cz11 flX11_65 dX11_offers_114 ?_
        refine v_iload_n (j := 2) dX11_offers_117 rfl ?_
        refine v_iload (j := 4) dX11_offers_118 rfl ?_
        replace hF := bd_use hF
        obtain ⟨r24, h25, er24, hF⟩ := hF
        refine v_cV (hm := h25) (av := [zi a2, zi a4]) (st := []) (stn := [zj r24]) (tX7_numberAt er24) lcX7_numberAt mlX11_254 imX7_numberAt seX7_numberAt rfl rfl rfl rfl ⟨by decide, by decide⟩ (Nat.le_of_ble_eq_true rfl) dX11_offers_120 rfl rfl ?_
        clear er24
        refine v_l2i dX11_offers_123 ?_
        refine v_goto (tgt := 128) dX11_offers_124 (by decide) ?_
        exact j15V r24.toInt32 h25 hF
set_option maxRecDepth 20000 in
theorem tX11_offers {X : Cz} {a1 : Int32} {a2 : Int32} {h hE : Hp} {rE : Int32} (hF : fX11_offers a1 a2 h = some (rE, hE)) : Ct X mX11_offers true [zr 11 0, zi a1, zi a2] h (some (zi rE)) hE := by
  refine Ct_of (by decide) (Nat.le_of_ble_eq_true rfl) (ls := [(0, zr 11 0), (1, zi a1), (2, zi a2)]) rfl ?_
  unfold fX11_offers at hF
  refine v_aload_n (j := 0) dX11_offers_0 rfl ?_
  refine v_getL (c := 11) rfl rfl rfl ly11_4 cz11 flX11_42 dX11_offers_1 ?_
  refine v_iload_n (j := 1) dX11_offers_4 rfl ?_
  refine v_cV (hm := h) (av := [zi a1]) (st := []) (stn := [zi (fX0_isLot a1 h)]) (tX0_isLot a1 h) lcX0_isLot mlX11_242 imX0_isLot seX0_isLot rfl rfl rfl rfl ⟨by decide, by decide⟩ (Nat.le_of_ble_eq_true rfl) dX11_offers_5 rfl rfl ?_
  refine v_if_eq dX11_offers_8 (by decide : _ = ((22 : Nat) : Int)) (fun q => ?_) (fun q => ?_)
  · replace hF := brT q hF
    refine v_bipush (v := (-2)) dX11_offers_22 (by decide) ?_
    obtain ⟨rfl, rfl⟩ := ret_use hF
    exact v_iret rfl dX11_offers_24
  · replace hF := brF q hF
    refine v_aload_n (j := 0) dX11_offers_11 rfl ?_
    refine v_getL (c := 11) rfl rfl rfl ly11_7 cz11 flX11_65 dX11_offers_12 ?_
    refine v_iload_n (j := 2) dX11_offers_15 rfl ?_
    refine v_cV (hm := h) (av := [zi a2]) (st := []) (stn := [zi (fX7_isPlace a2 h)]) (tX7_isPlace a2 h) lcX7_isPlace mlX11_245 imX7_isPlace seX7_isPlace rfl rfl rfl rfl ⟨by decide, by decide⟩ (Nat.le_of_ble_eq_true rfl) dX11_offers_16 rfl rfl ?_
    refine v_if_ne dX11_offers_19 (by decide : _ = ((25 : Nat) : Int)) (fun q => ?_) (fun q => ?_)
    · replace hF := brF q hF
      refine v_aload_n (j := 0) dX11_offers_25 rfl ?_
      refine v_getL (c := 11) rfl rfl rfl ly11_7 cz11 flX11_65 dX11_offers_26 ?_
      refine v_iload_n (j := 2) dX11_offers_29 rfl ?_
      replace hF := bd_use hF
      obtain ⟨r1, h2, er1, hF⟩ := hF
      refine v_cV (hm := h2) (av := [zi a2]) (st := []) (stn := [zi r1]) (tX7_isFilled er1) lcX7_isFilled mlX11_248 imX7_isFilled seX7_isFilled rfl rfl rfl rfl ⟨by decide, by decide⟩ (Nat.le_of_ble_eq_true rfl) dX11_offers_30 rfl rfl ?_
      clear er1
      refine v_if_ne dX11_offers_33 (by decide : _ = ((39 : Nat) : Int)) (fun q => ?_) (fun q => ?_)
      · replace hF := brF q hF
        refine v_iconst (v := 0) dX11_offers_39 (by decide) ?_
        refine v_istore_n (ls' := [(3, zi 0), (0, zr 11 0), (1, zi a1), (2, zi a2)]) dX11_offers_40 (by decide) rfl ?_
        refine v_sub [1, 2, 3, 0] rfl ?_
        replace hF := bd_use hF
        obtain ⟨u11, h8, ev10, hF⟩ := hF
        rcases u11 with r12 | v10
        · obtain ⟨rfl, rfl⟩ := ret_use hF
          exact tX11_offers_L41 _ a1 a2 0 h2 _ ev10 ⟨rfl, rfl⟩
        replace hF := msR hF
        refine tX11_offers_L41 _ a1 a2 0 h2 _ ev10 ?_
        clear ev10
        refine v_iconst (v := 0) dX11_offers_89 (by decide) ?_
        refine v_istore_n (ls' := [(3, zi 0), (0, zr 11 0), (1, zi a1), (2, zi a2)]) dX11_offers_90 (by decide) rfl ?_
        refine v_iconst (v := 0) dX11_offers_91 (by decide) ?_
        refine v_istore (ls' := [(4, zi 0), (3, zi 0), (0, zr 11 0), (1, zi a1), (2, zi a2)]) dX11_offers_92 (by decide) rfl ?_
        refine v_sub [2, 3, 4, 1, 0] rfl ?_
        replace hF := bd_use hF
        obtain ⟨t27, h26, et27, hF⟩ := hF
        refine tX11_offers_L94 _ a1 a2 0 0 h8 _ et27 ?_
        clear et27
        obtain ⟨v28, v29⟩ := t27
        replace hF := lb_use (x := v28) rfl hF
        replace hF := lb_use (x := v29) rfl hF
        refine v_iload_n (j := 3) dX11_offers_161 rfl ?_
        obtain ⟨rfl, rfl⟩ := ret_use hF
        exact v_iret rfl dX11_offers_162
      · replace hF := brT (Decidable.not_not.mp q) hF
        refine v_bipush (v := (-5)) dX11_offers_36 (by decide) ?_
        obtain ⟨rfl, rfl⟩ := ret_use hF
        exact v_iret rfl dX11_offers_38
    · replace hF := brT (Decidable.not_not.mp q) hF
      refine v_bipush (v := (-2)) dX11_offers_22 (by decide) ?_
      obtain ⟨rfl, rfl⟩ := ret_use hF
      exact v_iret rfl dX11_offers_24
