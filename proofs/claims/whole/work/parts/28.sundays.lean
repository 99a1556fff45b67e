/-! functions and ties, printed by program (wip/gen/dec.py) -/
theorem dX9_init_0 : decode cX9_init 0 = .ok (.aload_n 0, 1) := by decide +kernel
theorem dX9_init_1 : decode cX9_init 1 = .ok (.invokespecial 3, 3) := by decide +kernel
theorem dX9_init_4 : decode cX9_init 4 = .ok (.aload_n 0, 1) := by decide +kernel
theorem dX9_init_5 : decode cX9_init 5 = .ok (.sipush 256, 3) := by decide +kernel
theorem dX9_init_8 : decode cX9_init 8 = .ok (.newarray .boolean, 2) := by decide +kernel
theorem dX9_init_10 : decode cX9_init 10 = .ok (.putfield 9, 3) := by decide +kernel
theorem dX9_init_13 : decode cX9_init 13 = .ok (.aload_n 0, 1) := by decide +kernel
theorem dX9_init_14 : decode cX9_init 14 = .ok (.sipush 256, 3) := by decide +kernel
theorem dX9_init_17 : decode cX9_init 17 = .ok (.newarray .boolean, 2) := by decide +kernel
theorem dX9_init_19 : decode cX9_init 19 = .ok (.putfield 15, 3) := by decide +kernel
theorem dX9_init_22 : decode cX9_init 22 = .ok (.aload_n 0, 1) := by decide +kernel
theorem dX9_init_23 : decode cX9_init 23 = .ok (.bipush 60, 2) := by decide +kernel
theorem dX9_init_25 : decode cX9_init 25 = .ok (.newarray .int, 2) := by decide +kernel
theorem dX9_init_27 : decode cX9_init 27 = .ok (.putfield 18, 3) := by decide +kernel
theorem dX9_init_30 : decode cX9_init 30 = .ok (.aload_n 0, 1) := by decide +kernel
theorem dX9_init_31 : decode cX9_init 31 = .ok (.aload_n 1, 1) := by decide +kernel
theorem dX9_init_32 : decode cX9_init 32 = .ok (.putfield 22, 3) := by decide +kernel
theorem dX9_init_35 : decode cX9_init 35 = .ok (.aload_n 0, 1) := by decide +kernel
theorem dX9_init_36 : decode cX9_init 36 = .ok (.aload_n 2, 1) := by decide +kernel
theorem dX9_init_37 : decode cX9_init 37 = .ok (.putfield 26, 3) := by decide +kernel
theorem dX9_init_40 : decode cX9_init 40 = .ok (.aload_n 0, 1) := by decide +kernel
theorem dX9_init_41 : decode cX9_init 41 = .ok (.aload_n 3, 1) := by decide +kernel
theorem dX9_init_42 : decode cX9_init 42 = .ok (.putfield 30, 3) := by decide +kernel
theorem dX9_init_45 : decode cX9_init 45 = .ok (.return_, 1) := by decide +kernel
def fX9_init (a0 : Nat) (a1 : Option Nat) (a2 : Option Nat) (a3 : Option Nat) (h : Hp) : Option (Unit × Hp) := lb (gN h 45) (fun z1 => lb (nw h 45 256) (fun h2 => lb (sR h2 9 a0 3 (some z1)) (fun h3 => lb (gN h3 46) (fun z4 => lb (nw h3 46 256) (fun h5 => lb (sR h5 9 a0 4 (some z4)) (fun h6 => lb (gN h6 47) (fun z7 => lb (nw h6 47 60) (fun h8 => lb (sR h8 9 a0 8 (some z7)) (fun h9 => lb (sR h9 9 a0 0 a1) (fun h10 => lb (sR h10 9 a0 1 a2) (fun h11 => lb (sR h11 9 a0 2 a3) (fun h12 => some ((), h12)))))))))))))
set_option maxRecDepth 20000 in
theorem tX9_init {X : Cz} {a0 : Nat} {a1 : Option Nat} {a2 : Option Nat} {a3 : Option Nat} {h hE : Hp} {rE : Unit} (hF : fX9_init a0 a1 a2 a3 h = some (rE, hE)) : Ct X mX9_init false [zr 9 a0, zq 1 a1, zq 4 a2, zq 10 a3] h (none) hE := by
  refine Ct_of (by decide) (Nat.le_of_ble_eq_true rfl) (ls := [(0, zr 9 a0), (1, zq 1 a1), (2, zq 4 a2), (3, zq 10 a3)]) rfl ?_
  unfold fX9_init at hF
  refine v_aload_n (j := 0) dX9_init_0 rfl ?_
  refine v_objI mlX9_3 oiI oiC (by decide) (Nat.le_of_ble_eq_true rfl) dX9_init_1 ?_
  refine v_aload_n (j := 0) dX9_init_4 rfl ?_
  refine v_sipush (v := 256) dX9_init_5 (by decide) ?_
  refine v_newa (k := 45) (idx := 0) (at0 := .boolean) rfl (by decide) rfl ac_boolean (by decide) (by decide) (by decide) (Or.inl rfl) dX9_init_8 ?_
  refine v_topr fun z1 ez1 => ?_
  replace hF := lb_use ez1 hF
  clear ez1
  refine v_toph fun h2 eh2 => ?_
  replace hF := lb_use eh2 hF
  clear eh2
  refine v_putFR (o := some z1) (c := 9) (k2 := 45) rfl rfl (Nat.le_of_ble_eq_true rfl) rfl (Or.inl rfl) cz9 flX9_9 rfl (fun q hq => by cases hq; rfl) dX9_init_10 ?_
  refine v_toph fun h3 eh3 => ?_
  replace hF := lb_use eh3 hF
  clear eh3
  refine v_aload_n (j := 0) dX9_init_13 rfl ?_
  refine v_sipush (v := 256) dX9_init_14 (by decide) ?_
  refine v_newa (k := 46) (idx := 0) (at0 := .boolean) rfl (by decide) rfl ac_boolean (by decide) (by decide) (by decide) (Or.inl rfl) dX9_init_17 ?_
  refine v_topr fun z4 ez4 => ?_
  replace hF := lb_use ez4 hF
  clear ez4
  refine v_toph fun h5 eh5 => ?_
  replace hF := lb_use eh5 hF
  clear eh5
  refine v_putFR (o := some z4) (c := 9) (k2 := 46) rfl rfl (Nat.le_of_ble_eq_true rfl) rfl (Or.inl rfl) cz9 flX9_15 rfl (fun q hq => by cases hq; rfl) dX9_init_19 ?_
  refine v_toph fun h6 eh6 => ?_
  replace hF := lb_use eh6 hF
  clear eh6
  refine v_aload_n (j := 0) dX9_init_22 rfl ?_
  refine v_bipush (v := 60) dX9_init_23 (by decide) ?_
  refine v_newa (k := 47) (idx := 0) (at0 := .int) rfl (by decide) rfl ac_int (by decide) (by decide) (by decide) (Or.inl rfl) dX9_init_25 ?_
  refine v_topr fun z7 ez7 => ?_
  replace hF := lb_use ez7 hF
  clear ez7
  refine v_toph fun h8 eh8 => ?_
  replace hF := lb_use eh8 hF
  clear eh8
  refine v_putFR (o := some z7) (c := 9) (k2 := 47) rfl rfl (Nat.le_of_ble_eq_true rfl) rfl (Or.inl rfl) cz9 flX9_18 rfl (fun q hq => by cases hq; rfl) dX9_init_27 ?_
  refine v_toph fun h9 eh9 => ?_
  replace hF := lb_use eh9 hF
  clear eh9
  refine v_aload_n (j := 0) dX9_init_30 rfl ?_
  refine v_aload_n (j := 1) dX9_init_31 rfl ?_
  refine v_putFR (o := a1) (c := 9) (k2 := 1) rfl rfl (Nat.le_of_ble_eq_true rfl) rfl (Or.inl rfl) cz9 flX9_22 rfl (fun q hq => by cases hq; rfl) dX9_init_32 ?_
  refine v_toph fun h10 eh10 => ?_
  replace hF := lb_use eh10 hF
  clear eh10
  refine v_aload_n (j := 0) dX9_init_35 rfl ?_
  refine v_aload_n (j := 2) dX9_init_36 rfl ?_
  refine v_putFR (o := a2) (c := 9) (k2 := 4) rfl rfl (Nat.le_of_ble_eq_true rfl) rfl (Or.inl rfl) cz9 flX9_26 rfl (fun q hq => by cases hq; rfl) dX9_init_37 ?_
  refine v_toph fun h11 eh11 => ?_
  replace hF := lb_use eh11 hF
  clear eh11
  refine v_aload_n (j := 0) dX9_init_40 rfl ?_
  refine v_aload_n (j := 3) dX9_init_41 rfl ?_
  refine v_putFR (o := a3) (c := 9) (k2 := 10) rfl rfl (Nat.le_of_ble_eq_true rfl) rfl (Or.inl rfl) cz9 flX9_30 rfl (fun q hq => by cases hq; rfl) dX9_init_42 ?_
  refine v_toph fun h12 eh12 => ?_
  replace hF := lb_use eh12 hF
  clear eh12
  cases hF
  exact v_vret rfl dX9_init_45
theorem dX9_canCome_0 : decode cX9_canCome 0 = .ok (.iconst 0, 1) := by decide +kernel
theorem dX9_canCome_1 : decode cX9_canCome 1 = .ok (.istore_n 3, 1) := by decide +kernel
theorem dX9_canCome_2 : decode cX9_canCome 2 = .ok (.iconst 0, 1) := by decide +kernel
theorem dX9_canCome_3 : decode cX9_canCome 3 = .ok (.istore 4, 2) := by decide +kernel
theorem dX9_canCome_5 : decode cX9_canCome 5 = .ok (.iload 4, 2) := by decide +kernel
theorem dX9_canCome_7 : decode cX9_canCome 7 = .ok (.aload_n 1, 1) := by decide +kernel
theorem dX9_canCome_8 : decode cX9_canCome 8 = .ok (.iload_n 2, 1) := by decide +kernel
theorem dX9_canCome_9 : decode cX9_canCome 9 = .ok (.invokevirtual 34, 3) := by decide +kernel
theorem dX9_canCome_12 : decode cX9_canCome 12 = .ok (.if_icmp .ge 80, 3) := by decide +kernel
theorem dX9_canCome_15 : decode cX9_canCome 15 = .ok (.aload_n 1, 1) := by decide +kernel
theorem dX9_canCome_16 : decode cX9_canCome 16 = .ok (.iload_n 2, 1) := by decide +kernel
theorem dX9_canCome_17 : decode cX9_canCome 17 = .ok (.iload 4, 2) := by decide +kernel
theorem dX9_canCome_19 : decode cX9_canCome 19 = .ok (.invokevirtual 40, 3) := by decide +kernel
theorem dX9_canCome_22 : decode cX9_canCome 22 = .ok (.lstore 5, 2) := by decide +kernel
theorem dX9_canCome_24 : decode cX9_canCome 24 = .ok (.lload 5, 2) := by decide +kernel
theorem dX9_canCome_26 : decode cX9_canCome 26 = .ok (.ldc2_w 44, 3) := by decide +kernel
theorem dX9_canCome_29 : decode cX9_canCome 29 = .ok (.lcmp, 1) := by decide +kernel
theorem dX9_canCome_30 : decode cX9_canCome 30 = .ok (.ifCond .lt 12, 3) := by decide +kernel
theorem dX9_canCome_33 : decode cX9_canCome 33 = .ok (.lload 5, 2) := by decide +kernel
theorem dX9_canCome_35 : decode cX9_canCome 35 = .ok (.ldc2_w 46, 3) := by decide +kernel
theorem dX9_canCome_38 : decode cX9_canCome 38 = .ok (.lcmp, 1) := by decide +kernel
theorem dX9_canCome_39 : decode cX9_canCome 39 = .ok (.ifCond .lt 5, 3) := by decide +kernel
theorem dX9_canCome_42 : decode cX9_canCome 42 = .ok (.iconst 0, 1) := by decide +kernel
theorem dX9_canCome_43 : decode cX9_canCome 43 = .ok (.ireturn, 1) := by decide +kernel
theorem dX9_canCome_44 : decode cX9_canCome 44 = .ok (.lload 5, 2) := by decide +kernel
theorem dX9_canCome_46 : decode cX9_canCome 46 = .ok (.lconst 0, 1) := by decide +kernel
theorem dX9_canCome_47 : decode cX9_canCome 47 = .ok (.lcmp, 1) := by decide +kernel
theorem dX9_canCome_48 : decode cX9_canCome 48 = .ok (.ifCond .lt 38, 3) := by decide +kernel
theorem dX9_canCome_51 : decode cX9_canCome 51 = .ok (.lload 5, 2) := by decide +kernel
theorem dX9_canCome_53 : decode cX9_canCome 53 = .ok (.l2i, 1) := by decide +kernel
theorem dX9_canCome_54 : decode cX9_canCome 54 = .ok (.istore 7, 2) := by decide +kernel
theorem dX9_canCome_56 : decode cX9_canCome 56 = .ok (.aload_n 0, 1) := by decide +kernel
theorem dX9_canCome_57 : decode cX9_canCome 57 = .ok (.getfield 26, 3) := by decide +kernel
theorem dX9_canCome_60 : decode cX9_canCome 60 = .ok (.iload 7, 2) := by decide +kernel
theorem dX9_canCome_62 : decode cX9_canCome 62 = .ok (.invokevirtual 48, 3) := by decide +kernel
theorem dX9_canCome_65 : decode cX9_canCome 65 = .ok (.ifCond .eq 12, 3) := by decide +kernel
theorem dX9_canCome_68 : decode cX9_canCome 68 = .ok (.iload_n 3, 1) := by decide +kernel
theorem dX9_canCome_69 : decode cX9_canCome 69 = .ok (.iload 7, 2) := by decide +kernel
theorem dX9_canCome_71 : decode cX9_canCome 71 = .ok (.ishr, 1) := by decide +kernel
theorem dX9_canCome_72 : decode cX9_canCome 72 = .ok (.iconst 1, 1) := by decide +kernel
theorem dX9_canCome_73 : decode cX9_canCome 73 = .ok (.iand, 1) := by decide +kernel
theorem dX9_canCome_74 : decode cX9_canCome 74 = .ok (.ifCond .eq 5, 3) := by decide +kernel
theorem dX9_canCome_77 : decode cX9_canCome 77 = .ok (.iconst 0, 1) := by decide +kernel
theorem dX9_canCome_78 : decode cX9_canCome 78 = .ok (.ireturn, 1) := by decide +kernel
theorem dX9_canCome_79 : decode cX9_canCome 79 = .ok (.iload_n 3, 1) := by decide +kernel
theorem dX9_canCome_80 : decode cX9_canCome 80 = .ok (.iconst 1, 1) := by decide +kernel
theorem dX9_canCome_81 : decode cX9_canCome 81 = .ok (.iload 7, 2) := by decide +kernel
theorem dX9_canCome_83 : decode cX9_canCome 83 = .ok (.ishl, 1) := by decide +kernel
theorem dX9_canCome_84 : decode cX9_canCome 84 = .ok (.ior, 1) := by decide +kernel
theorem dX9_canCome_85 : decode cX9_canCome 85 = .ok (.istore_n 3, 1) := by decide +kernel
theorem dX9_canCome_86 : decode cX9_canCome 86 = .ok (.iinc 4 1, 3) := by decide +kernel
theorem dX9_canCome_89 : decode cX9_canCome 89 = .ok (.goto (-84), 3) := by decide +kernel
theorem dX9_canCome_92 : decode cX9_canCome 92 = .ok (.iconst 1, 1) := by decide +kernel
theorem dX9_canCome_93 : decode cX9_canCome 93 = .ok (.ireturn, 1) := by decide +kernel
def fX9_canCome_L5 : Nat → Int32 → Int32 → Int32 → Hp → Option ((Int32 ⊕ (Int32 × Int32)) × Hp)
  | 0, _, _, _, _ => none
  | n + 1, a2, a3, a4, h => bd (fX7_lengthOf a2 h) (fun r1 h2 => br (r1 ≤ a4) (some (.inr (a3, a4), h2)) (bd (fX7_numberAt a2 a4 h2) (fun r3 h4 => br (r3 < (-12 : Int64)) (some (.inl 0, h4)) (br (r3 < (12 : Int64)) (br (r3 < (0 : Int64)) (lb (a4 + 1) (fun v5 => fX9_canCome_L5 n a2 a3 v5 h4)) (bd (fX4_isStaying r3.toInt32 h4) (fun r6 h7 => br (r6 = 0) (some (.inl 0, h7)) (br (((a3 >>> (r3.toInt32 &&& 31)) &&& 1) = 0) (lb (a3 ||| ((1 : Int32) <<< (r3.toInt32 &&& 31))) (fun v8 => lb (a4 + 1) (fun v9 => fX9_canCome_L5 n a2 v8 v9 h7))) (some (.inl 0, h7)))))) (some (.inl 0, h4))))))
def fX9_canCome (a2 : Int32) (h : Hp) : Option (Int32 × Hp) := bd (fX9_canCome_L5 FU a2 0 0 h) (fun u14 h10 => ms u14 (fun r15 => some (r15, h10)) (fun t11 => lb t11.1 (fun v12 => lb t11.2 (fun v13 => some (1, h10)))))
set_option maxRecDepth 20000 in
theorem tX9_canCome_L5 {X : Cz} {h0 : Hp} {r : Option AV} {hE : Hp} : ∀ (n : Nat) (a2 : Int32) (a3 : Int32) (a4 : Int32) (h : Hp) (z : (Int32 ⊕ (Int32 × Int32)) × Hp), fX9_canCome_L5 n a2 a3 a4 h = some z → lk z r hE (fun v => some (zi v)) (fun t hx => V X mX9_canCome true h0 92 [(0, zr 9 0), (1, zr 7 0), (2, zi a2), (3, zi t.1), (4, zi t.2)] [] hx r hE) → V X mX9_canCome true h0 5 [(0, zr 9 0), (1, zr 7 0), (2, zi a2), (3, zi a3), (4, zi a4)] [] h r hE := by
  intro n
  induction n with
  | zero => intro a2 a3 a4 h z hF k; cases hF
  | succ n ih =>
    intro a2 a3 a4 h z hF k
    rw [fX9_canCome_L5] at hF
    refine v_iload (j := 4) dX9_canCome_5 rfl ?_
    refine v_aload_n (j := 1) dX9_canCome_7 rfl ?_
    refine v_iload_n (j := 2) dX9_canCome_8 rfl ?_
    replace hF := bd_use hF
    obtain ⟨r1, h2, er1, hF⟩ := hF
    refine v_cV (hm := h2) (av := [zi a2]) (st := [zi a4]) (stn := [zi r1, zi a4]) (tX7_lengthOf er1) lcX7_lengthOf mlX9_34 imX7_lengthOf seX7_lengthOf rfl rfl rfl rfl ⟨by decide, by decide⟩ (Nat.le_of_ble_eq_true rfl) dX9_canCome_9 rfl rfl ?_
    clear er1
    refine v_icmp_ge dX9_canCome_12 (by decide : _ = ((92 : Nat) : Int)) (fun q => ?_) (fun q => ?_)
    · replace hF := brT q hF
      cases hF
      exact k
    · replace hF := brF q hF
      refine v_aload_n (j := 1) dX9_canCome_15 rfl ?_
      refine v_iload_n (j := 2) dX9_canCome_16 rfl ?_
      refine v_iload (j := 4) dX9_canCome_17 rfl ?_
      replace hF := bd_use hF
      obtain ⟨r3, h4, er3, hF⟩ := hF
      refine v_cV (hm := h4) (av := [zi a2, zi a4]) (st := []) (stn := [zj r3]) (tX7_numberAt er3) lcX7_numberAt mlX9_40 imX7_numberAt seX7_numberAt rfl rfl rfl rfl ⟨by decide, by decide⟩ (Nat.le_of_ble_eq_true rfl) dX9_canCome_19 rfl rfl ?_
      clear er3
      refine v_lstore (ls' := [(5, zj r3), (0, zr 9 0), (1, zr 7 0), (2, zi a2), (3, zi a3), (4, zi a4)]) dX9_canCome_22 (by decide) rfl ?_
      refine v_lload (j := 0) dX9_canCome_24 rfl ?_
      refine v_ldc2 dX9_canCome_26 kcX9_44 ?_
      refine v_lif_lt (x := r3) (y := (-12 : Int64)) dX9_canCome_29 dX9_canCome_30 (by decide : _ = ((42 : Nat) : Int)) (fun q => ?_) (fun q => ?_)
      · replace hF := brT q hF
        refine v_iconst (v := 0) dX9_canCome_42 (by decide) ?_
        cases hF
        obtain ⟨rfl, rfl⟩ := (k : _ ∧ _)
        exact v_zret rfl (Or.inl rfl) dX9_canCome_43
      · replace hF := brF q hF
        refine v_lload (j := 0) dX9_canCome_33 rfl ?_
        refine v_ldc2 dX9_canCome_35 kcX9_46 ?_
        refine v_lif_lt (x := r3) (y := (12 : Int64)) dX9_canCome_38 dX9_canCome_39 (by decide : _ = ((44 : Nat) : Int)) (fun q => ?_) (fun q => ?_)
        · replace hF := brT q hF
          refine v_lload (j := 0) dX9_canCome_44 rfl ?_
          refine v_lconst (v := 0) dX9_canCome_46 (by decide) ?_
          refine v_lif_lt (x := r3) (y := (0 : Int64)) dX9_canCome_47 dX9_canCome_48 (by decide : _ = ((86 : Nat) : Int)) (fun q => ?_) (fun q => ?_)
          · replace hF := brT q hF
            obtain ⟨v5, ev5⟩ : ∃ y : Int32, y = a4 + 1 := ⟨_, rfl⟩
            replace hF := lb_use ev5 hF
            refine v_iinc (j := 5) (v := v5) (ls' := [(4, zi v5), (5, zj r3), (0, zr 9 0), (1, zr 7 0), (2, zi a2), (3, zi a3)]) dX9_canCome_86 rfl (by rw [ev5]; rfl) (by decide) rfl ?_
            clear ev5
            refine v_goto (tgt := 5) dX9_canCome_89 (by decide) ?_
            refine v_sub [2, 3, 4, 5, 0] rfl ?_
            exact ih a2 a3 v5 h4 _ hF k
          · replace hF := brF q hF
            refine v_lload (j := 0) dX9_canCome_51 rfl ?_
            refine v_l2i dX9_canCome_53 ?_
            refine v_istore (ls' := [(7, zi r3.toInt32), (5, zj r3), (0, zr 9 0), (1, zr 7 0), (2, zi a2), (3, zi a3), (4, zi a4)]) dX9_canCome_54 (by decide) rfl ?_
            refine v_aload_n (j := 2) dX9_canCome_56 rfl ?_
            refine v_getL (c := 9) rfl rfl rfl ly9_1 cz9 flX9_26 dX9_canCome_57 ?_
            refine v_iload (j := 0) dX9_canCome_60 rfl ?_
            replace hF := bd_use hF
            obtain ⟨r6, h7, er6, hF⟩ := hF
            refine v_cV (hm := h7) (av := [zi r3.toInt32]) (st := []) (stn := [zi r6]) (tX4_isStaying er6) lcX4_isStaying mlX9_48 imX4_isStaying seX4_isStaying rfl rfl rfl rfl ⟨by decide, by decide⟩ (Nat.le_of_ble_eq_true rfl) dX9_canCome_62 rfl rfl ?_
            clear er6
            refine v_if_eq dX9_canCome_65 (by decide : _ = ((77 : Nat) : Int)) (fun q => ?_) (fun q => ?_)
            · replace hF := brT q hF
              refine v_iconst (v := 0) dX9_canCome_77 (by decide) ?_
              cases hF
              obtain ⟨rfl, rfl⟩ := (k : _ ∧ _)
              exact v_zret rfl (Or.inl rfl) dX9_canCome_78
            · replace hF := brF q hF
              refine v_iload_n (j := 5) dX9_canCome_68 rfl ?_
              refine v_iload (j := 0) dX9_canCome_69 rfl ?_
              refine v_ishr dX9_canCome_71 ?_
              refine v_iconst (v := 1) dX9_canCome_72 (by decide) ?_
              refine v_iand dX9_canCome_73 ?_
              refine v_if_eq dX9_canCome_74 (by decide : _ = ((79 : Nat) : Int)) (fun q => ?_) (fun q => ?_)
              · replace hF := brT q hF
                refine v_iload_n (j := 5) dX9_canCome_79 rfl ?_
                refine v_iconst (v := 1) dX9_canCome_80 (by decide) ?_
                refine v_iload (j := 0) dX9_canCome_81 rfl ?_
                refine v_ishl dX9_canCome_83 ?_
                refine v_ior dX9_canCome_84 ?_
                refine v_topi fun v8 ev8 => ?_
                replace hF := lb_use ev8 hF
                clear ev8
                refine v_istore_n (ls' := [(3, zi v8), (7, zi r3.toInt32), (5, zj r3), (0, zr 9 0), (1, zr 7 0), (2, zi a2), (4, zi a4)]) dX9_canCome_85 (by decide) rfl ?_
                obtain ⟨v9, ev9⟩ : ∃ y : Int32, y = a4 + 1 := ⟨_, rfl⟩
                replace hF := lb_use ev9 hF
                refine v_iinc (j := 6) (v := v9) (ls' := [(4, zi v9), (3, zi v8), (7, zi r3.toInt32), (5, zj r3), (0, zr 9 0), (1, zr 7 0), (2, zi a2)]) dX9_canCome_86 rfl (by rw [ev9]; rfl) (by decide) rfl ?_
                clear ev9
                refine v_goto (tgt := 5) dX9_canCome_89 (by decide) ?_
                refine v_sub [4, 5, 6, 1, 0] rfl ?_
                exact ih a2 v8 v9 h7 _ hF k
              · replace hF := brF q hF
                refine v_iconst (v := 0) dX9_canCome_77 (by decide) ?_
                cases hF
                obtain ⟨rfl, rfl⟩ := (k : _ ∧ _)
                exact v_zret rfl (Or.inl rfl) dX9_canCome_78
        · replace hF := brF q hF
          refine v_iconst (v := 0) dX9_canCome_42 (by decide) ?_
          cases hF
          obtain ⟨rfl, rfl⟩ := (k : _ ∧ _)
          exact v_zret rfl (Or.inl rfl) dX9_canCome_43
set_option maxRecDepth 20000 in
theorem tX9_canCome {X : Cz} {a2 : Int32} {h hE : Hp} {rE : Int32} (hF : fX9_canCome a2 h = some (rE, hE)) : Ct X mX9_canCome true [zr 9 0, zr 7 0, zi a2] h (some (zi rE)) hE := by
  refine Ct_of (by decide) (Nat.le_of_ble_eq_true rfl) (ls := [(0, zr 9 0), (1, zr 7 0), (2, zi a2)]) rfl ?_
  unfold fX9_canCome at hF
  refine v_iconst (v := 0) dX9_canCome_0 (by decide) ?_
  refine v_istore_n (ls' := [(3, zi 0), (0, zr 9 0), (1, zr 7 0), (2, zi a2)]) dX9_canCome_1 (by decide) rfl ?_
  refine v_iconst (v := 0) dX9_canCome_2 (by decide) ?_
  refine v_istore (ls' := [(4, zi 0), (3, zi 0), (0, zr 9 0), (1, zr 7 0), (2, zi a2)]) dX9_canCome_3 (by decide) rfl ?_
  refine v_sub [2, 3, 4, 1, 0] rfl ?_
  replace hF := bd_use hF
  obtain ⟨u14, h10, et11, hF⟩ := hF
  rcases u14 with r15 | t11
  · obtain ⟨rfl, rfl⟩ := ret_use hF
    exact tX9_canCome_L5 _ a2 0 0 h _ et11 ⟨rfl, rfl⟩
  replace hF := msR hF
  refine tX9_canCome_L5 _ a2 0 0 h _ et11 ?_
  show V X _ _ _ _ _ _ _ _ _
  clear et11
  obtain ⟨v12, v13⟩ := t11
  replace hF := lb_use (x := v12) rfl hF
  replace hF := lb_use (x := v13) rfl hF
  refine v_iconst (v := 1) dX9_canCome_92 (by decide) ?_
  obtain ⟨rfl, rfl⟩ := ret_use hF
  exact v_zret rfl (Or.inr rfl) dX9_canCome_93
theorem dX9_keepRun_0 : decode cX9_keepRun 0 = .ok (.iload_n 1, 1) := by decide +kernel
theorem dX9_keepRun_1 : decode cX9_keepRun 1 = .ok (.istore_n 3, 1) := by decide +kernel
theorem dX9_keepRun_2 : decode cX9_keepRun 2 = .ok (.iload_n 3, 1) := by decide +kernel
theorem dX9_keepRun_3 : decode cX9_keepRun 3 = .ok (.iload_n 1, 1) := by decide +kernel
theorem dX9_keepRun_4 : decode cX9_keepRun 4 = .ok (.iload_n 2, 1) := by decide +kernel
theorem dX9_keepRun_5 : decode cX9_keepRun 5 = .ok (.iadd, 1) := by decide +kernel
theorem dX9_keepRun_6 : decode cX9_keepRun 6 = .ok (.if_icmp .ge 23, 3) := by decide +kernel
theorem dX9_keepRun_9 : decode cX9_keepRun 9 = .ok (.iload_n 3, 1) := by decide +kernel
theorem dX9_keepRun_10 : decode cX9_keepRun 10 = .ok (.sipush 256, 3) := by decide +kernel
theorem dX9_keepRun_13 : decode cX9_keepRun 13 = .ok (.if_icmp .ge 16, 3) := by decide +kernel
theorem dX9_keepRun_16 : decode cX9_keepRun 16 = .ok (.aload_n 0, 1) := by decide +kernel
theorem dX9_keepRun_17 : decode cX9_keepRun 17 = .ok (.getfield 9, 3) := by decide +kernel
theorem dX9_keepRun_20 : decode cX9_keepRun 20 = .ok (.iload_n 3, 1) := by decide +kernel
theorem dX9_keepRun_21 : decode cX9_keepRun 21 = .ok (.iconst 0, 1) := by decide +kernel
theorem dX9_keepRun_22 : decode cX9_keepRun 22 = .ok (.bastore, 1) := by decide +kernel
theorem dX9_keepRun_23 : decode cX9_keepRun 23 = .ok (.iinc 3 1, 3) := by decide +kernel
theorem dX9_keepRun_26 : decode cX9_keepRun 26 = .ok (.goto (-24), 3) := by decide +kernel
theorem dX9_keepRun_29 : decode cX9_keepRun 29 = .ok (.return_, 1) := by decide +kernel
def fX9_keepRun_L2 : Nat → Int32 → Int32 → Int32 → Hp → Option ((Int32) × Hp)
  | 0, _, _, _, _ => none
  | n + 1, a1, a2, a3, h => br ((a1 + a2) ≤ a3) (some ((a3), h)) (br (256 ≤ a3) (some ((a3), h)) (gd (ib a3 256) (lb (sI h 45 0 (ix a3) 0) (fun h2 => lb (a3 + 1) (fun v3 => fX9_keepRun_L2 n a1 a2 v3 h2)))))
def fX9_keepRun (a1 : Int32) (a2 : Int32) (h : Hp) : Option (Unit × Hp) := bd (fX9_keepRun_L2 FU a1 a2 a1 h) (fun v6 h4 => some ((), h4))
set_option maxRecDepth 20000 in
theorem tX9_keepRun_L2 {X : Cz} {h0 : Hp} {r : Option AV} {hE : Hp} : ∀ (n : Nat) (a1 : Int32) (a2 : Int32) (a3 : Int32) (h : Hp) (z : (Int32) × Hp), fX9_keepRun_L2 n a1 a2 a3 h = some z → V X mX9_keepRun true h0 29 [(0, zr 9 0), (1, zi a1), (2, zi a2), (3, zi z.1)] [] z.2 r hE → V X mX9_keepRun true h0 2 [(0, zr 9 0), (1, zi a1), (2, zi a2), (3, zi a3)] [] h r hE := by
  intro n
  induction n with
  | zero => intro a1 a2 a3 h z hF k; cases hF
  | succ n ih =>
    intro a1 a2 a3 h z hF k
    rw [fX9_keepRun_L2] at hF
    refine v_iload_n (j := 3) dX9_keepRun_2 rfl ?_
    refine v_iload_n (j := 1) dX9_keepRun_3 rfl ?_
    refine v_iload_n (j := 2) dX9_keepRun_4 rfl ?_
    refine v_iadd dX9_keepRun_5 ?_
    refine v_icmp_ge dX9_keepRun_6 (by decide : _ = ((29 : Nat) : Int)) (fun q => ?_) (fun q => ?_)
    · replace hF := brT q hF
      cases hF
      exact k
    · replace hF := brF q hF
      refine v_iload_n (j := 3) dX9_keepRun_9 rfl ?_
      refine v_sipush (v := 256) dX9_keepRun_10 (by decide) ?_
      refine v_icmp_ge dX9_keepRun_13 (by decide : _ = ((29 : Nat) : Int)) (fun q => ?_) (fun q => ?_)
      · replace hF := brT q hF
        cases hF
        exact k
      · replace hF := brF q hF
        refine v_aload_n (j := 0) dX9_keepRun_16 rfl ?_
        refine v_getL (c := 9) rfl rfl rfl ly9_3 cz9 flX9_9 dX9_keepRun_17 ?_
        refine v_iload_n (j := 3) dX9_keepRun_20 rfl ?_
        refine v_iconst (v := 0) dX9_keepRun_21 (by decide) ?_
        replace hF := gd_use hF
        obtain ⟨q1, hF⟩ := hF
        refine v_zastL rfl q1 (Or.inl rfl) dX9_keepRun_22 ?_
        refine v_toph fun h2 eh2 => ?_
        replace hF := lb_use eh2 hF
        clear eh2
        obtain ⟨v3, ev3⟩ : ∃ y : Int32, y = a3 + 1 := ⟨_, rfl⟩
        replace hF := lb_use ev3 hF
        refine v_iinc (j := 3) (v := v3) (ls' := [(3, zi v3), (0, zr 9 0), (1, zi a1), (2, zi a2)]) dX9_keepRun_23 rfl (by rw [ev3]; rfl) (by decide) rfl ?_
        clear ev3
        refine v_goto (tgt := 2) dX9_keepRun_26 (by decide) ?_
        refine v_sub [1, 2, 3, 0] rfl ?_
        exact ih a1 a2 v3 h2 _ hF k
set_option maxRecDepth 20000 in
theorem tX9_keepRun {X : Cz} {a1 : Int32} {a2 : Int32} {h hE : Hp} {rE : Unit} (hF : fX9_keepRun a1 a2 h = some (rE, hE)) : Ct X mX9_keepRun true [zr 9 0, zi a1, zi a2] h (none) hE := by
  refine Ct_of (by decide) (Nat.le_of_ble_eq_true rfl) (ls := [(0, zr 9 0), (1, zi a1), (2, zi a2)]) rfl ?_
  unfold fX9_keepRun at hF
  refine v_iload_n (j := 1) dX9_keepRun_0 rfl ?_
  refine v_istore_n (ls' := [(3, zi a1), (0, zr 9 0), (1, zi a1), (2, zi a2)]) dX9_keepRun_1 (by decide) rfl ?_
  refine v_sub [1, 2, 3, 0] rfl ?_
  replace hF := bd_use hF
  obtain ⟨v6, h4, ev6, hF⟩ := hF
  refine tX9_keepRun_L2 _ a1 a2 a1 h _ ev6 ?_
  clear ev6
  cases hF
  exact v_vret rfl dX9_keepRun_29
theorem dX9_open_0 : decode cX9_open 0 = .ok (.aload_n 0, 1) := by decide +kernel
theorem dX9_open_1 : decode cX9_open 1 = .ok (.aload_n 2, 1) := by decide +kernel
theorem dX9_open_2 : decode cX9_open 2 = .ok (.putfield 54, 3) := by decide +kernel
theorem dX9_open_5 : decode cX9_open 5 = .ok (.aload_n 0, 1) := by decide +kernel
theorem dX9_open_6 : decode cX9_open 6 = .ok (.iload_n 3, 1) := by decide +kernel
theorem dX9_open_7 : decode cX9_open 7 = .ok (.putfield 58, 3) := by decide +kernel
theorem dX9_open_10 : decode cX9_open 10 = .ok (.iconst 0, 1) := by decide +kernel
theorem dX9_open_11 : decode cX9_open 11 = .ok (.istore 4, 2) := by decide +kernel
theorem dX9_open_13 : decode cX9_open 13 = .ok (.iload 4, 2) := by decide +kernel
theorem dX9_open_15 : decode cX9_open 15 = .ok (.sipush 256, 3) := by decide +kernel
theorem dX9_open_18 : decode cX9_open 18 = .ok (.if_icmp .ge 37, 3) := by decide +kernel
theorem dX9_open_21 : decode cX9_open 21 = .ok (.aload_n 0, 1) := by decide +kernel
theorem dX9_open_22 : decode cX9_open 22 = .ok (.getfield 15, 3) := by decide +kernel
theorem dX9_open_25 : decode cX9_open 25 = .ok (.iload 4, 2) := by decide +kernel
theorem dX9_open_27 : decode cX9_open 27 = .ok (.iconst 0, 1) := by decide +kernel
theorem dX9_open_28 : decode cX9_open 28 = .ok (.bastore, 1) := by decide +kernel
theorem dX9_open_29 : decode cX9_open 29 = .ok (.aload_n 0, 1) := by decide +kernel
theorem dX9_open_30 : decode cX9_open 30 = .ok (.getfield 9, 3) := by decide +kernel
theorem dX9_open_33 : decode cX9_open 33 = .ok (.iload 4, 2) := by decide +kernel
theorem dX9_open_35 : decode cX9_open 35 = .ok (.aload_n 1, 1) := by decide +kernel
theorem dX9_open_36 : decode cX9_open 36 = .ok (.iload 4, 2) := by decide +kernel
theorem dX9_open_38 : decode cX9_open 38 = .ok (.iaload, 1) := by decide +kernel
theorem dX9_open_39 : decode cX9_open 39 = .ok (.iconst (-1), 1) := by decide +kernel
theorem dX9_open_40 : decode cX9_open 40 = .ok (.if_icmp .ne 7, 3) := by decide +kernel
theorem dX9_open_43 : decode cX9_open 43 = .ok (.iconst 1, 1) := by decide +kernel
theorem dX9_open_44 : decode cX9_open 44 = .ok (.goto 4, 3) := by decide +kernel
theorem dX9_open_47 : decode cX9_open 47 = .ok (.iconst 0, 1) := by decide +kernel
theorem dX9_open_48 : decode cX9_open 48 = .ok (.bastore, 1) := by decide +kernel
theorem dX9_open_49 : decode cX9_open 49 = .ok (.iinc 4 1, 3) := by decide +kernel
theorem dX9_open_52 : decode cX9_open 52 = .ok (.goto (-39), 3) := by decide +kernel
theorem dX9_open_55 : decode cX9_open 55 = .ok (.iconst 0, 1) := by decide +kernel
theorem dX9_open_56 : decode cX9_open 56 = .ok (.istore 4, 2) := by decide +kernel
theorem dX9_open_58 : decode cX9_open 58 = .ok (.iload 4, 2) := by decide +kernel
theorem dX9_open_60 : decode cX9_open 60 = .ok (.bipush 12, 2) := by decide +kernel
theorem dX9_open_62 : decode cX9_open 62 = .ok (.if_icmp .ge 64, 3) := by decide +kernel
theorem dX9_open_65 : decode cX9_open 65 = .ok (.aload_n 0, 1) := by decide +kernel
theorem dX9_open_66 : decode cX9_open 66 = .ok (.getfield 54, 3) := by decide +kernel
theorem dX9_open_69 : decode cX9_open 69 = .ok (.ifnull 51, 3) := by decide +kernel
theorem dX9_open_72 : decode cX9_open 72 = .ok (.aload_n 0, 1) := by decide +kernel
theorem dX9_open_73 : decode cX9_open 73 = .ok (.getfield 54, 3) := by decide +kernel
theorem dX9_open_76 : decode cX9_open 76 = .ok (.iload 4, 2) := by decide +kernel
theorem dX9_open_78 : decode cX9_open 78 = .ok (.invokevirtual 62, 3) := by decide +kernel
theorem dX9_open_81 : decode cX9_open 81 = .ok (.ifCond .eq 39, 3) := by decide +kernel
theorem dX9_open_84 : decode cX9_open 84 = .ok (.aload_n 0, 1) := by decide +kernel
theorem dX9_open_85 : decode cX9_open 85 = .ok (.getfield 26, 3) := by decide +kernel
theorem dX9_open_88 : decode cX9_open 88 = .ok (.iload 4, 2) := by decide +kernel
theorem dX9_open_90 : decode cX9_open 90 = .ok (.invokevirtual 48, 3) := by decide +kernel
theorem dX9_open_93 : decode cX9_open 93 = .ok (.ifCond .eq 27, 3) := by decide +kernel
theorem dX9_open_96 : decode cX9_open 96 = .ok (.aload_n 0, 1) := by decide +kernel
theorem dX9_open_97 : decode cX9_open 97 = .ok (.aload_n 0, 1) := by decide +kernel
theorem dX9_open_98 : decode cX9_open 98 = .ok (.getfield 54, 3) := by decide +kernel
theorem dX9_open_101 : decode cX9_open 101 = .ok (.getfield 67, 3) := by decide +kernel
theorem dX9_open_104 : decode cX9_open 104 = .ok (.iload 4, 2) := by decide +kernel
theorem dX9_open_106 : decode cX9_open 106 = .ok (.iaload, 1) := by decide +kernel
theorem dX9_open_107 : decode cX9_open 107 = .ok (.aload_n 0, 1) := by decide +kernel
theorem dX9_open_108 : decode cX9_open 108 = .ok (.getfield 54, 3) := by decide +kernel
theorem dX9_open_111 : decode cX9_open 111 = .ok (.getfield 70, 3) := by decide +kernel
theorem dX9_open_114 : decode cX9_open 114 = .ok (.iload 4, 2) := by decide +kernel
theorem dX9_open_116 : decode cX9_open 116 = .ok (.iaload, 1) := by decide +kernel
theorem dX9_open_117 : decode cX9_open 117 = .ok (.invokevirtual 73, 3) := by decide +kernel
theorem dX9_open_120 : decode cX9_open 120 = .ok (.iinc 4 1, 3) := by decide +kernel
theorem dX9_open_123 : decode cX9_open 123 = .ok (.goto (-65), 3) := by decide +kernel
theorem dX9_open_126 : decode cX9_open 126 = .ok (.return_, 1) := by decide +kernel
def fX9_open_L13 : Nat → Int32 → Hp → Option ((Int32) × Hp)
  | 0, _, _ => none
  | n + 1, a4, h => br (256 ≤ a4) (some ((a4), h)) (gd (ib a4 256) (lb (sI h 46 0 (ix a4) 0) (fun h4 => gd (ib a4 256) (br ((gI h4 53 0 (ix a4)) = (-1)) (gd (ib a4 256) (lb (sI h4 45 0 (ix a4) 1) (fun h10 => lb (a4 + 1) (fun v11 => fX9_open_L13 n v11 h10)))) (gd (ib a4 256) (lb (sI h4 45 0 (ix a4) 0) (fun h7 => lb (a4 + 1) (fun v8 => fX9_open_L13 n v8 h7))))))))
def fX9_open_L58 : Nat → Int32 → Hp → Option ((Int32) × Hp)
  | 0, _, _ => none
  | n + 1, a4, h => br (12 ≤ a4) (some ((a4), h)) (lb (gR h 9 0 5) (fun o15 => mt o15 (lb (a4 + 1) (fun v17 => fX9_open_L58 n v17 h)) (fun z16 => lb (gR h 9 0 5) (fun o18 => mt o18 none (fun z19 => bd (fX8_isSitting z19 a4 h) (fun r20 h21 => br (r20 = 0) (lb (a4 + 1) (fun v22 => fX9_open_L58 n v22 h21)) (bd (fX4_isStaying a4 h21) (fun r23 h24 => br (r23 = 0) (lb (a4 + 1) (fun v25 => fX9_open_L58 n v25 h24)) (lb (gR h24 9 0 5) (fun o26 => mt o26 none (fun z27 => lb (gR h24 8 z27 0) (fun o28 => mt o28 none (fun z29 => gd (ib a4 12) (lb (gR h24 9 0 5) (fun o31 => mt o31 none (fun z32 => lb (gR h24 8 z32 1) (fun o33 => mt o33 none (fun z34 => gd (ib a4 12) (bd (fX9_keepRun (gI h24 41 z29 (ix a4)) (gI h24 42 z34 (ix a4)) h24) (fun r36 h37 => lb (a4 + 1) (fun v38 => fX9_open_L58 n v38 h37)))))))))))))))))))))
def fX9_open (a2 : Option Nat) (a3 : Int32) (h : Hp) : Option (Unit × Hp) := lb (sR h 9 0 5 a2) (fun h1 => lb (sI h1 9 0 6 a3) (fun h2 => bd (fX9_open_L13 FU 0 h2) (fun v14 h12 => bd (fX9_open_L58 FU 0 h12) (fun v41 h39 => some ((), h39)))))
set_option maxRecDepth 20000 in
theorem tX9_open_L13 {X : Cz} {h0 : Hp} {r : Option AV} {hE : Hp} : ∀ (n : Nat) (a4 : Int32) (h : Hp) (z : (Int32) × Hp), fX9_open_L13 n a4 h = some z → V X mX9_open true h0 55 [(0, zr 9 0), (1, zr 53 0), (4, zi z.1)] [] z.2 r hE → V X mX9_open true h0 13 [(0, zr 9 0), (1, zr 53 0), (4, zi a4)] [] h r hE := by
  intro n
  induction n with
  | zero => intro a4 h z hF k; cases hF
  | succ n ih =>
    intro a4 h z hF k
    rw [fX9_open_L13] at hF
    refine v_iload (j := 2) dX9_open_13 rfl ?_
    refine v_sipush (v := 256) dX9_open_15 (by decide) ?_
    refine v_icmp_ge dX9_open_18 (by decide : _ = ((55 : Nat) : Int)) (fun q => ?_) (fun q => ?_)
    · replace hF := brT q hF
      cases hF
      exact k
    · replace hF := brF q hF
      refine v_aload_n (j := 0) dX9_open_21 rfl ?_
      refine v_getL (c := 9) rfl rfl rfl ly9_4 cz9 flX9_15 dX9_open_22 ?_
      refine v_iload (j := 2) dX9_open_25 rfl ?_
      refine v_iconst (v := 0) dX9_open_27 (by decide) ?_
      replace hF := gd_use hF
      obtain ⟨q3, hF⟩ := hF
      refine v_zastL rfl q3 (Or.inl rfl) dX9_open_28 ?_
      refine v_toph fun h4 eh4 => ?_
      replace hF := lb_use eh4 hF
      clear eh4
      refine v_aload_n (j := 0) dX9_open_29 rfl ?_
      refine v_getL (c := 9) rfl rfl rfl ly9_3 cz9 flX9_9 dX9_open_30 ?_
      refine v_iload (j := 2) dX9_open_33 rfl ?_
      refine v_aload_n (j := 1) dX9_open_35 rfl ?_
      refine v_iload (j := 2) dX9_open_36 rfl ?_
      replace hF := gd_use hF
      obtain ⟨q5, hF⟩ := hF
      refine v_iald rfl q5 dX9_open_38 ?_
      refine v_iconst (v := (-1)) dX9_open_39 (by decide) ?_
      refine v_icmp_ne dX9_open_40 (by decide : _ = ((47 : Nat) : Int)) (fun q => ?_) (fun q => ?_)
      · replace hF := brF q hF
        refine v_iconst (v := 0) dX9_open_47 (by decide) ?_
        replace hF := gd_use hF
        obtain ⟨q6, hF⟩ := hF
        refine v_zastL rfl q6 (Or.inl rfl) dX9_open_48 ?_
        refine v_toph fun h7 eh7 => ?_
        replace hF := lb_use eh7 hF
        clear eh7
        obtain ⟨v8, ev8⟩ : ∃ y : Int32, y = a4 + 1 := ⟨_, rfl⟩
        replace hF := lb_use ev8 hF
        refine v_iinc (j := 2) (v := v8) (ls' := [(4, zi v8), (0, zr 9 0), (1, zr 53 0)]) dX9_open_49 rfl (by rw [ev8]; rfl) (by decide) rfl ?_
        clear ev8
        refine v_goto (tgt := 13) dX9_open_52 (by decide) ?_
        refine v_sub [1, 2, 0] rfl ?_
        exact ih v8 h7 _ hF k
      · replace hF := brT (Decidable.not_not.mp q) hF
        refine v_iconst (v := 1) dX9_open_43 (by decide) ?_
        refine v_goto (tgt := 48) dX9_open_44 (by decide) ?_
        replace hF := gd_use hF
        obtain ⟨q9, hF⟩ := hF
        refine v_zastL rfl q9 (Or.inr rfl) dX9_open_48 ?_
        refine v_toph fun h10 eh10 => ?_
        replace hF := lb_use eh10 hF
        clear eh10
        obtain ⟨v11, ev11⟩ : ∃ y : Int32, y = a4 + 1 := ⟨_, rfl⟩
        replace hF := lb_use ev11 hF
        refine v_iinc (j := 2) (v := v11) (ls' := [(4, zi v11), (0, zr 9 0), (1, zr 53 0)]) dX9_open_49 rfl (by rw [ev11]; rfl) (by decide) rfl ?_
        clear ev11
        refine v_goto (tgt := 13) dX9_open_52 (by decide) ?_
        refine v_sub [1, 2, 0] rfl ?_
        exact ih v11 h10 _ hF k
set_option maxRecDepth 20000 in
theorem tX9_open_L58 {X : Cz} {h0 : Hp} {r : Option AV} {hE : Hp} : ∀ (n : Nat) (a4 : Int32) (h : Hp) (z : (Int32) × Hp), fX9_open_L58 n a4 h = some z → V X mX9_open true h0 126 [(0, zr 9 0), (4, zi z.1)] [] z.2 r hE → V X mX9_open true h0 58 [(0, zr 9 0), (4, zi a4)] [] h r hE := by
  intro n
  induction n with
  | zero => intro a4 h z hF k; cases hF
  | succ n ih =>
    intro a4 h z hF k
    rw [fX9_open_L58] at hF
    refine v_iload (j := 1) dX9_open_58 rfl ?_
    refine v_bipush (v := 12) dX9_open_60 (by decide) ?_
    refine v_icmp_ge dX9_open_62 (by decide : _ = ((126 : Nat) : Int)) (fun q => ?_) (fun q => ?_)
    · replace hF := brT q hF
      cases hF
      exact k
    · replace hF := brF q hF
      refine v_aload_n (j := 0) dX9_open_65 rfl ?_
      refine v_getR (c := 9) (k2 := 8) rfl rfl rfl cz9 flX9_54 dX9_open_66 ?_
      refine v_topq fun o15 eo15 => ?_
      replace hF := lb_use eo15 hF
      clear eo15
      cases o15 with
      | none =>
        replace hF := mtN hF
        refine v_ifnullN (tgt := 120) dX9_open_69 (by decide) ?_
        obtain ⟨v17, ev17⟩ : ∃ y : Int32, y = a4 + 1 := ⟨_, rfl⟩
        replace hF := lb_use ev17 hF
        refine v_iinc (j := 1) (v := v17) (ls' := [(4, zi v17), (0, zr 9 0)]) dX9_open_120 rfl (by rw [ev17]; rfl) (by decide) rfl ?_
        clear ev17
        refine v_goto (tgt := 58) dX9_open_123 (by decide) ?_
        refine v_sub [1, 0] rfl ?_
        exact ih v17 h _ hF k
      | some z16 =>
        replace hF := mtS hF
        refine v_ifnullS (q := (8, z16)) (tgt := 120) dX9_open_69 (by decide) ?_
        refine v_aload_n (j := 0) dX9_open_72 rfl ?_
        refine v_getR (c := 9) (k2 := 8) rfl rfl rfl cz9 flX9_54 dX9_open_73 ?_
        refine v_topq fun o18 eo18 => ?_
        replace hF := lb_use eo18 hF
        clear eo18
        refine v_iload (j := 1) dX9_open_76 rfl ?_
        replace hF := mt_use hF
        obtain ⟨z19, ez19, hF⟩ := hF
        subst ez19
        replace hF := bd_use hF
        obtain ⟨r20, h21, er20, hF⟩ := hF
        refine v_cV (hm := h21) (av := [zi a4]) (st := []) (stn := [zi r20]) (tX8_isSitting er20) lcX8_isSitting mlX9_62 imX8_isSitting seX8_isSitting rfl rfl rfl rfl ⟨by decide, by decide⟩ (Nat.le_of_ble_eq_true rfl) dX9_open_78 rfl rfl ?_
        clear er20
        refine v_if_eq dX9_open_81 (by decide : _ = ((120 : Nat) : Int)) (fun q => ?_) (fun q => ?_)
        · replace hF := brT q hF
          obtain ⟨v22, ev22⟩ : ∃ y : Int32, y = a4 + 1 := ⟨_, rfl⟩
          replace hF := lb_use ev22 hF
          refine v_iinc (j := 1) (v := v22) (ls' := [(4, zi v22), (0, zr 9 0)]) dX9_open_120 rfl (by rw [ev22]; rfl) (by decide) rfl ?_
          clear ev22
          refine v_goto (tgt := 58) dX9_open_123 (by decide) ?_
          refine v_sub [1, 0] rfl ?_
          exact ih v22 h21 _ hF k
        · replace hF := brF q hF
          refine v_aload_n (j := 0) dX9_open_84 rfl ?_
          refine v_getL (c := 9) rfl rfl rfl ly9_1 cz9 flX9_26 dX9_open_85 ?_
          refine v_iload (j := 1) dX9_open_88 rfl ?_
          replace hF := bd_use hF
          obtain ⟨r23, h24, er23, hF⟩ := hF
          refine v_cV (hm := h24) (av := [zi a4]) (st := []) (stn := [zi r23]) (tX4_isStaying er23) lcX4_isStaying mlX9_48 imX4_isStaying seX4_isStaying rfl rfl rfl rfl ⟨by decide, by decide⟩ (Nat.le_of_ble_eq_true rfl) dX9_open_90 rfl rfl ?_
          clear er23
          refine v_if_eq dX9_open_93 (by decide : _ = ((120 : Nat) : Int)) (fun q => ?_) (fun q => ?_)
          · replace hF := brT q hF
            obtain ⟨v25, ev25⟩ : ∃ y : Int32, y = a4 + 1 := ⟨_, rfl⟩
            replace hF := lb_use ev25 hF
            refine v_iinc (j := 1) (v := v25) (ls' := [(4, zi v25), (0, zr 9 0)]) dX9_open_120 rfl (by rw [ev25]; rfl) (by decide) rfl ?_
            clear ev25
            refine v_goto (tgt := 58) dX9_open_123 (by decide) ?_
            refine v_sub [1, 0] rfl ?_
            exact ih v25 h24 _ hF k
          · replace hF := brF q hF
            refine v_aload_n (j := 0) dX9_open_96 rfl ?_
            refine v_aload_n (j := 0) dX9_open_97 rfl ?_
            refine v_getR (c := 9) (k2 := 8) rfl rfl rfl cz9 flX9_54 dX9_open_98 ?_
            refine v_topq fun o26 eo26 => ?_
            replace hF := lb_use eo26 hF
            clear eo26
            replace hF := mt_use hF
            obtain ⟨z27, ez27, hF⟩ := hF
            subst ez27
            refine v_getR (c := 8) (k2 := 41) rfl rfl rfl cz8 flX9_67 dX9_open_101 ?_
            refine v_topq fun o28 eo28 => ?_
            replace hF := lb_use eo28 hF
            clear eo28
            refine v_iload (j := 1) dX9_open_104 rfl ?_
            replace hF := mt_use hF
            obtain ⟨z29, ez29, hF⟩ := hF
            subst ez29
            replace hF := gd_use hF
            obtain ⟨q30, hF⟩ := hF
            refine v_iald rfl q30 dX9_open_106 ?_
            refine v_aload_n (j := 0) dX9_open_107 rfl ?_
            refine v_getR (c := 9) (k2 := 8) rfl rfl rfl cz9 flX9_54 dX9_open_108 ?_
            refine v_topq fun o31 eo31 => ?_
            replace hF := lb_use eo31 hF
            clear eo31
            replace hF := mt_use hF
            obtain ⟨z32, ez32, hF⟩ := hF
            subst ez32
            refine v_getR (c := 8) (k2 := 42) rfl rfl rfl cz8 flX9_70 dX9_open_111 ?_
            refine v_topq fun o33 eo33 => ?_
            replace hF := lb_use eo33 hF
            clear eo33
            refine v_iload (j := 1) dX9_open_114 rfl ?_
            replace hF := mt_use hF
            obtain ⟨z34, ez34, hF⟩ := hF
            subst ez34
            replace hF := gd_use hF
            obtain ⟨q35, hF⟩ := hF
            refine v_iald rfl q35 dX9_open_116 ?_
            replace hF := bd_use hF
            obtain ⟨r36, h37, er36, hF⟩ := hF
            refine v_cV (hm := h37) (av := [zi (gI h24 41 z29 (ix a4)), zi (gI h24 42 z34 (ix a4))]) (st := []) (stn := []) (tX9_keepRun er36) lcX9_keepRun mlX9_73 imX9_keepRun seX9_keepRun rfl rfl rfl rfl ⟨by decide, by decide⟩ (Nat.le_of_ble_eq_true rfl) dX9_open_117 rfl rfl ?_
            clear er36
            obtain ⟨v38, ev38⟩ : ∃ y : Int32, y = a4 + 1 := ⟨_, rfl⟩
            replace hF := lb_use ev38 hF
            refine v_iinc (j := 1) (v := v38) (ls' := [(4, zi v38), (0, zr 9 0)]) dX9_open_120 rfl (by rw [ev38]; rfl) (by decide) rfl ?_
            clear ev38
            refine v_goto (tgt := 58) dX9_open_123 (by decide) ?_
            refine v_sub [1, 0] rfl ?_
            exact ih v38 h37 _ hF k
set_option maxRecDepth 20000 in
theorem tX9_open {X : Cz} {a2 : Option Nat} {a3 : Int32} {h hE : Hp} {rE : Unit} (hF : fX9_open a2 a3 h = some (rE, hE)) : Ct X mX9_open true [zr 9 0, zr 53 0, zq 8 a2, zi a3] h (none) hE := by
  refine Ct_of (by decide) (Nat.le_of_ble_eq_true rfl) (ls := [(0, zr 9 0), (1, zr 53 0), (2, zq 8 a2), (3, zi a3)]) rfl ?_
  unfold fX9_open at hF
  refine v_aload_n (j := 0) dX9_open_0 rfl ?_
  refine v_aload_n (j := 2) dX9_open_1 rfl ?_
  refine v_putR (o := a2) (c := 9) (k2 := 8) rfl rfl (Nat.le_of_ble_eq_true rfl) rfl (Or.inr (by decide)) cz9 flX9_54 dX9_open_2 ?_
  refine v_toph fun h1 eh1 => ?_
  replace hF := lb_use eh1 hF
  clear eh1
  refine v_aload_n (j := 0) dX9_open_5 rfl ?_
  refine v_iload_n (j := 3) dX9_open_6 rfl ?_
  refine v_putI (c := 9) rfl rfl (Nat.le_of_ble_eq_true rfl) cz9 flX9_58 dX9_open_7 ?_
  refine v_toph fun h2 eh2 => ?_
  replace hF := lb_use eh2 hF
  clear eh2
  refine v_iconst (v := 0) dX9_open_10 (by decide) ?_
  refine v_istore (ls' := [(4, zi 0), (0, zr 9 0), (1, zr 53 0), (2, zq 8 a2), (3, zi a3)]) dX9_open_11 (by decide) rfl ?_
  refine v_sub [1, 2, 0] rfl ?_
  replace hF := bd_use hF
  obtain ⟨v14, h12, ev14, hF⟩ := hF
  refine tX9_open_L13 _ 0 h2 _ ev14 ?_
  clear ev14
  refine v_iconst (v := 0) dX9_open_55 (by decide) ?_
  refine v_istore (ls' := [(4, zi 0), (0, zr 9 0), (1, zr 53 0)]) dX9_open_56 (by decide) rfl ?_
  refine v_sub [1, 0] rfl ?_
  replace hF := bd_use hF
  obtain ⟨v41, h39, ev41, hF⟩ := hF
  refine tX9_open_L58 _ 0 h12 _ ev41 ?_
  clear ev41
  cases hF
  exact v_vret rfl dX9_open_126
theorem dX9_openSpots_0 : decode cX9_openSpots 0 = .ok (.aload_n 0, 1) := by decide +kernel
theorem dX9_openSpots_1 : decode cX9_openSpots 1 = .ok (.getfield 22, 3) := by decide +kernel
theorem dX9_openSpots_4 : decode cX9_openSpots 4 = .ok (.invokevirtual 119, 3) := by decide +kernel
theorem dX9_openSpots_7 : decode cX9_openSpots 7 = .ok (.iconst 1, 1) := by decide +kernel
theorem dX9_openSpots_8 : decode cX9_openSpots 8 = .ok (.isub, 1) := by decide +kernel
theorem dX9_openSpots_9 : decode cX9_openSpots 9 = .ok (.istore_n 2, 1) := by decide +kernel
theorem dX9_openSpots_10 : decode cX9_openSpots 10 = .ok (.iload_n 2, 1) := by decide +kernel
theorem dX9_openSpots_11 : decode cX9_openSpots 11 = .ok (.ifCond .lt 65, 3) := by decide +kernel
theorem dX9_openSpots_14 : decode cX9_openSpots 14 = .ok (.iload_n 1, 1) := by decide +kernel
theorem dX9_openSpots_15 : decode cX9_openSpots 15 = .ok (.ifCond .eq 12, 3) := by decide +kernel
theorem dX9_openSpots_18 : decode cX9_openSpots 18 = .ok (.aload_n 0, 1) := by decide +kernel
theorem dX9_openSpots_19 : decode cX9_openSpots 19 = .ok (.getfield 9, 3) := by decide +kernel
theorem dX9_openSpots_22 : decode cX9_openSpots 22 = .ok (.iload_n 2, 1) := by decide +kernel
theorem dX9_openSpots_23 : decode cX9_openSpots 23 = .ok (.baload, 1) := by decide +kernel
theorem dX9_openSpots_24 : decode cX9_openSpots 24 = .ok (.ifCond .eq 7, 3) := by decide +kernel
theorem dX9_openSpots_27 : decode cX9_openSpots 27 = .ok (.iconst 1, 1) := by decide +kernel
theorem dX9_openSpots_28 : decode cX9_openSpots 28 = .ok (.goto 4, 3) := by decide +kernel
theorem dX9_openSpots_31 : decode cX9_openSpots 31 = .ok (.iconst 0, 1) := by decide +kernel
theorem dX9_openSpots_32 : decode cX9_openSpots 32 = .ok (.istore_n 3, 1) := by decide +kernel
theorem dX9_openSpots_33 : decode cX9_openSpots 33 = .ok (.aload_n 0, 1) := by decide +kernel
theorem dX9_openSpots_34 : decode cX9_openSpots 34 = .ok (.getfield 30, 3) := by decide +kernel
theorem dX9_openSpots_37 : decode cX9_openSpots 37 = .ok (.iload_n 2, 1) := by decide +kernel
theorem dX9_openSpots_38 : decode cX9_openSpots 38 = .ok (.iload_n 3, 1) := by decide +kernel
theorem dX9_openSpots_39 : decode cX9_openSpots 39 = .ok (.ifCond .eq 27, 3) := by decide +kernel
theorem dX9_openSpots_42 : decode cX9_openSpots 42 = .ok (.aload_n 0, 1) := by decide +kernel
theorem dX9_openSpots_43 : decode cX9_openSpots 43 = .ok (.getfield 15, 3) := by decide +kernel
theorem dX9_openSpots_46 : decode cX9_openSpots 46 = .ok (.iload_n 2, 1) := by decide +kernel
theorem dX9_openSpots_47 : decode cX9_openSpots 47 = .ok (.baload, 1) := by decide +kernel
theorem dX9_openSpots_48 : decode cX9_openSpots 48 = .ok (.ifCond .ne 18, 3) := by decide +kernel
theorem dX9_openSpots_51 : decode cX9_openSpots 51 = .ok (.aload_n 0, 1) := by decide +kernel
theorem dX9_openSpots_52 : decode cX9_openSpots 52 = .ok (.getfield 22, 3) := by decide +kernel
theorem dX9_openSpots_55 : decode cX9_openSpots 55 = .ok (.iload_n 2, 1) := by decide +kernel
theorem dX9_openSpots_56 : decode cX9_openSpots 56 = .ok (.invokevirtual 125, 3) := by decide +kernel
theorem dX9_openSpots_59 : decode cX9_openSpots 59 = .ok (.ifCond .eq 7, 3) := by decide +kernel
theorem dX9_openSpots_62 : decode cX9_openSpots 62 = .ok (.iconst 1, 1) := by decide +kernel
theorem dX9_openSpots_63 : decode cX9_openSpots 63 = .ok (.goto 4, 3) := by decide +kernel
theorem dX9_openSpots_66 : decode cX9_openSpots 66 = .ok (.iconst 0, 1) := by decide +kernel
theorem dX9_openSpots_67 : decode cX9_openSpots 67 = .ok (.invokevirtual 128, 3) := by decide +kernel
theorem dX9_openSpots_70 : decode cX9_openSpots 70 = .ok (.iinc 2 (-1), 3) := by decide +kernel
theorem dX9_openSpots_73 : decode cX9_openSpots 73 = .ok (.goto (-63), 3) := by decide +kernel
theorem dX9_openSpots_76 : decode cX9_openSpots 76 = .ok (.return_, 1) := by decide +kernel
def fX9_openSpots_L10 : Nat → Int32 → Int32 → Hp → Option ((Int32) × Hp)
  | 0, _, _, _ => none
  | n + 1, a1, a2, h => br (a2 < 0) (some ((a2), h)) (lb (fun (x3 : Int32) (h4 : Hp) => lb (fun (x6 : Int32) (x7 : Int32) (h8 : Hp) => bd (fX10_setOpen x6 x7 h8) (fun r9 h10 => lb (a2 + (-1)) (fun v11 => fX9_openSpots_L10 n a1 v11 h10))) (fun j5 => lb (fun (x13 : Int32) (h14 : Hp) => j5 x13 0 h14) (fun j12 => br (x3 = 0) (j12 a2 h4) (gd (ib a2 256) (br ((gI h4 46 0 (ix a2)) = 0) (bd (fX1_isUnitSpot a2 h4) (fun r16 h17 => br (r16 = 0) (j12 a2 h17) (j5 a2 1 h17))) (j12 a2 h4)))))) (fun j2 => lb (fun (h19 : Hp) => j2 1 h19) (fun j18 => br (a1 = 0) (j18 h) (gd (ib a2 256) (br ((gI h 45 0 (ix a2)) = 0) (j2 0 h) (j18 h))))))
def fX9_openSpots (a1 : Int32) (h : Hp) : Option (Unit × Hp) := lb ((fX1_spotsEnd h) - 1) (fun v1 => bd (fX9_openSpots_L10 FU a1 v1 h) (fun v23 h21 => some ((), h21)))
set_option maxRecDepth 20000 in
theorem tX9_openSpots_L10 {X : Cz} {h0 : Hp} {r : Option AV} {hE : Hp} : ∀ (n : Nat) (a1 : Int32) (a2 : Int32) (h : Hp) (z : (Int32) × Hp), fX9_openSpots_L10 n a1 a2 h = some z → V X mX9_openSpots true h0 76 [(0, zr 9 0), (1, zi a1), (2, zi z.1)] [] z.2 r hE → V X mX9_openSpots true h0 10 [(0, zr 9 0), (1, zi a1), (2, zi a2)] [] h r hE := by
  intro n
  induction n with
  | zero => intro a1 a2 h z hF k; cases hF
  | succ n ih =>
    intro a1 a2 h z hF k
    rw [fX9_openSpots_L10] at hF
    refine v_iload_n (j := 2) dX9_openSpots_10 rfl ?_
    refine v_if_lt dX9_openSpots_11 (by decide : _ = ((76 : Nat) : Int)) (fun q => ?_) (fun q => ?_)
    · replace hF := brT q hF
      cases hF
      exact k
    · replace hF := brF q hF
      refine v_iload_n (j := 1) dX9_openSpots_14 rfl ?_
      replace hF := lb_ex hF
      obtain ⟨j2, ej2, hF⟩ := hF
      have j2V : ∀ (x3 : Int32) (h4 : Hp), j2 x3 h4 = some z → V X mX9_openSpots true h0 32 [(0, zr 9 0), (1, zi a1), (2, zi a2)] [zi x3] h4 r hE := by
        intro x3 h4 hF
        subst ej2
        refine v_istore_n (ls' := [(3, zi x3), (0, zr 9 0), (1, zi a1), (2, zi a2)]) dX9_openSpots_32 (by decide) rfl ?_
        refine v_aload_n (j := 1) dX9_openSpots_33 rfl ?_
        refine v_getL (c := 9) rfl rfl rfl ly9_2 cz9 flX9_30 dX9_openSpots_34 ?_
        refine v_iload_n (j := 3) dX9_openSpots_37 rfl ?_
        refine v_iload_n (j := 0) dX9_openSpots_38 rfl ?_
        replace hF := lb_ex hF
        obtain ⟨j5, ej5, hF⟩ := hF
        have j5V : ∀ (x6 : Int32) (x7 : Int32) (h8 : Hp), j5 x6 x7 h8 = some z → V X mX9_openSpots true h0 67 [(0, zr 9 0), (1, zi a1), (2, zi a2)] [zi x7, zi x6, zr 10 0] h8 r hE := by
          intro x6 x7 h8 hF
          subst ej5
          replace hF := bd_use hF
          obtain ⟨r9, h10, er9, hF⟩ := hF
          refine v_cV (hm := h10) (av := [zi x6, zi x7]) (st := []) (stn := []) (tX10_setOpen er9) lcX10_setOpen mlX9_128 imX10_setOpen seX10_setOpen rfl rfl rfl rfl ⟨by decide, by decide⟩ (Nat.le_of_ble_eq_true rfl) dX9_openSpots_67 rfl rfl ?_
          clear er9
          obtain ⟨v11, ev11⟩ : ∃ y : Int32, y = a2 + (-1) := ⟨_, rfl⟩
          replace hF := lb_use ev11 hF
          refine v_iinc (j := 2) (v := v11) (ls' := [(2, zi v11), (0, zr 9 0), (1, zi a1)]) dX9_openSpots_70 rfl (by rw [ev11]; rfl) (by decide) rfl ?_
          clear ev11
          refine v_goto (tgt := 10) dX9_openSpots_73 (by decide) ?_
          refine v_sub [1, 2, 0] rfl ?_
          exact ih a1 v11 h10 _ hF k
        clear ej5
        replace hF := lb_ex hF
        obtain ⟨j12, ej12, hF⟩ := hF
        have j12V : ∀ (x13 : Int32) (h14 : Hp), j12 x13 h14 = some z → V X mX9_openSpots true h0 66 [(0, zr 9 0), (1, zi a1), (2, zi a2)] [zi x13, zr 10 0] h14 r hE := by
          intro x13 h14 hF
          subst ej12
          refine v_iconst (v := 0) dX9_openSpots_66 (by decide) ?_
          exact j5V x13 0 h14 hF
        clear ej12
        refine v_if_eq dX9_openSpots_39 (by decide : _ = ((66 : Nat) : Int)) (fun q => ?_) (fun q => ?_)
        · replace hF := brT q hF
          refine v_sub [1, 2, 3] rfl ?_
          exact j12V a2 h4 hF
        · replace hF := brF q hF
          refine v_aload_n (j := 1) dX9_openSpots_42 rfl ?_
          refine v_getL (c := 9) rfl rfl rfl ly9_4 cz9 flX9_15 dX9_openSpots_43 ?_
          refine v_iload_n (j := 3) dX9_openSpots_46 rfl ?_
          replace hF := gd_use hF
          obtain ⟨q15, hF⟩ := hF
          refine v_zald rfl q15 dX9_openSpots_47 ?_
          refine v_if_ne dX9_openSpots_48 (by decide : _ = ((66 : Nat) : Int)) (fun q => ?_) (fun q => ?_)
          · replace hF := brF q hF
            refine v_sub [1, 2, 3] rfl ?_
            exact j12V a2 h4 hF
          · replace hF := brT (Decidable.not_not.mp q) hF
            refine v_aload_n (j := 1) dX9_openSpots_51 rfl ?_
            refine v_getL (c := 9) rfl rfl rfl ly9_0 cz9 flX9_22 dX9_openSpots_52 ?_
            refine v_iload_n (j := 3) dX9_openSpots_55 rfl ?_
            replace hF := bd_use hF
            obtain ⟨r16, h17, er16, hF⟩ := hF
            refine v_cV (hm := h17) (av := [zi a2]) (st := [zi a2, zr 10 0]) (stn := [zi r16, zi a2, zr 10 0]) (tX1_isUnitSpot er16) lcX1_isUnitSpot mlX9_125 imX1_isUnitSpot seX1_isUnitSpot rfl rfl rfl rfl ⟨by decide, by decide⟩ (Nat.le_of_ble_eq_true rfl) dX9_openSpots_56 rfl rfl ?_
            clear er16
            refine v_if_eq dX9_openSpots_59 (by decide : _ = ((66 : Nat) : Int)) (fun q => ?_) (fun q => ?_)
            · replace hF := brT q hF
              refine v_sub [1, 2, 3] rfl ?_
              exact j12V a2 h17 hF
            · replace hF := brF q hF
              refine v_iconst (v := 1) dX9_openSpots_62 (by decide) ?_
              refine v_goto (tgt := 67) dX9_openSpots_63 (by decide) ?_
              refine v_sub [1, 2, 3] rfl ?_
              exact j5V a2 1 h17 hF
      clear ej2
      replace hF := lb_ex hF
      obtain ⟨j18, ej18, hF⟩ := hF
      have j18V : ∀ (h19 : Hp), j18 h19 = some z → V X mX9_openSpots true h0 27 [(0, zr 9 0), (1, zi a1), (2, zi a2)] [] h19 r hE := by
        intro h19 hF
        subst ej18
        refine v_iconst (v := 1) dX9_openSpots_27 (by decide) ?_
        refine v_goto (tgt := 32) dX9_openSpots_28 (by decide) ?_
        exact j2V 1 h19 hF
      clear ej18
      refine v_if_eq dX9_openSpots_15 (by decide : _ = ((27 : Nat) : Int)) (fun q => ?_) (fun q => ?_)
      · replace hF := brT q hF
        exact j18V h hF
      · replace hF := brF q hF
        refine v_aload_n (j := 0) dX9_openSpots_18 rfl ?_
        refine v_getL (c := 9) rfl rfl rfl ly9_3 cz9 flX9_9 dX9_openSpots_19 ?_
        refine v_iload_n (j := 2) dX9_openSpots_22 rfl ?_
        replace hF := gd_use hF
        obtain ⟨q20, hF⟩ := hF
        refine v_zald rfl q20 dX9_openSpots_23 ?_
        refine v_if_eq dX9_openSpots_24 (by decide : _ = ((31 : Nat) : Int)) (fun q => ?_) (fun q => ?_)
        · replace hF := brT q hF
          refine v_iconst (v := 0) dX9_openSpots_31 (by decide) ?_
          exact j2V 0 h hF
        · replace hF := brF q hF
          exact j18V h hF
set_option maxRecDepth 20000 in
theorem tX9_openSpots {X : Cz} {a1 : Int32} {h hE : Hp} {rE : Unit} (hF : fX9_openSpots a1 h = some (rE, hE)) : Ct X mX9_openSpots true [zr 9 0, zi a1] h (none) hE := by
  refine Ct_of (by decide) (Nat.le_of_ble_eq_true rfl) (ls := [(0, zr 9 0), (1, zi a1)]) rfl ?_
  unfold fX9_openSpots at hF
  refine v_aload_n (j := 0) dX9_openSpots_0 rfl ?_
  refine v_getL (c := 9) rfl rfl rfl ly9_0 cz9 flX9_22 dX9_openSpots_1 ?_
  refine v_cV (hm := h) (av := []) (st := []) (stn := [zi (fX1_spotsEnd h)]) (tX1_spotsEnd h) lcX1_spotsEnd mlX9_119 imX1_spotsEnd seX1_spotsEnd rfl rfl rfl rfl ⟨by decide, by decide⟩ (Nat.le_of_ble_eq_true rfl) dX9_openSpots_4 rfl rfl ?_
  refine v_iconst (v := 1) dX9_openSpots_7 (by decide) ?_
  refine v_isub dX9_openSpots_8 ?_
  refine v_topi fun v1 ev1 => ?_
  replace hF := lb_use ev1 hF
  clear ev1
  refine v_istore_n (ls' := [(2, zi v1), (0, zr 9 0), (1, zi a1)]) dX9_openSpots_9 (by decide) rfl ?_
  refine v_sub [1, 2, 0] rfl ?_
  replace hF := bd_use hF
  obtain ⟨v23, h21, ev23, hF⟩ := hF
  refine tX9_openSpots_L10 _ a1 v1 h _ ev23 ?_
  clear ev23
  cases hF
  exact v_vret rfl dX9_openSpots_76
theorem dX9_take_0 : decode cX9_take 0 = .ok (.iload_n 1, 1) := by decide +kernel
theorem dX9_take_1 : decode cX9_take 1 = .ok (.iconst (-1), 1) := by decide +kernel
theorem dX9_take_2 : decode cX9_take 2 = .ok (.if_icmp .eq 32, 3) := by decide +kernel
theorem dX9_take_5 : decode cX9_take 5 = .ok (.iload_n 1, 1) := by decide +kernel
theorem dX9_take_6 : decode cX9_take 6 = .ok (.istore_n 3, 1) := by decide +kernel
theorem dX9_take_7 : decode cX9_take 7 = .ok (.iload_n 3, 1) := by decide +kernel
theorem dX9_take_8 : decode cX9_take 8 = .ok (.iload_n 1, 1) := by decide +kernel
theorem dX9_take_9 : decode cX9_take 9 = .ok (.iload_n 2, 1) := by decide +kernel
theorem dX9_take_10 : decode cX9_take 10 = .ok (.iadd, 1) := by decide +kernel
theorem dX9_take_11 : decode cX9_take 11 = .ok (.if_icmp .ge 23, 3) := by decide +kernel
theorem dX9_take_14 : decode cX9_take 14 = .ok (.iload_n 3, 1) := by decide +kernel
theorem dX9_take_15 : decode cX9_take 15 = .ok (.sipush 256, 3) := by decide +kernel
theorem dX9_take_18 : decode cX9_take 18 = .ok (.if_icmp .ge 16, 3) := by decide +kernel
theorem dX9_take_21 : decode cX9_take 21 = .ok (.aload_n 0, 1) := by decide +kernel
theorem dX9_take_22 : decode cX9_take 22 = .ok (.getfield 15, 3) := by decide +kernel
theorem dX9_take_25 : decode cX9_take 25 = .ok (.iload_n 3, 1) := by decide +kernel
theorem dX9_take_26 : decode cX9_take 26 = .ok (.iconst 1, 1) := by decide +kernel
theorem dX9_take_27 : decode cX9_take 27 = .ok (.bastore, 1) := by decide +kernel
theorem dX9_take_28 : decode cX9_take 28 = .ok (.iinc 3 1, 3) := by decide +kernel
theorem dX9_take_31 : decode cX9_take 31 = .ok (.goto (-24), 3) := by decide +kernel
theorem dX9_take_34 : decode cX9_take 34 = .ok (.iload_n 1, 1) := by decide +kernel
theorem dX9_take_35 : decode cX9_take 35 = .ok (.ireturn, 1) := by decide +kernel
def fX9_take_L7 : Nat → Int32 → Int32 → Int32 → Hp → Option ((Int32) × Hp)
  | 0, _, _, _, _ => none
  | n + 1, a1, a2, a3, h => br ((a1 + a2) ≤ a3) (some ((a3), h)) (br (256 ≤ a3) (some ((a3), h)) (gd (ib a3 256) (lb (sI h 46 0 (ix a3) 1) (fun h2 => lb (a3 + 1) (fun v3 => fX9_take_L7 n a1 a2 v3 h2)))))
def fX9_take (a1 : Int32) (a2 : Int32) (h : Hp) : Option (Int32 × Hp) := br (a1 = (-1)) (some (a1, h)) (bd (fX9_take_L7 FU a1 a2 a1 h) (fun v6 h4 => some (a1, h4)))
set_option maxRecDepth 20000 in
theorem tX9_take_L7 {X : Cz} {h0 : Hp} {r : Option AV} {hE : Hp} : ∀ (n : Nat) (a1 : Int32) (a2 : Int32) (a3 : Int32) (h : Hp) (z : (Int32) × Hp), fX9_take_L7 n a1 a2 a3 h = some z → V X mX9_take true h0 34 [(0, zr 9 0), (1, zi a1), (2, zi a2), (3, zi z.1)] [] z.2 r hE → V X mX9_take true h0 7 [(0, zr 9 0), (1, zi a1), (2, zi a2), (3, zi a3)] [] h r hE := by
  intro n
  induction n with
  | zero => intro a1 a2 a3 h z hF k; cases hF
  | succ n ih =>
    intro a1 a2 a3 h z hF k
    rw [fX9_take_L7] at hF
    refine v_iload_n (j := 3) dX9_take_7 rfl ?_
    refine v_iload_n (j := 1) dX9_take_8 rfl ?_
    refine v_iload_n (j := 2) dX9_take_9 rfl ?_
    refine v_iadd dX9_take_10 ?_
    refine v_icmp_ge dX9_take_11 (by decide : _ = ((34 : Nat) : Int)) (fun q => ?_) (fun q => ?_)
    · replace hF := brT q hF
      cases hF
      exact k
    · replace hF := brF q hF
      refine v_iload_n (j := 3) dX9_take_14 rfl ?_
      refine v_sipush (v := 256) dX9_take_15 (by decide) ?_
      refine v_icmp_ge dX9_take_18 (by decide : _ = ((34 : Nat) : Int)) (fun q => ?_) (fun q => ?_)
      · replace hF := brT q hF
        cases hF
        exact k
      · replace hF := brF q hF
        refine v_aload_n (j := 0) dX9_take_21 rfl ?_
        refine v_getL (c := 9) rfl rfl rfl ly9_4 cz9 flX9_15 dX9_take_22 ?_
        refine v_iload_n (j := 3) dX9_take_25 rfl ?_
        refine v_iconst (v := 1) dX9_take_26 (by decide) ?_
        replace hF := gd_use hF
        obtain ⟨q1, hF⟩ := hF
        refine v_zastL rfl q1 (Or.inr rfl) dX9_take_27 ?_
        refine v_toph fun h2 eh2 => ?_
        replace hF := lb_use eh2 hF
        clear eh2
        obtain ⟨v3, ev3⟩ : ∃ y : Int32, y = a3 + 1 := ⟨_, rfl⟩
        replace hF := lb_use ev3 hF
        refine v_iinc (j := 3) (v := v3) (ls' := [(3, zi v3), (0, zr 9 0), (1, zi a1), (2, zi a2)]) dX9_take_28 rfl (by rw [ev3]; rfl) (by decide) rfl ?_
        clear ev3
        refine v_goto (tgt := 7) dX9_take_31 (by decide) ?_
        refine v_sub [1, 2, 3, 0] rfl ?_
        exact ih a1 a2 v3 h2 _ hF k
set_option maxRecDepth 20000 in
theorem tX9_take {X : Cz} {a1 : Int32} {a2 : Int32} {h hE : Hp} {rE : Int32} (hF : fX9_take a1 a2 h = some (rE, hE)) : Ct X mX9_take true [zr 9 0, zi a1, zi a2] h (some (zi rE)) hE := by
  refine Ct_of (by decide) (Nat.le_of_ble_eq_true rfl) (ls := [(0, zr 9 0), (1, zi a1), (2, zi a2)]) rfl ?_
  unfold fX9_take at hF
  refine v_iload_n (j := 1) dX9_take_0 rfl ?_
  refine v_iconst (v := (-1)) dX9_take_1 (by decide) ?_
  refine v_icmp_eq dX9_take_2 (by decide : _ = ((34 : Nat) : Int)) (fun q => ?_) (fun q => ?_)
  · replace hF := brT q hF
    refine v_iload_n (j := 1) dX9_take_34 rfl ?_
    obtain ⟨rfl, rfl⟩ := ret_use hF
    exact v_iret rfl dX9_take_35
  · replace hF := brF q hF
    refine v_iload_n (j := 1) dX9_take_5 rfl ?_
    refine v_istore_n (ls' := [(3, zi a1), (0, zr 9 0), (1, zi a1), (2, zi a2)]) dX9_take_6 (by decide) rfl ?_
    refine v_sub [1, 2, 3, 0] rfl ?_
    replace hF := bd_use hF
    obtain ⟨v6, h4, ev6, hF⟩ := hF
    refine tX9_take_L7 _ a1 a2 a1 h _ ev6 ?_
    clear ev6
    refine v_iload_n (j := 1) dX9_take_34 rfl ?_
    obtain ⟨rfl, rfl⟩ := ret_use hF
    exact v_iret rfl dX9_take_35
theorem dX9_seatStranger_0 : decode cX9_seatStranger 0 = .ok (.aload_n 0, 1) := by decide +kernel
theorem dX9_seatStranger_1 : decode cX9_seatStranger 1 = .ok (.iload_n 2, 1) := by decide +kernel
theorem dX9_seatStranger_2 : decode cX9_seatStranger 2 = .ok (.invokevirtual 87, 3) := by decide +kernel
theorem dX9_seatStranger_5 : decode cX9_seatStranger 5 = .ok (.aload_n 0, 1) := by decide +kernel
theorem dX9_seatStranger_6 : decode cX9_seatStranger 6 = .ok (.aload_n 0, 1) := by decide +kernel
theorem dX9_seatStranger_7 : decode cX9_seatStranger 7 = .ok (.getfield 30, 3) := by decide +kernel
theorem dX9_seatStranger_10 : decode cX9_seatStranger 10 = .ok (.iload_n 1, 1) := by decide +kernel
theorem dX9_seatStranger_11 : decode cX9_seatStranger 11 = .ok (.iconst 0, 1) := by decide +kernel
theorem dX9_seatStranger_12 : decode cX9_seatStranger 12 = .ok (.iconst 0, 1) := by decide +kernel
theorem dX9_seatStranger_13 : decode cX9_seatStranger 13 = .ok (.aload_n 0, 1) := by decide +kernel
theorem dX9_seatStranger_14 : decode cX9_seatStranger 14 = .ok (.getfield 58, 3) := by decide +kernel
theorem dX9_seatStranger_17 : decode cX9_seatStranger 17 = .ok (.if_icmp .ge 7, 3) := by decide +kernel
theorem dX9_seatStranger_20 : decode cX9_seatStranger 20 = .ok (.iconst 1, 1) := by decide +kernel
theorem dX9_seatStranger_21 : decode cX9_seatStranger 21 = .ok (.goto 4, 3) := by decide +kernel
theorem dX9_seatStranger_24 : decode cX9_seatStranger 24 = .ok (.iconst 0, 1) := by decide +kernel
theorem dX9_seatStranger_25 : decode cX9_seatStranger 25 = .ok (.invokevirtual 91, 3) := by decide +kernel
theorem dX9_seatStranger_28 : decode cX9_seatStranger 28 = .ok (.iload_n 1, 1) := by decide +kernel
theorem dX9_seatStranger_29 : decode cX9_seatStranger 29 = .ok (.invokevirtual 97, 3) := by decide +kernel
theorem dX9_seatStranger_32 : decode cX9_seatStranger 32 = .ok (.ireturn, 1) := by decide +kernel
def fX9_seatStranger (a1 : Int32) (a2 : Int32) (h : Hp) : Option (Int32 × Hp) := bd (fX9_openSpots a2 h) (fun r1 h2 => lb (fun (x4 : Int32) (x5 : Int32) (x6 : Int32) (h7 : Hp) => bd (fX10_bestRun x4 x5 x6 h7) (fun r8 h9 => bd (fX9_take r8 a1 h9) (fun r10 h11 => some (r10, h11)))) (fun j3 => br ((gI h2 9 0 6) ≤ (0 : Int32)) (j3 a1 0 0 h2) (j3 a1 0 1 h2)))
set_option maxRecDepth 20000 in
theorem tX9_seatStranger {X : Cz} {a1 : Int32} {a2 : Int32} {h hE : Hp} {rE : Int32} (hF : fX9_seatStranger a1 a2 h = some (rE, hE)) : Ct X mX9_seatStranger true [zr 9 0, zi a1, zi a2] h (some (zi rE)) hE := by
  refine Ct_of (by decide) (Nat.le_of_ble_eq_true rfl) (ls := [(0, zr 9 0), (1, zi a1), (2, zi a2)]) rfl ?_
  unfold fX9_seatStranger at hF
  refine v_aload_n (j := 0) dX9_seatStranger_0 rfl ?_
  refine v_iload_n (j := 2) dX9_seatStranger_1 rfl ?_
  replace hF := bd_use hF
  obtain ⟨r1, h2, er1, hF⟩ := hF
  refine v_cV (hm := h2) (av := [zi a2]) (st := []) (stn := []) (tX9_openSpots er1) lcX9_openSpots mlX9_87 imX9_openSpots seX9_openSpots rfl rfl rfl rfl ⟨by decide, by decide⟩ (Nat.le_of_ble_eq_true rfl) dX9_seatStranger_2 rfl rfl ?_
  clear er1
  refine v_aload_n (j := 0) dX9_seatStranger_5 rfl ?_
  refine v_aload_n (j := 0) dX9_seatStranger_6 rfl ?_
  refine v_getL (c := 9) rfl rfl rfl ly9_2 cz9 flX9_30 dX9_seatStranger_7 ?_
  refine v_iload_n (j := 1) dX9_seatStranger_10 rfl ?_
  refine v_iconst (v := 0) dX9_seatStranger_11 (by decide) ?_
  refine v_iconst (v := 0) dX9_seatStranger_12 (by decide) ?_
  refine v_aload_n (j := 0) dX9_seatStranger_13 rfl ?_
  refine v_getI (c := 9) rfl (Or.inl rfl) cz9 flX9_58 dX9_seatStranger_14 ?_
  replace hF := lb_ex hF
  obtain ⟨j3, ej3, hF⟩ := hF
  have j3V : ∀ (x4 : Int32) (x5 : Int32) (x6 : Int32) (h7 : Hp), j3 x4 x5 x6 h7 = some (rE, hE) → V X mX9_seatStranger true h 25 [(1, zi a1)] [zi x6, zi x5, zi x4, zr 10 0, zr 9 0] h7 (some (zi rE)) hE := by
    intro x4 x5 x6 h7 hF
    subst ej3
    replace hF := bd_use hF
    obtain ⟨r8, h9, er8, hF⟩ := hF
    refine v_cV (hm := h9) (av := [zi x4, zi x5, zi x6]) (st := [zr 9 0]) (stn := [zi r8, zr 9 0]) (tX10_bestRun er8) lcX10_bestRun mlX9_91 imX10_bestRun seX10_bestRun rfl rfl rfl rfl ⟨by decide, by decide⟩ (Nat.le_of_ble_eq_true rfl) dX9_seatStranger_25 rfl rfl ?_
    clear er8
    refine v_iload_n (j := 0) dX9_seatStranger_28 rfl ?_
    replace hF := bd_use hF
    obtain ⟨r10, h11, er10, hF⟩ := hF
    refine v_cV (hm := h11) (av := [zi r8, zi a1]) (st := []) (stn := [zi r10]) (tX9_take er10) lcX9_take mlX9_97 imX9_take seX9_take rfl rfl rfl rfl ⟨by decide, by decide⟩ (Nat.le_of_ble_eq_true rfl) dX9_seatStranger_29 rfl rfl ?_
    clear er10
    obtain ⟨rfl, rfl⟩ := ret_use hF
    exact v_iret rfl dX9_seatStranger_32
  clear ej3
  refine v_icmp_ge dX9_seatStranger_17 (by decide : _ = ((24 : Nat) : Int)) (fun q => ?_) (fun q => ?_)
  · replace hF := brT q hF
    refine v_iconst (v := 0) dX9_seatStranger_24 (by decide) ?_
    refine v_sub [1] rfl ?_
    exact j3V a1 0 0 h2 hF
  · replace hF := brF q hF
    refine v_iconst (v := 1) dX9_seatStranger_20 (by decide) ?_
    refine v_goto (tgt := 25) dX9_seatStranger_21 (by decide) ?_
    refine v_sub [1] rfl ?_
    exact j3V a1 0 1 h2 hF
theorem dX9_isOwnRunFree_0 : decode cX9_isOwnRunFree 0 = .ok (.aload_n 0, 1) := by decide +kernel
theorem dX9_isOwnRunFree_1 : decode cX9_isOwnRunFree 1 = .ok (.getfield 54, 3) := by decide +kernel
theorem dX9_isOwnRunFree_4 : decode cX9_isOwnRunFree 4 = .ok (.ifnull 27, 3) := by decide +kernel
theorem dX9_isOwnRunFree_7 : decode cX9_isOwnRunFree 7 = .ok (.aload_n 0, 1) := by decide +kernel
theorem dX9_isOwnRunFree_8 : decode cX9_isOwnRunFree 8 = .ok (.getfield 54, 3) := by decide +kernel
theorem dX9_isOwnRunFree_11 : decode cX9_isOwnRunFree 11 = .ok (.iload_n 1, 1) := by decide +kernel
theorem dX9_isOwnRunFree_12 : decode cX9_isOwnRunFree 12 = .ok (.invokevirtual 62, 3) := by decide +kernel
theorem dX9_isOwnRunFree_15 : decode cX9_isOwnRunFree 15 = .ok (.ifCond .eq 16, 3) := by decide +kernel
theorem dX9_isOwnRunFree_18 : decode cX9_isOwnRunFree 18 = .ok (.aload_n 0, 1) := by decide +kernel
theorem dX9_isOwnRunFree_19 : decode cX9_isOwnRunFree 19 = .ok (.getfield 54, 3) := by decide +kernel
theorem dX9_isOwnRunFree_22 : decode cX9_isOwnRunFree 22 = .ok (.getfield 70, 3) := by decide +kernel
theorem dX9_isOwnRunFree_25 : decode cX9_isOwnRunFree 25 = .ok (.iload_n 1, 1) := by decide +kernel
theorem dX9_isOwnRunFree_26 : decode cX9_isOwnRunFree 26 = .ok (.iaload, 1) := by decide +kernel
theorem dX9_isOwnRunFree_27 : decode cX9_isOwnRunFree 27 = .ok (.iload_n 2, 1) := by decide +kernel
theorem dX9_isOwnRunFree_28 : decode cX9_isOwnRunFree 28 = .ok (.if_icmp .eq 5, 3) := by decide +kernel
theorem dX9_isOwnRunFree_31 : decode cX9_isOwnRunFree 31 = .ok (.iconst 0, 1) := by decide +kernel
theorem dX9_isOwnRunFree_32 : decode cX9_isOwnRunFree 32 = .ok (.ireturn, 1) := by decide +kernel
theorem dX9_isOwnRunFree_33 : decode cX9_isOwnRunFree 33 = .ok (.aload_n 0, 1) := by decide +kernel
theorem dX9_isOwnRunFree_34 : decode cX9_isOwnRunFree 34 = .ok (.getfield 54, 3) := by decide +kernel
theorem dX9_isOwnRunFree_37 : decode cX9_isOwnRunFree 37 = .ok (.getfield 67, 3) := by decide +kernel
theorem dX9_isOwnRunFree_40 : decode cX9_isOwnRunFree 40 = .ok (.iload_n 1, 1) := by decide +kernel
theorem dX9_isOwnRunFree_41 : decode cX9_isOwnRunFree 41 = .ok (.iaload, 1) := by decide +kernel
theorem dX9_isOwnRunFree_42 : decode cX9_isOwnRunFree 42 = .ok (.istore_n 3, 1) := by decide +kernel
theorem dX9_isOwnRunFree_43 : decode cX9_isOwnRunFree 43 = .ok (.iload_n 3, 1) := by decide +kernel
theorem dX9_isOwnRunFree_44 : decode cX9_isOwnRunFree 44 = .ok (.istore 4, 2) := by decide +kernel
theorem dX9_isOwnRunFree_46 : decode cX9_isOwnRunFree 46 = .ok (.iload 4, 2) := by decide +kernel
theorem dX9_isOwnRunFree_48 : decode cX9_isOwnRunFree 48 = .ok (.iload_n 3, 1) := by decide +kernel
theorem dX9_isOwnRunFree_49 : decode cX9_isOwnRunFree 49 = .ok (.iload_n 2, 1) := by decide +kernel
theorem dX9_isOwnRunFree_50 : decode cX9_isOwnRunFree 50 = .ok (.iadd, 1) := by decide +kernel
theorem dX9_isOwnRunFree_51 : decode cX9_isOwnRunFree 51 = .ok (.if_icmp .ge 29, 3) := by decide +kernel
theorem dX9_isOwnRunFree_54 : decode cX9_isOwnRunFree 54 = .ok (.iload 4, 2) := by decide +kernel
theorem dX9_isOwnRunFree_56 : decode cX9_isOwnRunFree 56 = .ok (.sipush 256, 3) := by decide +kernel
theorem dX9_isOwnRunFree_59 : decode cX9_isOwnRunFree 59 = .ok (.if_icmp .ge 21, 3) := by decide +kernel
theorem dX9_isOwnRunFree_62 : decode cX9_isOwnRunFree 62 = .ok (.aload_n 0, 1) := by decide +kernel
theorem dX9_isOwnRunFree_63 : decode cX9_isOwnRunFree 63 = .ok (.getfield 15, 3) := by decide +kernel
theorem dX9_isOwnRunFree_66 : decode cX9_isOwnRunFree 66 = .ok (.iload 4, 2) := by decide +kernel
theorem dX9_isOwnRunFree_68 : decode cX9_isOwnRunFree 68 = .ok (.baload, 1) := by decide +kernel
theorem dX9_isOwnRunFree_69 : decode cX9_isOwnRunFree 69 = .ok (.ifCond .eq 5, 3) := by decide +kernel
theorem dX9_isOwnRunFree_72 : decode cX9_isOwnRunFree 72 = .ok (.iconst 0, 1) := by decide +kernel
theorem dX9_isOwnRunFree_73 : decode cX9_isOwnRunFree 73 = .ok (.ireturn, 1) := by decide +kernel
theorem dX9_isOwnRunFree_74 : decode cX9_isOwnRunFree 74 = .ok (.iinc 4 1, 3) := by decide +kernel
theorem dX9_isOwnRunFree_77 : decode cX9_isOwnRunFree 77 = .ok (.goto (-31), 3) := by decide +kernel
theorem dX9_isOwnRunFree_80 : decode cX9_isOwnRunFree 80 = .ok (.iconst 1, 1) := by decide +kernel
theorem dX9_isOwnRunFree_81 : decode cX9_isOwnRunFree 81 = .ok (.ireturn, 1) := by decide +kernel
def fX9_isOwnRunFree_L46 : Nat → Int32 → Int32 → Int32 → Hp → Option ((Int32 ⊕ Int32) × Hp)
  | 0, _, _, _, _ => none
  | n + 1, a2, a3, a4, h => br ((a3 + a2) ≤ a4) (some (.inr (a4), h)) (br (256 ≤ a4) (some (.inr (a4), h)) (gd (ib a4 256) (br ((gI h 46 0 (ix a4)) = 0) (lb (a4 + 1) (fun v19 => fX9_isOwnRunFree_L46 n a2 a3 v19 h)) (some (.inl 0, h)))))
def fX9_isOwnRunFree (a1 : Int32) (a2 : Int32) (h : Hp) : Option (Int32 × Hp) := lb (gR h 9 0 5) (fun o1 => mt o1 (some (0, h)) (fun z2 => lb (gR h 9 0 5) (fun o3 => mt o3 none (fun z4 => bd (fX8_isSitting z4 a1 h) (fun r5 h6 => br (r5 = 0) (some (0, h6)) (lb (gR h6 9 0 5) (fun o7 => mt o7 none (fun z8 => lb (gR h6 8 z8 1) (fun o9 => mt o9 none (fun z10 => gd (ib a1 12) (br ((gI h6 42 z10 (ix a1)) = a2) (lb (gR h6 9 0 5) (fun o12 => mt o12 none (fun z13 => lb (gR h6 8 z13 0) (fun o14 => mt o14 none (fun z15 => gd (ib a1 12) (lb (gI h6 41 z15 (ix a1)) (fun v17 => bd (fX9_isOwnRunFree_L46 FU a2 v17 v17 h6) (fun u23 h20 => ms u23 (fun r24 => some (r24, h20)) (fun v22 => some (1, h20)))))))))) (some (0, h6)))))))))))))
set_option maxRecDepth 20000 in
theorem tX9_isOwnRunFree_L46 {X : Cz} {h0 : Hp} {r : Option AV} {hE : Hp} : ∀ (n : Nat) (a2 : Int32) (a3 : Int32) (a4 : Int32) (h : Hp) (z : (Int32 ⊕ Int32) × Hp), fX9_isOwnRunFree_L46 n a2 a3 a4 h = some z → lk z r hE (fun v => some (zi v)) (fun t hx => V X mX9_isOwnRunFree true h0 80 [(0, zr 9 0), (2, zi a2), (3, zi a3), (4, zi t)] [] hx r hE) → V X mX9_isOwnRunFree true h0 46 [(0, zr 9 0), (2, zi a2), (3, zi a3), (4, zi a4)] [] h r hE := by
  intro n
  induction n with
  | zero => intro a2 a3 a4 h z hF k; cases hF
  | succ n ih =>
    intro a2 a3 a4 h z hF k
    rw [fX9_isOwnRunFree_L46] at hF
    refine v_iload (j := 3) dX9_isOwnRunFree_46 rfl ?_
    refine v_iload_n (j := 2) dX9_isOwnRunFree_48 rfl ?_
    refine v_iload_n (j := 1) dX9_isOwnRunFree_49 rfl ?_
    refine v_iadd dX9_isOwnRunFree_50 ?_
    refine v_icmp_ge dX9_isOwnRunFree_51 (by decide : _ = ((80 : Nat) : Int)) (fun q => ?_) (fun q => ?_)
    · replace hF := brT q hF
      cases hF
      exact k
    · replace hF := brF q hF
      refine v_iload (j := 3) dX9_isOwnRunFree_54 rfl ?_
      refine v_sipush (v := 256) dX9_isOwnRunFree_56 (by decide) ?_
      refine v_icmp_ge dX9_isOwnRunFree_59 (by decide : _ = ((80 : Nat) : Int)) (fun q => ?_) (fun q => ?_)
      · replace hF := brT q hF
        cases hF
        exact k
      · replace hF := brF q hF
        refine v_aload_n (j := 0) dX9_isOwnRunFree_62 rfl ?_
        refine v_getL (c := 9) rfl rfl rfl ly9_4 cz9 flX9_15 dX9_isOwnRunFree_63 ?_
        refine v_iload (j := 3) dX9_isOwnRunFree_66 rfl ?_
        replace hF := gd_use hF
        obtain ⟨q18, hF⟩ := hF
        refine v_zald rfl q18 dX9_isOwnRunFree_68 ?_
        refine v_if_eq dX9_isOwnRunFree_69 (by decide : _ = ((74 : Nat) : Int)) (fun q => ?_) (fun q => ?_)
        · replace hF := brT q hF
          obtain ⟨v19, ev19⟩ : ∃ y : Int32, y = a4 + 1 := ⟨_, rfl⟩
          replace hF := lb_use ev19 hF
          refine v_iinc (j := 3) (v := v19) (ls' := [(4, zi v19), (0, zr 9 0), (2, zi a2), (3, zi a3)]) dX9_isOwnRunFree_74 rfl (by rw [ev19]; rfl) (by decide) rfl ?_
          clear ev19
          refine v_goto (tgt := 46) dX9_isOwnRunFree_77 (by decide) ?_
          refine v_sub [1, 2, 3, 0] rfl ?_
          exact ih a2 a3 v19 h _ hF k
        · replace hF := brF q hF
          refine v_iconst (v := 0) dX9_isOwnRunFree_72 (by decide) ?_
          cases hF
          obtain ⟨rfl, rfl⟩ := (k : _ ∧ _)
          exact v_zret rfl (Or.inl rfl) dX9_isOwnRunFree_73
set_option maxRecDepth 20000 in
theorem tX9_isOwnRunFree {X : Cz} {a1 : Int32} {a2 : Int32} {h hE : Hp} {rE : Int32} (hF : fX9_isOwnRunFree a1 a2 h = some (rE, hE)) : Ct X mX9_isOwnRunFree true [zr 9 0, zi a1, zi a2] h (some (zi rE)) hE := by
  refine Ct_of (by decide) (Nat.le_of_ble_eq_true rfl) (ls := [(0, zr 9 0), (1, zi a1), (2, zi a2)]) rfl ?_
  unfold fX9_isOwnRunFree at hF
  refine v_aload_n (j := 0) dX9_isOwnRunFree_0 rfl ?_
  refine v_getR (c := 9) (k2 := 8) rfl rfl rfl cz9 flX9_54 dX9_isOwnRunFree_1 ?_
  refine v_topq fun o1 eo1 => ?_
  replace hF := lb_use eo1 hF
  clear eo1
  cases o1 with
  | none =>
    replace hF := mtN hF
    refine v_ifnullN (tgt := 31) dX9_isOwnRunFree_4 (by decide) ?_
    refine v_iconst (v := 0) dX9_isOwnRunFree_31 (by decide) ?_
    obtain ⟨rfl, rfl⟩ := ret_use hF
    exact v_zret rfl (Or.inl rfl) dX9_isOwnRunFree_32
  | some z2 =>
    replace hF := mtS hF
    refine v_ifnullS (q := (8, z2)) (tgt := 31) dX9_isOwnRunFree_4 (by decide) ?_
    refine v_aload_n (j := 0) dX9_isOwnRunFree_7 rfl ?_
    refine v_getR (c := 9) (k2 := 8) rfl rfl rfl cz9 flX9_54 dX9_isOwnRunFree_8 ?_
    refine v_topq fun o3 eo3 => ?_
    replace hF := lb_use eo3 hF
    clear eo3
    refine v_iload_n (j := 1) dX9_isOwnRunFree_11 rfl ?_
    replace hF := mt_use hF
    obtain ⟨z4, ez4, hF⟩ := hF
    subst ez4
    replace hF := bd_use hF
    obtain ⟨r5, h6, er5, hF⟩ := hF
    refine v_cV (hm := h6) (av := [zi a1]) (st := []) (stn := [zi r5]) (tX8_isSitting er5) lcX8_isSitting mlX9_62 imX8_isSitting seX8_isSitting rfl rfl rfl rfl ⟨by decide, by decide⟩ (Nat.le_of_ble_eq_true rfl) dX9_isOwnRunFree_12 rfl rfl ?_
    clear er5
    refine v_if_eq dX9_isOwnRunFree_15 (by decide : _ = ((31 : Nat) : Int)) (fun q => ?_) (fun q => ?_)
    · replace hF := brT q hF
      refine v_iconst (v := 0) dX9_isOwnRunFree_31 (by decide) ?_
      obtain ⟨rfl, rfl⟩ := ret_use hF
      exact v_zret rfl (Or.inl rfl) dX9_isOwnRunFree_32
    · replace hF := brF q hF
      refine v_aload_n (j := 0) dX9_isOwnRunFree_18 rfl ?_
      refine v_getR (c := 9) (k2 := 8) rfl rfl rfl cz9 flX9_54 dX9_isOwnRunFree_19 ?_
      refine v_topq fun o7 eo7 => ?_
      replace hF := lb_use eo7 hF
      clear eo7
      replace hF := mt_use hF
      obtain ⟨z8, ez8, hF⟩ := hF
      subst ez8
      refine v_getR (c := 8) (k2 := 42) rfl rfl rfl cz8 flX9_70 dX9_isOwnRunFree_22 ?_
      refine v_topq fun o9 eo9 => ?_
      replace hF := lb_use eo9 hF
      clear eo9
      refine v_iload_n (j := 1) dX9_isOwnRunFree_25 rfl ?_
      replace hF := mt_use hF
      obtain ⟨z10, ez10, hF⟩ := hF
      subst ez10
      replace hF := gd_use hF
      obtain ⟨q11, hF⟩ := hF
      refine v_iald rfl q11 dX9_isOwnRunFree_26 ?_
      refine v_iload_n (j := 2) dX9_isOwnRunFree_27 rfl ?_
      refine v_icmp_eq dX9_isOwnRunFree_28 (by decide : _ = ((33 : Nat) : Int)) (fun q => ?_) (fun q => ?_)
      · replace hF := brT q hF
        refine v_aload_n (j := 0) dX9_isOwnRunFree_33 rfl ?_
        refine v_getR (c := 9) (k2 := 8) rfl rfl rfl cz9 flX9_54 dX9_isOwnRunFree_34 ?_
        refine v_topq fun o12 eo12 => ?_
        replace hF := lb_use eo12 hF
        clear eo12
        replace hF := mt_use hF
        obtain ⟨z13, ez13, hF⟩ := hF
        subst ez13
        refine v_getR (c := 8) (k2 := 41) rfl rfl rfl cz8 flX9_67 dX9_isOwnRunFree_37 ?_
        refine v_topq fun o14 eo14 => ?_
        replace hF := lb_use eo14 hF
        clear eo14
        refine v_iload_n (j := 1) dX9_isOwnRunFree_40 rfl ?_
        replace hF := mt_use hF
        obtain ⟨z15, ez15, hF⟩ := hF
        subst ez15
        replace hF := gd_use hF
        obtain ⟨q16, hF⟩ := hF
        refine v_iald rfl q16 dX9_isOwnRunFree_41 ?_
        refine v_topi fun v17 ev17 => ?_
        replace hF := lb_use ev17 hF
        clear ev17
        refine v_istore_n (ls' := [(3, zi v17), (0, zr 9 0), (1, zi a1), (2, zi a2)]) dX9_isOwnRunFree_42 (by decide) rfl ?_
        refine v_iload_n (j := 0) dX9_isOwnRunFree_43 rfl ?_
        refine v_istore (ls' := [(4, zi v17), (3, zi v17), (0, zr 9 0), (1, zi a1), (2, zi a2)]) dX9_isOwnRunFree_44 (by decide) rfl ?_
        refine v_sub [2, 4, 1, 0] rfl ?_
        replace hF := bd_use hF
        obtain ⟨u23, h20, ev22, hF⟩ := hF
        rcases u23 with r24 | v22
        · obtain ⟨rfl, rfl⟩ := ret_use hF
          exact tX9_isOwnRunFree_L46 _ a2 v17 v17 h6 _ ev22 ⟨rfl, rfl⟩
        replace hF := msR hF
        refine tX9_isOwnRunFree_L46 _ a2 v17 v17 h6 _ ev22 ?_
        clear ev22
        refine v_iconst (v := 1) dX9_isOwnRunFree_80 (by decide) ?_
        obtain ⟨rfl, rfl⟩ := ret_use hF
        exact v_zret rfl (Or.inr rfl) dX9_isOwnRunFree_81
      · replace hF := brF q hF
        refine v_iconst (v := 0) dX9_isOwnRunFree_31 (by decide) ?_
        obtain ⟨rfl, rfl⟩ := ret_use hF
        exact v_zret rfl (Or.inl rfl) dX9_isOwnRunFree_32
theorem dX9_seatHousehold_0 : decode cX9_seatHousehold 0 = .ok (.aload_n 0, 1) := by decide +kernel
theorem dX9_seatHousehold_1 : decode cX9_seatHousehold 1 = .ok (.getfield 26, 3) := by decide +kernel
theorem dX9_seatHousehold_4 : decode cX9_seatHousehold 4 = .ok (.iload_n 1, 1) := by decide +kernel
theorem dX9_seatHousehold_5 : decode cX9_seatHousehold 5 = .ok (.invokevirtual 101, 3) := by decide +kernel
theorem dX9_seatHousehold_8 : decode cX9_seatHousehold 8 = .ok (.astore_n 3, 1) := by decide +kernel
theorem dX9_seatHousehold_9 : decode cX9_seatHousehold 9 = .ok (.aload_n 3, 1) := by decide +kernel
theorem dX9_seatHousehold_10 : decode cX9_seatHousehold 10 = .ok (.ifnonnull 5, 3) := by decide +kernel
theorem dX9_seatHousehold_13 : decode cX9_seatHousehold 13 = .ok (.iconst (-1), 1) := by decide +kernel
theorem dX9_seatHousehold_14 : decode cX9_seatHousehold 14 = .ok (.ireturn, 1) := by decide +kernel
theorem dX9_seatHousehold_15 : decode cX9_seatHousehold 15 = .ok (.iload_n 2, 1) := by decide +kernel
theorem dX9_seatHousehold_16 : decode cX9_seatHousehold 16 = .ok (.ifCond .eq 33, 3) := by decide +kernel
theorem dX9_seatHousehold_19 : decode cX9_seatHousehold 19 = .ok (.aload_n 0, 1) := by decide +kernel
theorem dX9_seatHousehold_20 : decode cX9_seatHousehold 20 = .ok (.iload_n 1, 1) := by decide +kernel
theorem dX9_seatHousehold_21 : decode cX9_seatHousehold 21 = .ok (.aload_n 3, 1) := by decide +kernel
theorem dX9_seatHousehold_22 : decode cX9_seatHousehold 22 = .ok (.getfield 105, 3) := by decide +kernel
theorem dX9_seatHousehold_25 : decode cX9_seatHousehold 25 = .ok (.invokevirtual 109, 3) := by decide +kernel
theorem dX9_seatHousehold_28 : decode cX9_seatHousehold 28 = .ok (.ifCond .eq 21, 3) := by decide +kernel
theorem dX9_seatHousehold_31 : decode cX9_seatHousehold 31 = .ok (.aload_n 0, 1) := by decide +kernel
theorem dX9_seatHousehold_32 : decode cX9_seatHousehold 32 = .ok (.aload_n 0, 1) := by decide +kernel
theorem dX9_seatHousehold_33 : decode cX9_seatHousehold 33 = .ok (.getfield 54, 3) := by decide +kernel
theorem dX9_seatHousehold_36 : decode cX9_seatHousehold 36 = .ok (.getfield 67, 3) := by decide +kernel
theorem dX9_seatHousehold_39 : decode cX9_seatHousehold 39 = .ok (.iload_n 1, 1) := by decide +kernel
theorem dX9_seatHousehold_40 : decode cX9_seatHousehold 40 = .ok (.iaload, 1) := by decide +kernel
theorem dX9_seatHousehold_41 : decode cX9_seatHousehold 41 = .ok (.aload_n 3, 1) := by decide +kernel
theorem dX9_seatHousehold_42 : decode cX9_seatHousehold 42 = .ok (.getfield 105, 3) := by decide +kernel
theorem dX9_seatHousehold_45 : decode cX9_seatHousehold 45 = .ok (.invokevirtual 97, 3) := by decide +kernel
theorem dX9_seatHousehold_48 : decode cX9_seatHousehold 48 = .ok (.ireturn, 1) := by decide +kernel
theorem dX9_seatHousehold_49 : decode cX9_seatHousehold 49 = .ok (.aload_n 0, 1) := by decide +kernel
theorem dX9_seatHousehold_50 : decode cX9_seatHousehold 50 = .ok (.iload_n 2, 1) := by decide +kernel
theorem dX9_seatHousehold_51 : decode cX9_seatHousehold 51 = .ok (.invokevirtual 87, 3) := by decide +kernel
theorem dX9_seatHousehold_54 : decode cX9_seatHousehold 54 = .ok (.aload_n 0, 1) := by decide +kernel
theorem dX9_seatHousehold_55 : decode cX9_seatHousehold 55 = .ok (.aload_n 0, 1) := by decide +kernel
theorem dX9_seatHousehold_56 : decode cX9_seatHousehold 56 = .ok (.getfield 30, 3) := by decide +kernel
theorem dX9_seatHousehold_59 : decode cX9_seatHousehold 59 = .ok (.aload_n 3, 1) := by decide +kernel
theorem dX9_seatHousehold_60 : decode cX9_seatHousehold 60 = .ok (.getfield 105, 3) := by decide +kernel
theorem dX9_seatHousehold_63 : decode cX9_seatHousehold 63 = .ok (.aload_n 3, 1) := by decide +kernel
theorem dX9_seatHousehold_64 : decode cX9_seatHousehold 64 = .ok (.getfield 113, 3) := by decide +kernel
theorem dX9_seatHousehold_67 : decode cX9_seatHousehold 67 = .ok (.aload_n 3, 1) := by decide +kernel
theorem dX9_seatHousehold_68 : decode cX9_seatHousehold 68 = .ok (.getfield 116, 3) := by decide +kernel
theorem dX9_seatHousehold_71 : decode cX9_seatHousehold 71 = .ok (.aload_n 0, 1) := by decide +kernel
theorem dX9_seatHousehold_72 : decode cX9_seatHousehold 72 = .ok (.getfield 58, 3) := by decide +kernel
theorem dX9_seatHousehold_75 : decode cX9_seatHousehold 75 = .ok (.if_icmp .ge 7, 3) := by decide +kernel
theorem dX9_seatHousehold_78 : decode cX9_seatHousehold 78 = .ok (.iconst 1, 1) := by decide +kernel
theorem dX9_seatHousehold_79 : decode cX9_seatHousehold 79 = .ok (.goto 4, 3) := by decide +kernel
theorem dX9_seatHousehold_82 : decode cX9_seatHousehold 82 = .ok (.iconst 0, 1) := by decide +kernel
theorem dX9_seatHousehold_83 : decode cX9_seatHousehold 83 = .ok (.invokevirtual 91, 3) := by decide +kernel
theorem dX9_seatHousehold_86 : decode cX9_seatHousehold 86 = .ok (.aload_n 3, 1) := by decide +kernel
theorem dX9_seatHousehold_87 : decode cX9_seatHousehold 87 = .ok (.getfield 105, 3) := by decide +kernel
theorem dX9_seatHousehold_90 : decode cX9_seatHousehold 90 = .ok (.invokevirtual 97, 3) := by decide +kernel
theorem dX9_seatHousehold_93 : decode cX9_seatHousehold 93 = .ok (.ireturn, 1) := by decide +kernel
def fX9_seatHousehold (a1 : Int32) (a2 : Int32) (h : Hp) : Option (Int32 × Hp) := bd (fX4_find a1 h) (fun r1 h2 => mt r1 (some ((-1), h2)) (fun z3 => lb (fun (h5 : Hp) => bd (fX9_openSpots a2 h5) (fun r6 h7 => lb (fun (x9 : Int32) (x10 : Int32) (x11 : Int32) (h12 : Hp) => bd (fX10_bestRun x9 x10 x11 h12) (fun r13 h14 => bd (fX9_take r13 (gI h14 2 z3 1) h14) (fun r15 h16 => some (r15, h16)))) (fun j8 => br ((gI h7 9 0 6) ≤ (gI h7 2 z3 0)) (j8 (gI h7 2 z3 1) (gI h7 2 z3 2) 0 h7) (j8 (gI h7 2 z3 1) (gI h7 2 z3 2) 1 h7)))) (fun j4 => br (a2 = 0) (j4 h2) (bd (fX9_isOwnRunFree a1 (gI h2 2 z3 1) h2) (fun r17 h18 => br (r17 = 0) (j4 h18) (lb (gR h18 9 0 5) (fun o19 => mt o19 none (fun z20 => lb (gR h18 8 z20 0) (fun o21 => mt o21 none (fun z22 => gd (ib a1 12) (bd (fX9_take (gI h18 41 z22 (ix a1)) (gI h18 2 z3 1) h18) (fun r24 h25 => some (r24, h25)))))))))))))
set_option maxRecDepth 20000 in
theorem tX9_seatHousehold {X : Cz} {a1 : Int32} {a2 : Int32} {h hE : Hp} {rE : Int32} (hF : fX9_seatHousehold a1 a2 h = some (rE, hE)) : Ct X mX9_seatHousehold true [zr 9 0, zi a1, zi a2] h (some (zi rE)) hE := by
  refine Ct_of (by decide) (Nat.le_of_ble_eq_true rfl) (ls := [(0, zr 9 0), (1, zi a1), (2, zi a2)]) rfl ?_
  unfold fX9_seatHousehold at hF
  refine v_aload_n (j := 0) dX9_seatHousehold_0 rfl ?_
  refine v_getL (c := 9) rfl rfl rfl ly9_1 cz9 flX9_26 dX9_seatHousehold_1 ?_
  refine v_iload_n (j := 1) dX9_seatHousehold_4 rfl ?_
  replace hF := bd_use hF
  obtain ⟨r1, h2, er1, hF⟩ := hF
  refine v_cV (hm := h2) (av := [zi a1]) (st := []) (stn := [zq 2 r1]) (tX4_find er1) lcX4_find mlX9_101 imX4_find seX4_find rfl rfl rfl rfl ⟨by decide, by decide⟩ (Nat.le_of_ble_eq_true rfl) dX9_seatHousehold_5 rfl rfl ?_
  clear er1
  refine v_astore_n (ls' := [(3, zq 2 r1), (0, zr 9 0), (1, zi a1), (2, zi a2)]) dX9_seatHousehold_8 (by decide) rfl ?_
  refine v_aload_n (j := 0) dX9_seatHousehold_9 rfl ?_
  cases r1 with
  | none =>
    replace hF := mtN hF
    refine v_ifnonnullN (tgt := 15) dX9_seatHousehold_10 (by decide) ?_
    refine v_iconst (v := (-1)) dX9_seatHousehold_13 (by decide) ?_
    obtain ⟨rfl, rfl⟩ := ret_use hF
    exact v_iret rfl dX9_seatHousehold_14
  | some z3 =>
    replace hF := mtS hF
    refine v_ifnonnullS (q := (2, z3)) (tgt := 15) dX9_seatHousehold_10 (by decide) ?_
    refine v_iload_n (j := 3) dX9_seatHousehold_15 rfl ?_
    replace hF := lb_ex hF
    obtain ⟨j4, ej4, hF⟩ := hF
    have j4V : ∀ (h5 : Hp), j4 h5 = some (rE, hE) → V X mX9_seatHousehold true h 49 [(0, zr 9 0), (2, zi a2), (3, zr 2 z3)] [] h5 (some (zi rE)) hE := by
      intro h5 hF
      subst ej4
      refine v_aload_n (j := 0) dX9_seatHousehold_49 rfl ?_
      refine v_iload_n (j := 1) dX9_seatHousehold_50 rfl ?_
      replace hF := bd_use hF
      obtain ⟨r6, h7, er6, hF⟩ := hF
      refine v_cV (hm := h7) (av := [zi a2]) (st := []) (stn := []) (tX9_openSpots er6) lcX9_openSpots mlX9_87 imX9_openSpots seX9_openSpots rfl rfl rfl rfl ⟨by decide, by decide⟩ (Nat.le_of_ble_eq_true rfl) dX9_seatHousehold_51 rfl rfl ?_
      clear er6
      refine v_aload_n (j := 0) dX9_seatHousehold_54 rfl ?_
      refine v_aload_n (j := 0) dX9_seatHousehold_55 rfl ?_
      refine v_getL (c := 9) rfl rfl rfl ly9_2 cz9 flX9_30 dX9_seatHousehold_56 ?_
      refine v_aload_n (j := 2) dX9_seatHousehold_59 rfl ?_
      refine v_getI (c := 2) rfl (Or.inl rfl) cz2 flX9_105 dX9_seatHousehold_60 ?_
      refine v_aload_n (j := 2) dX9_seatHousehold_63 rfl ?_
      refine v_getI (c := 2) rfl (Or.inl rfl) cz2 flX9_113 dX9_seatHousehold_64 ?_
      refine v_aload_n (j := 2) dX9_seatHousehold_67 rfl ?_
      refine v_getI (c := 2) rfl (Or.inl rfl) cz2 flX9_116 dX9_seatHousehold_68 ?_
      refine v_aload_n (j := 0) dX9_seatHousehold_71 rfl ?_
      refine v_getI (c := 9) rfl (Or.inl rfl) cz9 flX9_58 dX9_seatHousehold_72 ?_
      replace hF := lb_ex hF
      obtain ⟨j8, ej8, hF⟩ := hF
      have j8V : ∀ (x9 : Int32) (x10 : Int32) (x11 : Int32) (h12 : Hp), j8 x9 x10 x11 h12 = some (rE, hE) → V X mX9_seatHousehold true h 83 [(3, zr 2 z3)] [zi x11, zi x10, zi x9, zr 10 0, zr 9 0] h12 (some (zi rE)) hE := by
        intro x9 x10 x11 h12 hF
        subst ej8
        replace hF := bd_use hF
        obtain ⟨r13, h14, er13, hF⟩ := hF
        refine v_cV (hm := h14) (av := [zi x9, zi x10, zi x11]) (st := [zr 9 0]) (stn := [zi r13, zr 9 0]) (tX10_bestRun er13) lcX10_bestRun mlX9_91 imX10_bestRun seX10_bestRun rfl rfl rfl rfl ⟨by decide, by decide⟩ (Nat.le_of_ble_eq_true rfl) dX9_seatHousehold_83 rfl rfl ?_
        clear er13
        refine v_aload_n (j := 0) dX9_seatHousehold_86 rfl ?_
        refine v_getI (c := 2) rfl (Or.inl rfl) cz2 flX9_105 dX9_seatHousehold_87 ?_
        replace hF := bd_use hF
        obtain ⟨r15, h16, er15, hF⟩ := hF
        refine v_cV (hm := h16) (av := [zi r13, zi (gI h14 2 z3 1)]) (st := []) (stn := [zi r15]) (tX9_take er15) lcX9_take mlX9_97 imX9_take seX9_take rfl rfl rfl rfl ⟨by decide, by decide⟩ (Nat.le_of_ble_eq_true rfl) dX9_seatHousehold_90 rfl rfl ?_
        clear er15
        obtain ⟨rfl, rfl⟩ := ret_use hF
        exact v_iret rfl dX9_seatHousehold_93
      clear ej8
      refine v_icmp_ge dX9_seatHousehold_75 (by decide : _ = ((82 : Nat) : Int)) (fun q => ?_) (fun q => ?_)
      · replace hF := brT q hF
        refine v_iconst (v := 0) dX9_seatHousehold_82 (by decide) ?_
        refine v_sub [2] rfl ?_
        exact j8V (gI h7 2 z3 1) (gI h7 2 z3 2) 0 h7 hF
      · replace hF := brF q hF
        refine v_iconst (v := 1) dX9_seatHousehold_78 (by decide) ?_
        refine v_goto (tgt := 83) dX9_seatHousehold_79 (by decide) ?_
        refine v_sub [2] rfl ?_
        exact j8V (gI h7 2 z3 1) (gI h7 2 z3 2) 1 h7 hF
    clear ej4
    refine v_if_eq dX9_seatHousehold_16 (by decide : _ = ((49 : Nat) : Int)) (fun q => ?_) (fun q => ?_)
    · replace hF := brT q hF
      refine v_sub [1, 3, 0] rfl ?_
      exact j4V h2 hF
    · replace hF := brF q hF
      refine v_aload_n (j := 1) dX9_seatHousehold_19 rfl ?_
      refine v_iload_n (j := 2) dX9_seatHousehold_20 rfl ?_
      refine v_aload_n (j := 0) dX9_seatHousehold_21 rfl ?_
      refine v_getI (c := 2) rfl (Or.inl rfl) cz2 flX9_105 dX9_seatHousehold_22 ?_
      replace hF := bd_use hF
      obtain ⟨r17, h18, er17, hF⟩ := hF
      refine v_cV (hm := h18) (av := [zi a1, zi (gI h2 2 z3 1)]) (st := []) (stn := [zi r17]) (tX9_isOwnRunFree er17) lcX9_isOwnRunFree mlX9_109 imX9_isOwnRunFree seX9_isOwnRunFree rfl rfl rfl rfl ⟨by decide, by decide⟩ (Nat.le_of_ble_eq_true rfl) dX9_seatHousehold_25 rfl rfl ?_
      clear er17
      refine v_if_eq dX9_seatHousehold_28 (by decide : _ = ((49 : Nat) : Int)) (fun q => ?_) (fun q => ?_)
      · replace hF := brT q hF
        refine v_sub [1, 3, 0] rfl ?_
        exact j4V h18 hF
      · replace hF := brF q hF
        refine v_aload_n (j := 1) dX9_seatHousehold_31 rfl ?_
        refine v_aload_n (j := 1) dX9_seatHousehold_32 rfl ?_
        refine v_getR (c := 9) (k2 := 8) rfl rfl rfl cz9 flX9_54 dX9_seatHousehold_33 ?_
        refine v_topq fun o19 eo19 => ?_
        replace hF := lb_use eo19 hF
        clear eo19
        replace hF := mt_use hF
        obtain ⟨z20, ez20, hF⟩ := hF
        subst ez20
        refine v_getR (c := 8) (k2 := 41) rfl rfl rfl cz8 flX9_67 dX9_seatHousehold_36 ?_
        refine v_topq fun o21 eo21 => ?_
        replace hF := lb_use eo21 hF
        clear eo21
        refine v_iload_n (j := 2) dX9_seatHousehold_39 rfl ?_
        replace hF := mt_use hF
        obtain ⟨z22, ez22, hF⟩ := hF
        subst ez22
        replace hF := gd_use hF
        obtain ⟨q23, hF⟩ := hF
        refine v_iald rfl q23 dX9_seatHousehold_40 ?_
        refine v_aload_n (j := 0) dX9_seatHousehold_41 rfl ?_
        refine v_getI (c := 2) rfl (Or.inl rfl) cz2 flX9_105 dX9_seatHousehold_42 ?_
        replace hF := bd_use hF
        obtain ⟨r24, h25, er24, hF⟩ := hF
        refine v_cV (hm := h25) (av := [zi (gI h18 41 z22 (ix a1)), zi (gI h18 2 z3 1)]) (st := []) (stn := [zi r24]) (tX9_take er24) lcX9_take mlX9_97 imX9_take seX9_take rfl rfl rfl rfl ⟨by decide, by decide⟩ (Nat.le_of_ble_eq_true rfl) dX9_seatHousehold_45 rfl rfl ?_
        clear er24
        obtain ⟨rfl, rfl⟩ := ret_use hF
        exact v_iret rfl dX9_seatHousehold_48
theorem dX9_hold_0 : decode cX9_hold 0 = .ok (.iconst 0, 1) := by decide +kernel
theorem dX9_hold_1 : decode cX9_hold 1 = .ok (.istore 4, 2) := by decide +kernel
theorem dX9_hold_3 : decode cX9_hold 3 = .ok (.aload_n 0, 1) := by decide +kernel
theorem dX9_hold_4 : decode cX9_hold 4 = .ok (.aload_n 1, 1) := by decide +kernel
theorem dX9_hold_5 : decode cX9_hold 5 = .ok (.iload_n 2, 1) := by decide +kernel
theorem dX9_hold_6 : decode cX9_hold 6 = .ok (.invokevirtual 34, 3) := by decide +kernel
theorem dX9_hold_9 : decode cX9_hold 9 = .ok (.putfield 77, 3) := by decide +kernel
theorem dX9_hold_12 : decode cX9_hold 12 = .ok (.iconst 0, 1) := by decide +kernel
theorem dX9_hold_13 : decode cX9_hold 13 = .ok (.istore 5, 2) := by decide +kernel
theorem dX9_hold_15 : decode cX9_hold 15 = .ok (.iload 5, 2) := by decide +kernel
theorem dX9_hold_17 : decode cX9_hold 17 = .ok (.aload_n 0, 1) := by decide +kernel
theorem dX9_hold_18 : decode cX9_hold 18 = .ok (.getfield 77, 3) := by decide +kernel
theorem dX9_hold_21 : decode cX9_hold 21 = .ok (.if_icmp .ge 100, 3) := by decide +kernel
theorem dX9_hold_24 : decode cX9_hold 24 = .ok (.iload 5, 2) := by decide +kernel
theorem dX9_hold_26 : decode cX9_hold 26 = .ok (.aload_n 0, 1) := by decide +kernel
theorem dX9_hold_27 : decode cX9_hold 27 = .ok (.getfield 18, 3) := by decide +kernel
theorem dX9_hold_30 : decode cX9_hold 30 = .ok (.arraylength, 1) := by decide +kernel
theorem dX9_hold_31 : decode cX9_hold 31 = .ok (.if_icmp .ge 90, 3) := by decide +kernel
theorem dX9_hold_34 : decode cX9_hold 34 = .ok (.aload_n 1, 1) := by decide +kernel
theorem dX9_hold_35 : decode cX9_hold 35 = .ok (.iload_n 2, 1) := by decide +kernel
theorem dX9_hold_36 : decode cX9_hold 36 = .ok (.iload 5, 2) := by decide +kernel
theorem dX9_hold_38 : decode cX9_hold 38 = .ok (.invokevirtual 40, 3) := by decide +kernel
theorem dX9_hold_41 : decode cX9_hold 41 = .ok (.l2i, 1) := by decide +kernel
theorem dX9_hold_42 : decode cX9_hold 42 = .ok (.istore 6, 2) := by decide +kernel
theorem dX9_hold_44 : decode cX9_hold 44 = .ok (.aload_n 0, 1) := by decide +kernel
theorem dX9_hold_45 : decode cX9_hold 45 = .ok (.getfield 18, 3) := by decide +kernel
theorem dX9_hold_48 : decode cX9_hold 48 = .ok (.iload 5, 2) := by decide +kernel
theorem dX9_hold_50 : decode cX9_hold 50 = .ok (.iload 6, 2) := by decide +kernel
theorem dX9_hold_52 : decode cX9_hold 52 = .ok (.ifCond .ge 24, 3) := by decide +kernel
theorem dX9_hold_55 : decode cX9_hold 55 = .ok (.aload_n 0, 1) := by decide +kernel
theorem dX9_hold_56 : decode cX9_hold 56 = .ok (.iload 6, 2) := by decide +kernel
theorem dX9_hold_58 : decode cX9_hold 58 = .ok (.ineg, 1) := by decide +kernel
theorem dX9_hold_59 : decode cX9_hold 59 = .ok (.iload 5, 2) := by decide +kernel
theorem dX9_hold_61 : decode cX9_hold 61 = .ok (.iload_n 3, 1) := by decide +kernel
theorem dX9_hold_62 : decode cX9_hold 62 = .ok (.if_icmp .ge 7, 3) := by decide +kernel
theorem dX9_hold_65 : decode cX9_hold 65 = .ok (.iconst 1, 1) := by decide +kernel
theorem dX9_hold_66 : decode cX9_hold 66 = .ok (.goto 4, 3) := by decide +kernel
theorem dX9_hold_69 : decode cX9_hold 69 = .ok (.iconst 0, 1) := by decide +kernel
theorem dX9_hold_70 : decode cX9_hold 70 = .ok (.invokevirtual 80, 3) := by decide +kernel
theorem dX9_hold_73 : decode cX9_hold 73 = .ok (.goto 20, 3) := by decide +kernel
theorem dX9_hold_76 : decode cX9_hold 76 = .ok (.aload_n 0, 1) := by decide +kernel
theorem dX9_hold_77 : decode cX9_hold 77 = .ok (.iload 6, 2) := by decide +kernel
theorem dX9_hold_79 : decode cX9_hold 79 = .ok (.iload 5, 2) := by decide +kernel
theorem dX9_hold_81 : decode cX9_hold 81 = .ok (.iload_n 3, 1) := by decide +kernel
theorem dX9_hold_82 : decode cX9_hold 82 = .ok (.if_icmp .ge 7, 3) := by decide +kernel
theorem dX9_hold_85 : decode cX9_hold 85 = .ok (.iconst 1, 1) := by decide +kernel
theorem dX9_hold_86 : decode cX9_hold 86 = .ok (.goto 4, 3) := by decide +kernel
theorem dX9_hold_89 : decode cX9_hold 89 = .ok (.iconst 0, 1) := by decide +kernel
theorem dX9_hold_90 : decode cX9_hold 90 = .ok (.invokevirtual 84, 3) := by decide +kernel
theorem dX9_hold_93 : decode cX9_hold 93 = .ok (.iastore, 1) := by decide +kernel
theorem dX9_hold_94 : decode cX9_hold 94 = .ok (.iload 4, 2) := by decide +kernel
theorem dX9_hold_96 : decode cX9_hold 96 = .ok (.aload_n 0, 1) := by decide +kernel
theorem dX9_hold_97 : decode cX9_hold 97 = .ok (.getfield 18, 3) := by decide +kernel
theorem dX9_hold_100 : decode cX9_hold 100 = .ok (.iload 5, 2) := by decide +kernel
theorem dX9_hold_102 : decode cX9_hold 102 = .ok (.iaload, 1) := by decide +kernel
theorem dX9_hold_103 : decode cX9_hold 103 = .ok (.iconst (-1), 1) := by decide +kernel
theorem dX9_hold_104 : decode cX9_hold 104 = .ok (.if_icmp .ne 7, 3) := by decide +kernel
theorem dX9_hold_107 : decode cX9_hold 107 = .ok (.iconst 1, 1) := by decide +kernel
theorem dX9_hold_108 : decode cX9_hold 108 = .ok (.goto 4, 3) := by decide +kernel
theorem dX9_hold_111 : decode cX9_hold 111 = .ok (.iconst 0, 1) := by decide +kernel
theorem dX9_hold_112 : decode cX9_hold 112 = .ok (.iadd, 1) := by decide +kernel
theorem dX9_hold_113 : decode cX9_hold 113 = .ok (.istore 4, 2) := by decide +kernel
theorem dX9_hold_115 : decode cX9_hold 115 = .ok (.iinc 5 1, 3) := by decide +kernel
theorem dX9_hold_118 : decode cX9_hold 118 = .ok (.goto (-103), 3) := by decide +kernel
theorem dX9_hold_121 : decode cX9_hold 121 = .ok (.iload 4, 2) := by decide +kernel
theorem dX9_hold_123 : decode cX9_hold 123 = .ok (.ireturn, 1) := by decide +kernel
def fX9_hold_L15 : Nat → Int32 → Int32 → Int32 → Int32 → Hp → Option ((Int32 × Int32) × Hp)
  | 0, _, _, _, _, _ => none
  | n + 1, a2, a3, a4, a5, h => br ((gI h 9 0 7) ≤ a5) (some ((a4, a5), h)) (br (((Int32.ofNat 60)) ≤ a5) (some ((a4, a5), h)) (bd (fX7_numberAt a2 a5 h) (fun r4 h5 => lb (fun (x7 : Int32) (x8 : Int32) (h9 : Hp) => gd (ib x7 60) (lb (sI h9 47 0 (ix x7) x8) (fun h11 => gd (ib a5 60) (br ((gI h11 47 0 (ix a5)) = (-1)) (lb (a4 + 1) (fun v15 => lb (a5 + 1) (fun v16 => fX9_hold_L15 n a2 a3 v15 v16 h11))) (lb (a4 + 0) (fun v13 => lb (a5 + 1) (fun v14 => fX9_hold_L15 n a2 a3 v13 v14 h11))))))) (fun j6 => br (0 ≤ r4.toInt32) (lb (fun (x18 : Int32) (x19 : Int32) (x20 : Int32) (h21 : Hp) => bd (fX9_seatHousehold x19 x20 h21) (fun r22 h23 => j6 x18 r22 h23)) (fun j17 => br (a3 ≤ a5) (j17 a5 r4.toInt32 0 h5) (j17 a5 r4.toInt32 1 h5))) (lb (fun (x25 : Int32) (x26 : Int32) (x27 : Int32) (h28 : Hp) => bd (fX9_seatStranger x26 x27 h28) (fun r29 h30 => j6 x25 r29 h30)) (fun j24 => br (a3 ≤ a5) (j24 a5 (-r4.toInt32) 0 h5) (j24 a5 (-r4.toInt32) 1 h5)))))))
def fX9_hold (a2 : Int32) (a3 : Int32) (h : Hp) : Option (Int32 × Hp) := bd (fX7_lengthOf a2 h) (fun r1 h2 => lb (sI h2 9 0 7 r1) (fun h3 => bd (fX9_hold_L15 FU a2 a3 0 0 h3) (fun t32 h31 => lb t32.1 (fun v33 => lb t32.2 (fun v34 => some (v33, h31))))))
set_option maxRecDepth 20000 in
theorem tX9_hold_L15 {X : Cz} {h0 : Hp} {r : Option AV} {hE : Hp} : ∀ (n : Nat) (a2 : Int32) (a3 : Int32) (a4 : Int32) (a5 : Int32) (h : Hp) (z : (Int32 × Int32) × Hp), fX9_hold_L15 n a2 a3 a4 a5 h = some z → V X mX9_hold true h0 121 [(0, zr 9 0), (1, zr 7 0), (2, zi a2), (3, zi a3), (4, zi z.1.1), (5, zi z.1.2)] [] z.2 r hE → V X mX9_hold true h0 15 [(0, zr 9 0), (1, zr 7 0), (2, zi a2), (3, zi a3), (4, zi a4), (5, zi a5)] [] h r hE := by
  intro n
  induction n with
  | zero => intro a2 a3 a4 a5 h z hF k; cases hF
  | succ n ih =>
    intro a2 a3 a4 a5 h z hF k
    rw [fX9_hold_L15] at hF
    refine v_iload (j := 5) dX9_hold_15 rfl ?_
    refine v_aload_n (j := 0) dX9_hold_17 rfl ?_
    refine v_getI (c := 9) rfl (Or.inl rfl) cz9 flX9_77 dX9_hold_18 ?_
    refine v_icmp_ge dX9_hold_21 (by decide : _ = ((121 : Nat) : Int)) (fun q => ?_) (fun q => ?_)
    · replace hF := brT q hF
      cases hF
      exact k
    · replace hF := brF q hF
      refine v_iload (j := 5) dX9_hold_24 rfl ?_
      refine v_aload_n (j := 0) dX9_hold_26 rfl ?_
      refine v_getL (c := 9) rfl rfl rfl ly9_8 cz9 flX9_18 dX9_hold_27 ?_
      refine v_alen rfl dX9_hold_30 ?_
      refine v_icmp_ge dX9_hold_31 (by decide : _ = ((121 : Nat) : Int)) (fun q => ?_) (fun q => ?_)
      · replace hF := brT q hF
        cases hF
        exact k
      · replace hF := brF q hF
        refine v_aload_n (j := 1) dX9_hold_34 rfl ?_
        refine v_iload_n (j := 2) dX9_hold_35 rfl ?_
        refine v_iload (j := 5) dX9_hold_36 rfl ?_
        replace hF := bd_use hF
        obtain ⟨r4, h5, er4, hF⟩ := hF
        refine v_cV (hm := h5) (av := [zi a2, zi a5]) (st := []) (stn := [zj r4]) (tX7_numberAt er4) lcX7_numberAt mlX9_40 imX7_numberAt seX7_numberAt rfl rfl rfl rfl ⟨by decide, by decide⟩ (Nat.le_of_ble_eq_true rfl) dX9_hold_38 rfl rfl ?_
        clear er4
        refine v_l2i dX9_hold_41 ?_
        refine v_istore (ls' := [(6, zi r4.toInt32), (0, zr 9 0), (1, zr 7 0), (2, zi a2), (3, zi a3), (4, zi a4), (5, zi a5)]) dX9_hold_42 (by decide) rfl ?_
        refine v_aload_n (j := 1) dX9_hold_44 rfl ?_
        refine v_getL (c := 9) rfl rfl rfl ly9_8 cz9 flX9_18 dX9_hold_45 ?_
        refine v_iload (j := 6) dX9_hold_48 rfl ?_
        refine v_iload (j := 0) dX9_hold_50 rfl ?_
        replace hF := lb_ex hF
        obtain ⟨j6, ej6, hF⟩ := hF
        have j6V : ∀ (x7 : Int32) (x8 : Int32) (h9 : Hp), j6 x7 x8 h9 = some z → V X mX9_hold true h0 93 [(0, zr 9 0), (1, zr 7 0), (2, zi a2), (3, zi a3), (4, zi a4), (5, zi a5)] [zi x8, zi x7, zr 47 0] h9 r hE := by
          intro x7 x8 h9 hF
          subst ej6
          replace hF := gd_use hF
          obtain ⟨q10, hF⟩ := hF
          refine v_iast rfl q10 dX9_hold_93 ?_
          refine v_toph fun h11 eh11 => ?_
          replace hF := lb_use eh11 hF
          clear eh11
          refine v_iload (j := 4) dX9_hold_94 rfl ?_
          refine v_aload_n (j := 0) dX9_hold_96 rfl ?_
          refine v_getL (c := 9) rfl rfl rfl ly9_8 cz9 flX9_18 dX9_hold_97 ?_
          refine v_iload (j := 5) dX9_hold_100 rfl ?_
          replace hF := gd_use hF
          obtain ⟨q12, hF⟩ := hF
          refine v_iald rfl q12 dX9_hold_102 ?_
          refine v_iconst (v := (-1)) dX9_hold_103 (by decide) ?_
          refine v_icmp_ne dX9_hold_104 (by decide : _ = ((111 : Nat) : Int)) (fun q => ?_) (fun q => ?_)
          · replace hF := brF q hF
            refine v_iconst (v := 0) dX9_hold_111 (by decide) ?_
            refine v_iadd dX9_hold_112 ?_
            refine v_topi fun v13 ev13 => ?_
            replace hF := lb_use ev13 hF
            clear ev13
            refine v_istore (ls' := [(4, zi v13), (0, zr 9 0), (1, zr 7 0), (2, zi a2), (3, zi a3), (5, zi a5)]) dX9_hold_113 (by decide) rfl ?_
            obtain ⟨v14, ev14⟩ : ∃ y : Int32, y = a5 + 1 := ⟨_, rfl⟩
            replace hF := lb_use ev14 hF
            refine v_iinc (j := 5) (v := v14) (ls' := [(5, zi v14), (4, zi v13), (0, zr 9 0), (1, zr 7 0), (2, zi a2), (3, zi a3)]) dX9_hold_115 rfl (by rw [ev14]; rfl) (by decide) rfl ?_
            clear ev14
            refine v_goto (tgt := 15) dX9_hold_118 (by decide) ?_
            refine v_sub [2, 3, 4, 5, 1, 0] rfl ?_
            exact ih a2 a3 v13 v14 h11 _ hF k
          · replace hF := brT (Decidable.not_not.mp q) hF
            refine v_iconst (v := 1) dX9_hold_107 (by decide) ?_
            refine v_goto (tgt := 112) dX9_hold_108 (by decide) ?_
            refine v_iadd dX9_hold_112 ?_
            refine v_topi fun v15 ev15 => ?_
            replace hF := lb_use ev15 hF
            clear ev15
            refine v_istore (ls' := [(4, zi v15), (0, zr 9 0), (1, zr 7 0), (2, zi a2), (3, zi a3), (5, zi a5)]) dX9_hold_113 (by decide) rfl ?_
            obtain ⟨v16, ev16⟩ : ∃ y : Int32, y = a5 + 1 := ⟨_, rfl⟩
            replace hF := lb_use ev16 hF
            refine v_iinc (j := 5) (v := v16) (ls' := [(5, zi v16), (4, zi v15), (0, zr 9 0), (1, zr 7 0), (2, zi a2), (3, zi a3)]) dX9_hold_115 rfl (by rw [ev16]; rfl) (by decide) rfl ?_
            clear ev16
            refine v_goto (tgt := 15) dX9_hold_118 (by decide) ?_
            refine v_sub [2, 3, 4, 5, 1, 0] rfl ?_
            exact ih a2 a3 v15 v16 h11 _ hF k
        clear ej6
        refine v_if_ge dX9_hold_52 (by decide : _ = ((76 : Nat) : Int)) (fun q => ?_) (fun q => ?_)
        · replace hF := brT q hF
          refine v_aload_n (j := 1) dX9_hold_76 rfl ?_
          refine v_iload (j := 0) dX9_hold_77 rfl ?_
          refine v_iload (j := 6) dX9_hold_79 rfl ?_
          refine v_iload_n (j := 4) dX9_hold_81 rfl ?_
          replace hF := lb_ex hF
          obtain ⟨j17, ej17, hF⟩ := hF
          have j17V : ∀ (x18 : Int32) (x19 : Int32) (x20 : Int32) (h21 : Hp), j17 x18 x19 x20 h21 = some z → V X mX9_hold true h0 90 [(0, zr 9 0), (1, zr 7 0), (2, zi a2), (3, zi a3), (4, zi a4), (5, zi a5)] [zi x20, zi x19, zr 9 0, zi x18, zr 47 0] h21 r hE := by
            intro x18 x19 x20 h21 hF
            subst ej17
            replace hF := bd_use hF
            obtain ⟨r22, h23, er22, hF⟩ := hF
            refine v_cV (hm := h23) (av := [zi x19, zi x20]) (st := [zi x18, zr 47 0]) (stn := [zi r22, zi x18, zr 47 0]) (tX9_seatHousehold er22) lcX9_seatHousehold mlX9_84 imX9_seatHousehold seX9_seatHousehold rfl rfl rfl rfl ⟨by decide, by decide⟩ (Nat.le_of_ble_eq_true rfl) dX9_hold_90 rfl rfl ?_
            clear er22
            exact j6V x18 r22 h23 hF
          clear ej17
          refine v_icmp_ge dX9_hold_82 (by decide : _ = ((89 : Nat) : Int)) (fun q => ?_) (fun q => ?_)
          · replace hF := brT q hF
            refine v_iconst (v := 0) dX9_hold_89 (by decide) ?_
            refine v_sub [1, 2, 3, 4, 5, 6] rfl ?_
            exact j17V a5 r4.toInt32 0 h5 hF
          · replace hF := brF q hF
            refine v_iconst (v := 1) dX9_hold_85 (by decide) ?_
            refine v_goto (tgt := 90) dX9_hold_86 (by decide) ?_
            refine v_sub [1, 2, 3, 4, 5, 6] rfl ?_
            exact j17V a5 r4.toInt32 1 h5 hF
        · replace hF := brF q hF
          refine v_aload_n (j := 1) dX9_hold_55 rfl ?_
          refine v_iload (j := 0) dX9_hold_56 rfl ?_
          refine v_ineg dX9_hold_58 ?_
          refine v_iload (j := 6) dX9_hold_59 rfl ?_
          refine v_iload_n (j := 4) dX9_hold_61 rfl ?_
          replace hF := lb_ex hF
          obtain ⟨j24, ej24, hF⟩ := hF
          have j24V : ∀ (x25 : Int32) (x26 : Int32) (x27 : Int32) (h28 : Hp), j24 x25 x26 x27 h28 = some z → V X mX9_hold true h0 70 [(0, zr 9 0), (1, zr 7 0), (2, zi a2), (3, zi a3), (4, zi a4), (5, zi a5)] [zi x27, zi x26, zr 9 0, zi x25, zr 47 0] h28 r hE := by
            intro x25 x26 x27 h28 hF
            subst ej24
            replace hF := bd_use hF
            obtain ⟨r29, h30, er29, hF⟩ := hF
            refine v_cV (hm := h30) (av := [zi x26, zi x27]) (st := [zi x25, zr 47 0]) (stn := [zi r29, zi x25, zr 47 0]) (tX9_seatStranger er29) lcX9_seatStranger mlX9_80 imX9_seatStranger seX9_seatStranger rfl rfl rfl rfl ⟨by decide, by decide⟩ (Nat.le_of_ble_eq_true rfl) dX9_hold_70 rfl rfl ?_
            clear er29
            refine v_goto (tgt := 93) dX9_hold_73 (by decide) ?_
            exact j6V x25 r29 h30 hF
          clear ej24
          refine v_icmp_ge dX9_hold_62 (by decide : _ = ((69 : Nat) : Int)) (fun q => ?_) (fun q => ?_)
          · replace hF := brT q hF
            refine v_iconst (v := 0) dX9_hold_69 (by decide) ?_
            refine v_sub [1, 2, 3, 4, 5, 6] rfl ?_
            exact j24V a5 (-r4.toInt32) 0 h5 hF
          · replace hF := brF q hF
            refine v_iconst (v := 1) dX9_hold_65 (by decide) ?_
            refine v_goto (tgt := 70) dX9_hold_66 (by decide) ?_
            refine v_sub [1, 2, 3, 4, 5, 6] rfl ?_
            exact j24V a5 (-r4.toInt32) 1 h5 hF
set_option maxRecDepth 20000 in
theorem tX9_hold {X : Cz} {a2 : Int32} {a3 : Int32} {h hE : Hp} {rE : Int32} (hF : fX9_hold a2 a3 h = some (rE, hE)) : Ct X mX9_hold true [zr 9 0, zr 7 0, zi a2, zi a3] h (some (zi rE)) hE := by
  refine Ct_of (by decide) (Nat.le_of_ble_eq_true rfl) (ls := [(0, zr 9 0), (1, zr 7 0), (2, zi a2), (3, zi a3)]) rfl ?_
  unfold fX9_hold at hF
  refine v_iconst (v := 0) dX9_hold_0 (by decide) ?_
  refine v_istore (ls' := [(4, zi 0), (0, zr 9 0), (1, zr 7 0), (2, zi a2), (3, zi a3)]) dX9_hold_1 (by decide) rfl ?_
  refine v_aload_n (j := 1) dX9_hold_3 rfl ?_
  refine v_aload_n (j := 2) dX9_hold_4 rfl ?_
  refine v_iload_n (j := 3) dX9_hold_5 rfl ?_
  replace hF := bd_use hF
  obtain ⟨r1, h2, er1, hF⟩ := hF
  refine v_cV (hm := h2) (av := [zi a2]) (st := [zr 9 0]) (stn := [zi r1, zr 9 0]) (tX7_lengthOf er1) lcX7_lengthOf mlX9_34 imX7_lengthOf seX7_lengthOf rfl rfl rfl rfl ⟨by decide, by decide⟩ (Nat.le_of_ble_eq_true rfl) dX9_hold_6 rfl rfl ?_
  clear er1
  refine v_putI (c := 9) rfl rfl (Nat.le_of_ble_eq_true rfl) cz9 flX9_77 dX9_hold_9 ?_
  refine v_toph fun h3 eh3 => ?_
  replace hF := lb_use eh3 hF
  clear eh3
  refine v_iconst (v := 0) dX9_hold_12 (by decide) ?_
  refine v_istore (ls' := [(5, zi 0), (4, zi 0), (0, zr 9 0), (1, zr 7 0), (2, zi a2), (3, zi a3)]) dX9_hold_13 (by decide) rfl ?_
  refine v_sub [2, 3, 4, 5, 1, 0] rfl ?_
  replace hF := bd_use hF
  obtain ⟨t32, h31, et32, hF⟩ := hF
  refine tX9_hold_L15 _ a2 a3 0 0 h3 _ et32 ?_
  clear et32
  obtain ⟨v33, v34⟩ := t32
  replace hF := lb_use (x := v33) rfl hF
  replace hF := lb_use (x := v34) rfl hF
  refine v_iload (j := 4) dX9_hold_121 rfl ?_
  obtain ⟨rfl, rfl⟩ := ret_use hF
  exact v_iret rfl dX9_hold_123
