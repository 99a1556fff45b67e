/-! functions and ties, printed by program (wip/gen/dec.py) -/
theorem dX11_householdOf_0 : decode cX11_householdOf 0 = .ok (.aload_n 0, 1) := by decide +kernel
theorem dX11_householdOf_1 : decode cX11_householdOf 1 = .ok (.getfield 19, 3) := by decide +kernel
theorem dX11_householdOf_4 : decode cX11_householdOf 4 = .ok (.iload_n 1, 1) := by decide +kernel
theorem dX11_householdOf_5 : decode cX11_householdOf 5 = .ok (.invokevirtual 124, 3) := by decide +kernel
theorem dX11_householdOf_8 : decode cX11_householdOf 8 = .ok (.astore_n 3, 1) := by decide +kernel
theorem dX11_householdOf_9 : decode cX11_householdOf 9 = .ok (.aload_n 3, 1) := by decide +kernel
theorem dX11_householdOf_10 : decode cX11_householdOf 10 = .ok (.ifnonnull 6, 3) := by decide +kernel
theorem dX11_householdOf_13 : decode cX11_householdOf 13 = .ok (.bipush (-2), 2) := by decide +kernel
theorem dX11_householdOf_15 : decode cX11_householdOf 15 = .ok (.ireturn, 1) := by decide +kernel
theorem dX11_householdOf_16 : decode cX11_householdOf 16 = .ok (.iload_n 2, 1) := by decide +kernel
theorem dX11_householdOf_17 : decode cX11_householdOf 17 = .ok (.tableswitch 85 0 5 #[39, 44, 49, 54, 67, 72], 39) := by decide +kernel
theorem dX11_householdOf_56 : decode cX11_householdOf 56 = .ok (.aload_n 3, 1) := by decide +kernel
theorem dX11_householdOf_57 : decode cX11_householdOf 57 = .ok (.getfield 134, 3) := by decide +kernel
theorem dX11_householdOf_60 : decode cX11_householdOf 60 = .ok (.ireturn, 1) := by decide +kernel
theorem dX11_householdOf_61 : decode cX11_householdOf 61 = .ok (.aload_n 3, 1) := by decide +kernel
theorem dX11_householdOf_62 : decode cX11_householdOf 62 = .ok (.getfield 137, 3) := by decide +kernel
theorem dX11_householdOf_65 : decode cX11_householdOf 65 = .ok (.ireturn, 1) := by decide +kernel
theorem dX11_householdOf_66 : decode cX11_householdOf 66 = .ok (.aload_n 3, 1) := by decide +kernel
theorem dX11_householdOf_67 : decode cX11_householdOf 67 = .ok (.getfield 140, 3) := by decide +kernel
theorem dX11_householdOf_70 : decode cX11_householdOf 70 = .ok (.ireturn, 1) := by decide +kernel
theorem dX11_householdOf_71 : decode cX11_householdOf 71 = .ok (.aload_n 3, 1) := by decide +kernel
theorem dX11_householdOf_72 : decode cX11_householdOf 72 = .ok (.getfield 128, 3) := by decide +kernel
theorem dX11_householdOf_75 : decode cX11_householdOf 75 = .ok (.ifCond .eq 7, 3) := by decide +kernel
theorem dX11_householdOf_78 : decode cX11_householdOf 78 = .ok (.iconst 1, 1) := by decide +kernel
theorem dX11_householdOf_79 : decode cX11_householdOf 79 = .ok (.goto 4, 3) := by decide +kernel
theorem dX11_householdOf_82 : decode cX11_householdOf 82 = .ok (.iconst 0, 1) := by decide +kernel
theorem dX11_householdOf_83 : decode cX11_householdOf 83 = .ok (.ireturn, 1) := by decide +kernel
theorem dX11_householdOf_84 : decode cX11_householdOf 84 = .ok (.aload_n 3, 1) := by decide +kernel
theorem dX11_householdOf_85 : decode cX11_householdOf 85 = .ok (.getfield 394, 3) := by decide +kernel
theorem dX11_householdOf_88 : decode cX11_householdOf 88 = .ok (.ireturn, 1) := by decide +kernel
theorem dX11_householdOf_89 : decode cX11_householdOf 89 = .ok (.aload_n 0, 1) := by decide +kernel
theorem dX11_householdOf_90 : decode cX11_householdOf 90 = .ok (.getfield 26, 3) := by decide +kernel
theorem dX11_householdOf_93 : decode cX11_householdOf 93 = .ok (.iload_n 1, 1) := by decide +kernel
theorem dX11_householdOf_94 : decode cX11_householdOf 94 = .ok (.aload_n 0, 1) := by decide +kernel
theorem dX11_householdOf_95 : decode cX11_householdOf 95 = .ok (.getfield 111, 3) := by decide +kernel
theorem dX11_householdOf_98 : decode cX11_householdOf 98 = .ok (.invokevirtual 397, 3) := by decide +kernel
theorem dX11_householdOf_101 : decode cX11_householdOf 101 = .ok (.ireturn, 1) := by decide +kernel
theorem dX11_householdOf_102 : decode cX11_householdOf 102 = .ok (.bipush (-2), 2) := by decide +kernel
theorem dX11_householdOf_104 : decode cX11_householdOf 104 = .ok (.ireturn, 1) := by decide +kernel
def fX11_householdOf (a1 : Int32) (a2 : Int32) (h : Hp) : Option (Int32 × Hp) := bd (fX4_find a1 h) (fun r1 h2 => mt r1 (some ((-2), h2)) (fun z3 => br (a2 = 0) (some (gI h2 2 z3 0, h2)) (br (a2 = 1) (some (gI h2 2 z3 1, h2)) (br (a2 = 2) (some (gI h2 2 z3 2, h2)) (br (a2 = 3) (br ((gI h2 2 z3 3) = 0) (some (0, h2)) (some (1, h2))) (br (a2 = 4) (some (gI h2 2 z3 4, h2)) (br (a2 = 5) (bd (fX3_heldBy a1 (gI h2 11 0 11) h2) (fun r4 h5 => some (r4, h5))) (some ((-2), h2)))))))))
set_option maxRecDepth 20000 in
theorem tX11_householdOf {X : Cz} {a1 : Int32} {a2 : Int32} {h hE : Hp} {rE : Int32} (hF : fX11_householdOf a1 a2 h = some (rE, hE)) : Ct X mX11_householdOf true [zr 11 0, zi a1, zi a2] h (some (zi rE)) hE := by
  refine Ct_of (by decide) (Nat.le_of_ble_eq_true rfl) (ls := [(0, zr 11 0), (1, zi a1), (2, zi a2)]) rfl ?_
  unfold fX11_householdOf at hF
  refine v_aload_n (j := 0) dX11_householdOf_0 rfl ?_
  refine v_getL (c := 11) rfl rfl rfl ly11_1 cz11 flX11_19 dX11_householdOf_1 ?_
  refine v_iload_n (j := 1) dX11_householdOf_4 rfl ?_
  replace hF := bd_use hF
  obtain ⟨r1, h2, er1, hF⟩ := hF
  refine v_cV (hm := h2) (av := [zi a1]) (st := []) (stn := [zq 2 r1]) (tX4_find er1) lcX4_find mlX11_124 imX4_find seX4_find rfl rfl rfl rfl ⟨by decide, by decide⟩ (Nat.le_of_ble_eq_true rfl) dX11_householdOf_5 rfl rfl ?_
  clear er1
  refine v_astore_n (ls' := [(3, zq 2 r1), (0, zr 11 0), (1, zi a1), (2, zi a2)]) dX11_householdOf_8 (by decide) rfl ?_
  refine v_aload_n (j := 0) dX11_householdOf_9 rfl ?_
  cases r1 with
  | none =>
    replace hF := mtN hF
    refine v_ifnonnullN (tgt := 16) dX11_householdOf_10 (by decide) ?_
    refine v_bipush (v := (-2)) dX11_householdOf_13 (by decide) ?_
    obtain ⟨rfl, rfl⟩ := ret_use hF
    exact v_iret rfl dX11_householdOf_15
  | some z3 =>
    replace hF := mtS hF
    refine v_ifnonnullS (q := (2, z3)) (tgt := 16) dX11_householdOf_10 (by decide) ?_
    refine v_iload_n (j := 3) dX11_householdOf_16 rfl ?_
    by_cases q0 : a2 = 0
    · replace hF := brT q0 hF
      subst q0
      refine v_tblIn (tgt := 56) dX11_householdOf_17 (by decide) (by decide) rfl (by decide) ?_
      refine v_aload_n (j := 0) dX11_householdOf_56 rfl ?_
      refine v_getI (c := 2) rfl (Or.inl rfl) cz2 flX11_134 dX11_householdOf_57 ?_
      obtain ⟨rfl, rfl⟩ := ret_use hF
      exact v_iret rfl dX11_householdOf_60
    replace hF := brF q0 hF
    by_cases q1 : a2 = 1
    · replace hF := brT q1 hF
      subst q1
      refine v_tblIn (tgt := 61) dX11_householdOf_17 (by decide) (by decide) rfl (by decide) ?_
      refine v_aload_n (j := 0) dX11_householdOf_61 rfl ?_
      refine v_getI (c := 2) rfl (Or.inl rfl) cz2 flX11_137 dX11_householdOf_62 ?_
      obtain ⟨rfl, rfl⟩ := ret_use hF
      exact v_iret rfl dX11_householdOf_65
    replace hF := brF q1 hF
    by_cases q2 : a2 = 2
    · replace hF := brT q2 hF
      subst q2
      refine v_tblIn (tgt := 66) dX11_householdOf_17 (by decide) (by decide) rfl (by decide) ?_
      refine v_aload_n (j := 0) dX11_householdOf_66 rfl ?_
      refine v_getI (c := 2) rfl (Or.inl rfl) cz2 flX11_140 dX11_householdOf_67 ?_
      obtain ⟨rfl, rfl⟩ := ret_use hF
      exact v_iret rfl dX11_householdOf_70
    replace hF := brF q2 hF
    by_cases q3 : a2 = 3
    · replace hF := brT q3 hF
      subst q3
      refine v_tblIn (tgt := 71) dX11_householdOf_17 (by decide) (by decide) rfl (by decide) ?_
      refine v_aload_n (j := 0) dX11_householdOf_71 rfl ?_
      refine v_getI (c := 2) rfl (Or.inr rfl) cz2 flX11_128 dX11_householdOf_72 ?_
      refine v_if_eq dX11_householdOf_75 (by decide : _ = ((82 : Nat) : Int)) (fun q => ?_) (fun q => ?_)
      · replace hF := brT q hF
        refine v_iconst (v := 0) dX11_householdOf_82 (by decide) ?_
        obtain ⟨rfl, rfl⟩ := ret_use hF
        exact v_iret rfl dX11_householdOf_83
      · replace hF := brF q hF
        refine v_iconst (v := 1) dX11_householdOf_78 (by decide) ?_
        refine v_goto (tgt := 83) dX11_householdOf_79 (by decide) ?_
        obtain ⟨rfl, rfl⟩ := ret_use hF
        exact v_iret rfl dX11_householdOf_83
    replace hF := brF q3 hF
    by_cases q4 : a2 = 4
    · replace hF := brT q4 hF
      subst q4
      refine v_tblIn (tgt := 84) dX11_householdOf_17 (by decide) (by decide) rfl (by decide) ?_
      refine v_aload_n (j := 0) dX11_householdOf_84 rfl ?_
      refine v_getI (c := 2) rfl (Or.inl rfl) cz2 flX11_394 dX11_householdOf_85 ?_
      obtain ⟨rfl, rfl⟩ := ret_use hF
      exact v_iret rfl dX11_householdOf_88
    replace hF := brF q4 hF
    by_cases q5 : a2 = 5
    · replace hF := brT q5 hF
      subst q5
      refine v_tblIn (tgt := 89) dX11_householdOf_17 (by decide) (by decide) rfl (by decide) ?_
      refine v_aload_n (j := 1) dX11_householdOf_89 rfl ?_
      refine v_getL (c := 11) rfl rfl rfl ly11_2 cz11 flX11_26 dX11_householdOf_90 ?_
      refine v_iload_n (j := 2) dX11_householdOf_93 rfl ?_
      refine v_aload_n (j := 1) dX11_householdOf_94 rfl ?_
      refine v_getI (c := 11) rfl (Or.inl rfl) cz11 flX11_111 dX11_householdOf_95 ?_
      replace hF := bd_use hF
      obtain ⟨r4, h5, er4, hF⟩ := hF
      refine v_cV (hm := h5) (av := [zi a1, zi (gI h2 11 0 11)]) (st := []) (stn := [zi r4]) (tX3_heldBy er4) lcX3_heldBy mlX11_397 imX3_heldBy seX3_heldBy rfl rfl rfl rfl ⟨by decide, by decide⟩ (Nat.le_of_ble_eq_true rfl) dX11_householdOf_98 rfl rfl ?_
      clear er4
      obtain ⟨rfl, rfl⟩ := ret_use hF
      exact v_iret rfl dX11_householdOf_101
    replace hF := brF q5 hF
    have nq0 := lv_neT (a := 0) q0 rfl
    have nq1 := lv_neT (a := 1) q1 rfl
    have nq2 := lv_neT (a := 2) q2 rfl
    have nq3 := lv_neT (a := 3) q3 rfl
    have nq4 := lv_neT (a := 4) q4 rfl
    have nq5 := lv_neT (a := 5) q5 rfl
    refine v_tblOut (tgt := 102) dX11_householdOf_17 (by omega) (by decide) ?_
    refine v_bipush (v := (-2)) dX11_householdOf_102 (by decide) ?_
    obtain ⟨rfl, rfl⟩ := ret_use hF
    exact v_iret rfl dX11_householdOf_104
theorem dX11_ownedUnits_0 : decode cX11_ownedUnits 0 = .ok (.aload_n 0, 1) := by decide +kernel
theorem dX11_ownedUnits_1 : decode cX11_ownedUnits 1 = .ok (.getfield 26, 3) := by decide +kernel
theorem dX11_ownedUnits_4 : decode cX11_ownedUnits 4 = .ok (.aload_n 0, 1) := by decide +kernel
theorem dX11_ownedUnits_5 : decode cX11_ownedUnits 5 = .ok (.getfield 111, 3) := by decide +kernel
theorem dX11_ownedUnits_8 : decode cX11_ownedUnits 8 = .ok (.aload_n 0, 1) := by decide +kernel
theorem dX11_ownedUnits_9 : decode cX11_ownedUnits 9 = .ok (.getfield 80, 3) := by decide +kernel
theorem dX11_ownedUnits_12 : decode cX11_ownedUnits 12 = .ok (.invokevirtual 322, 3) := by decide +kernel
theorem dX11_ownedUnits_15 : decode cX11_ownedUnits 15 = .ok (.iconst 0, 1) := by decide +kernel
theorem dX11_ownedUnits_16 : decode cX11_ownedUnits 16 = .ok (.istore_n 2, 1) := by decide +kernel
theorem dX11_ownedUnits_17 : decode cX11_ownedUnits 17 = .ok (.iconst 0, 1) := by decide +kernel
theorem dX11_ownedUnits_18 : decode cX11_ownedUnits 18 = .ok (.istore_n 3, 1) := by decide +kernel
theorem dX11_ownedUnits_19 : decode cX11_ownedUnits 19 = .ok (.iload_n 3, 1) := by decide +kernel
theorem dX11_ownedUnits_20 : decode cX11_ownedUnits 20 = .ok (.aload_n 0, 1) := by decide +kernel
theorem dX11_ownedUnits_21 : decode cX11_ownedUnits 21 = .ok (.getfield 10, 3) := by decide +kernel
theorem dX11_ownedUnits_24 : decode cX11_ownedUnits 24 = .ok (.getfield 406, 3) := by decide +kernel
theorem dX11_ownedUnits_27 : decode cX11_ownedUnits 27 = .ok (.iload_n 1, 1) := by decide +kernel
theorem dX11_ownedUnits_28 : decode cX11_ownedUnits 28 = .ok (.iaload, 1) := by decide +kernel
theorem dX11_ownedUnits_29 : decode cX11_ownedUnits 29 = .ok (.if_icmp .ge 27, 3) := by decide +kernel
theorem dX11_ownedUnits_32 : decode cX11_ownedUnits 32 = .ok (.aload_n 0, 1) := by decide +kernel
theorem dX11_ownedUnits_33 : decode cX11_ownedUnits 33 = .ok (.getfield 80, 3) := by decide +kernel
theorem dX11_ownedUnits_36 : decode cX11_ownedUnits 36 = .ok (.iload_n 1, 1) := by decide +kernel
theorem dX11_ownedUnits_37 : decode cX11_ownedUnits 37 = .ok (.bipush 32, 2) := by decide +kernel
theorem dX11_ownedUnits_39 : decode cX11_ownedUnits 39 = .ok (.imul, 1) := by decide +kernel
theorem dX11_ownedUnits_40 : decode cX11_ownedUnits 40 = .ok (.iload_n 3, 1) := by decide +kernel
theorem dX11_ownedUnits_41 : decode cX11_ownedUnits 41 = .ok (.iadd, 1) := by decide +kernel
theorem dX11_ownedUnits_42 : decode cX11_ownedUnits 42 = .ok (.iaload, 1) := by decide +kernel
theorem dX11_ownedUnits_43 : decode cX11_ownedUnits 43 = .ok (.iconst (-1), 1) := by decide +kernel
theorem dX11_ownedUnits_44 : decode cX11_ownedUnits 44 = .ok (.if_icmp .eq 6, 3) := by decide +kernel
theorem dX11_ownedUnits_47 : decode cX11_ownedUnits 47 = .ok (.iinc 2 1, 3) := by decide +kernel
theorem dX11_ownedUnits_50 : decode cX11_ownedUnits 50 = .ok (.iinc 3 1, 3) := by decide +kernel
theorem dX11_ownedUnits_53 : decode cX11_ownedUnits 53 = .ok (.goto (-34), 3) := by decide +kernel
theorem dX11_ownedUnits_56 : decode cX11_ownedUnits 56 = .ok (.iload_n 2, 1) := by decide +kernel
theorem dX11_ownedUnits_57 : decode cX11_ownedUnits 57 = .ok (.ireturn, 1) := by decide +kernel
def fX11_ownedUnits_L19 : Nat → Int32 → Int32 → Int32 → Hp → Option ((Int32 × Int32) × Hp)
  | 0, _, _, _, _ => none
  | n + 1, a1, a2, a3, h => gd (ib a1 8) (br ((gI h 28 0 (ix a1)) ≤ a3) (some ((a2, a3), h)) (gd (ib ((a1 * 32) + a3) 256) (br ((gI h 53 0 (ix ((a1 * 32) + a3))) = (-1)) (lb (a3 + 1) (fun v5 => fX11_ownedUnits_L19 n a1 a2 v5 h)) (lb (a2 + 1) (fun v6 => lb (a3 + 1) (fun v7 => fX11_ownedUnits_L19 n a1 v6 v7 h))))))
def fX11_ownedUnits (a1 : Int32) (h : Hp) : Option (Int32 × Hp) := bd (fX3_fillOwners (gI h 11 0 11) h) (fun r1 h2 => bd (fX11_ownedUnits_L19 FU a1 0 0 h2) (fun t9 h8 => lb t9.1 (fun v10 => lb t9.2 (fun v11 => some (v10, h8)))))
set_option maxRecDepth 20000 in
theorem tX11_ownedUnits_L19 {X : Cz} {h0 : Hp} {r : Option AV} {hE : Hp} : ∀ (n : Nat) (a1 : Int32) (a2 : Int32) (a3 : Int32) (h : Hp) (z : (Int32 × Int32) × Hp), fX11_ownedUnits_L19 n a1 a2 a3 h = some z → V X mX11_ownedUnits true h0 56 [(0, zr 11 0), (1, zi a1), (2, zi z.1.1), (3, zi z.1.2)] [] z.2 r hE → V X mX11_ownedUnits true h0 19 [(0, zr 11 0), (1, zi a1), (2, zi a2), (3, zi a3)] [] h r hE := by
  intro n
  induction n with
  | zero => intro a1 a2 a3 h z hF k; cases hF
  | succ n ih =>
    intro a1 a2 a3 h z hF k
    rw [fX11_ownedUnits_L19] at hF
    refine v_iload_n (j := 3) dX11_ownedUnits_19 rfl ?_
    refine v_aload_n (j := 0) dX11_ownedUnits_20 rfl ?_
    refine v_getL (c := 11) rfl rfl rfl ly11_0 cz11 flX11_10 dX11_ownedUnits_21 ?_
    refine v_getL (c := 1) rfl rfl rfl ly1_10 cz1 flX11_406 dX11_ownedUnits_24 ?_
    refine v_iload_n (j := 1) dX11_ownedUnits_27 rfl ?_
    replace hF := gd_use hF
    obtain ⟨q3, hF⟩ := hF
    refine v_iald rfl q3 dX11_ownedUnits_28 ?_
    refine v_icmp_ge dX11_ownedUnits_29 (by decide : _ = ((56 : Nat) : Int)) (fun q => ?_) (fun q => ?_)
    · replace hF := brT q hF
      cases hF
      exact k
    · replace hF := brF q hF
      refine v_aload_n (j := 0) dX11_ownedUnits_32 rfl ?_
      refine v_getL (c := 11) rfl rfl rfl ly11_10 cz11 flX11_80 dX11_ownedUnits_33 ?_
      refine v_iload_n (j := 1) dX11_ownedUnits_36 rfl ?_
      refine v_bipush (v := 32) dX11_ownedUnits_37 (by decide) ?_
      refine v_imul dX11_ownedUnits_39 ?_
      refine v_iload_n (j := 3) dX11_ownedUnits_40 rfl ?_
      refine v_iadd dX11_ownedUnits_41 ?_
      replace hF := gd_use hF
      obtain ⟨q4, hF⟩ := hF
      refine v_iald rfl q4 dX11_ownedUnits_42 ?_
      refine v_iconst (v := (-1)) dX11_ownedUnits_43 (by decide) ?_
      refine v_icmp_eq dX11_ownedUnits_44 (by decide : _ = ((50 : Nat) : Int)) (fun q => ?_) (fun q => ?_)
      · replace hF := brT q hF
        obtain ⟨v5, ev5⟩ : ∃ y : Int32, y = a3 + 1 := ⟨_, rfl⟩
        replace hF := lb_use ev5 hF
        refine v_iinc (j := 3) (v := v5) (ls' := [(3, zi v5), (0, zr 11 0), (1, zi a1), (2, zi a2)]) dX11_ownedUnits_50 rfl (by rw [ev5]; rfl) (by decide) rfl ?_
        clear ev5
        refine v_goto (tgt := 19) dX11_ownedUnits_53 (by decide) ?_
        refine v_sub [1, 2, 3, 0] rfl ?_
        exact ih a1 a2 v5 h _ hF k
      · replace hF := brF q hF
        obtain ⟨v6, ev6⟩ : ∃ y : Int32, y = a2 + 1 := ⟨_, rfl⟩
        replace hF := lb_use ev6 hF
        refine v_iinc (j := 2) (v := v6) (ls' := [(2, zi v6), (0, zr 11 0), (1, zi a1), (3, zi a3)]) dX11_ownedUnits_47 rfl (by rw [ev6]; rfl) (by decide) rfl ?_
        clear ev6
        obtain ⟨v7, ev7⟩ : ∃ y : Int32, y = a3 + 1 := ⟨_, rfl⟩
        replace hF := lb_use ev7 hF
        refine v_iinc (j := 3) (v := v7) (ls' := [(3, zi v7), (2, zi v6), (0, zr 11 0), (1, zi a1)]) dX11_ownedUnits_50 rfl (by rw [ev7]; rfl) (by decide) rfl ?_
        clear ev7
        refine v_goto (tgt := 19) dX11_ownedUnits_53 (by decide) ?_
        refine v_sub [2, 3, 1, 0] rfl ?_
        exact ih a1 v6 v7 h _ hF k
set_option maxRecDepth 20000 in
theorem tX11_ownedUnits {X : Cz} {a1 : Int32} {h hE : Hp} {rE : Int32} (hF : fX11_ownedUnits a1 h = some (rE, hE)) : Ct X mX11_ownedUnits true [zr 11 0, zi a1] h (some (zi rE)) hE := by
  refine Ct_of (by decide) (Nat.le_of_ble_eq_true rfl) (ls := [(0, zr 11 0), (1, zi a1)]) rfl ?_
  unfold fX11_ownedUnits at hF
  refine v_aload_n (j := 0) dX11_ownedUnits_0 rfl ?_
  refine v_getL (c := 11) rfl rfl rfl ly11_2 cz11 flX11_26 dX11_ownedUnits_1 ?_
  refine v_aload_n (j := 0) dX11_ownedUnits_4 rfl ?_
  refine v_getI (c := 11) rfl (Or.inl rfl) cz11 flX11_111 dX11_ownedUnits_5 ?_
  refine v_aload_n (j := 0) dX11_ownedUnits_8 rfl ?_
  refine v_getL (c := 11) rfl rfl rfl ly11_10 cz11 flX11_80 dX11_ownedUnits_9 ?_
  replace hF := bd_use hF
  obtain ⟨r1, h2, er1, hF⟩ := hF
  refine v_cV (hm := h2) (av := [zi (gI h 11 0 11), zr 53 0]) (st := []) (stn := []) (tX3_fillOwners er1) lcX3_fillOwners mlX11_322 imX3_fillOwners seX3_fillOwners rfl rfl rfl rfl ⟨by decide, by decide⟩ (Nat.le_of_ble_eq_true rfl) dX11_ownedUnits_12 rfl rfl ?_
  clear er1
  refine v_iconst (v := 0) dX11_ownedUnits_15 (by decide) ?_
  refine v_istore_n (ls' := [(2, zi 0), (0, zr 11 0), (1, zi a1)]) dX11_ownedUnits_16 (by decide) rfl ?_
  refine v_iconst (v := 0) dX11_ownedUnits_17 (by decide) ?_
  refine v_istore_n (ls' := [(3, zi 0), (2, zi 0), (0, zr 11 0), (1, zi a1)]) dX11_ownedUnits_18 (by decide) rfl ?_
  refine v_sub [2, 3, 1, 0] rfl ?_
  replace hF := bd_use hF
  obtain ⟨t9, h8, et9, hF⟩ := hF
  refine tX11_ownedUnits_L19 _ a1 0 0 h2 _ et9 ?_
  clear et9
  obtain ⟨v10, v11⟩ := t9
  replace hF := lb_use (x := v10) rfl hF
  replace hF := lb_use (x := v11) rfl hF
  refine v_iload_n (j := 2) dX11_ownedUnits_56 rfl ?_
  obtain ⟨rfl, rfl⟩ := ret_use hF
  exact v_iret rfl dX11_ownedUnits_57
theorem dX11_benchOf_0 : decode cX11_benchOf 0 = .ok (.iload_n 1, 1) := by decide +kernel
theorem dX11_benchOf_1 : decode cX11_benchOf 1 = .ok (.ifCond .lt 14, 3) := by decide +kernel
theorem dX11_benchOf_4 : decode cX11_benchOf 4 = .ok (.iload_n 1, 1) := by decide +kernel
theorem dX11_benchOf_5 : decode cX11_benchOf 5 = .ok (.aload_n 0, 1) := by decide +kernel
theorem dX11_benchOf_6 : decode cX11_benchOf 6 = .ok (.getfield 10, 3) := by decide +kernel
theorem dX11_benchOf_9 : decode cX11_benchOf 9 = .ok (.getfield 108, 3) := by decide +kernel
theorem dX11_benchOf_12 : decode cX11_benchOf 12 = .ok (.if_icmp .lt 6, 3) := by decide +kernel
theorem dX11_benchOf_15 : decode cX11_benchOf 15 = .ok (.bipush (-2), 2) := by decide +kernel
theorem dX11_benchOf_17 : decode cX11_benchOf 17 = .ok (.ireturn, 1) := by decide +kernel
theorem dX11_benchOf_18 : decode cX11_benchOf 18 = .ok (.iload_n 2, 1) := by decide +kernel
theorem dX11_benchOf_19 : decode cX11_benchOf 19 = .ok (.tableswitch 107 0 5 #[37, 47, 57, 67, 85, 91], 37) := by decide +kernel
theorem dX11_benchOf_56 : decode cX11_benchOf 56 = .ok (.aload_n 0, 1) := by decide +kernel
theorem dX11_benchOf_57 : decode cX11_benchOf 57 = .ok (.getfield 10, 3) := by decide +kernel
theorem dX11_benchOf_60 : decode cX11_benchOf 60 = .ok (.getfield 400, 3) := by decide +kernel
theorem dX11_benchOf_63 : decode cX11_benchOf 63 = .ok (.iload_n 1, 1) := by decide +kernel
theorem dX11_benchOf_64 : decode cX11_benchOf 64 = .ok (.iaload, 1) := by decide +kernel
theorem dX11_benchOf_65 : decode cX11_benchOf 65 = .ok (.ireturn, 1) := by decide +kernel
theorem dX11_benchOf_66 : decode cX11_benchOf 66 = .ok (.aload_n 0, 1) := by decide +kernel
theorem dX11_benchOf_67 : decode cX11_benchOf 67 = .ok (.getfield 10, 3) := by decide +kernel
theorem dX11_benchOf_70 : decode cX11_benchOf 70 = .ok (.getfield 403, 3) := by decide +kernel
theorem dX11_benchOf_73 : decode cX11_benchOf 73 = .ok (.iload_n 1, 1) := by decide +kernel
theorem dX11_benchOf_74 : decode cX11_benchOf 74 = .ok (.iaload, 1) := by decide +kernel
theorem dX11_benchOf_75 : decode cX11_benchOf 75 = .ok (.ireturn, 1) := by decide +kernel
theorem dX11_benchOf_76 : decode cX11_benchOf 76 = .ok (.aload_n 0, 1) := by decide +kernel
theorem dX11_benchOf_77 : decode cX11_benchOf 77 = .ok (.getfield 10, 3) := by decide +kernel
theorem dX11_benchOf_80 : decode cX11_benchOf 80 = .ok (.getfield 406, 3) := by decide +kernel
theorem dX11_benchOf_83 : decode cX11_benchOf 83 = .ok (.iload_n 1, 1) := by decide +kernel
theorem dX11_benchOf_84 : decode cX11_benchOf 84 = .ok (.iaload, 1) := by decide +kernel
theorem dX11_benchOf_85 : decode cX11_benchOf 85 = .ok (.ireturn, 1) := by decide +kernel
theorem dX11_benchOf_86 : decode cX11_benchOf 86 = .ok (.aload_n 0, 1) := by decide +kernel
theorem dX11_benchOf_87 : decode cX11_benchOf 87 = .ok (.getfield 10, 3) := by decide +kernel
theorem dX11_benchOf_90 : decode cX11_benchOf 90 = .ok (.getfield 409, 3) := by decide +kernel
theorem dX11_benchOf_93 : decode cX11_benchOf 93 = .ok (.iload_n 1, 1) := by decide +kernel
theorem dX11_benchOf_94 : decode cX11_benchOf 94 = .ok (.baload, 1) := by decide +kernel
theorem dX11_benchOf_95 : decode cX11_benchOf 95 = .ok (.ifCond .eq 7, 3) := by decide +kernel
theorem dX11_benchOf_98 : decode cX11_benchOf 98 = .ok (.iconst 1, 1) := by decide +kernel
theorem dX11_benchOf_99 : decode cX11_benchOf 99 = .ok (.goto 4, 3) := by decide +kernel
theorem dX11_benchOf_102 : decode cX11_benchOf 102 = .ok (.iconst 0, 1) := by decide +kernel
theorem dX11_benchOf_103 : decode cX11_benchOf 103 = .ok (.ireturn, 1) := by decide +kernel
theorem dX11_benchOf_104 : decode cX11_benchOf 104 = .ok (.aload_n 0, 1) := by decide +kernel
theorem dX11_benchOf_105 : decode cX11_benchOf 105 = .ok (.iload_n 1, 1) := by decide +kernel
theorem dX11_benchOf_106 : decode cX11_benchOf 106 = .ok (.invokevirtual 412, 3) := by decide +kernel
theorem dX11_benchOf_109 : decode cX11_benchOf 109 = .ok (.ireturn, 1) := by decide +kernel
theorem dX11_benchOf_110 : decode cX11_benchOf 110 = .ok (.aload_n 0, 1) := by decide +kernel
theorem dX11_benchOf_111 : decode cX11_benchOf 111 = .ok (.getfield 10, 3) := by decide +kernel
theorem dX11_benchOf_114 : decode cX11_benchOf 114 = .ok (.getfield 406, 3) := by decide +kernel
theorem dX11_benchOf_117 : decode cX11_benchOf 117 = .ok (.iload_n 1, 1) := by decide +kernel
theorem dX11_benchOf_118 : decode cX11_benchOf 118 = .ok (.iaload, 1) := by decide +kernel
theorem dX11_benchOf_119 : decode cX11_benchOf 119 = .ok (.aload_n 0, 1) := by decide +kernel
theorem dX11_benchOf_120 : decode cX11_benchOf 120 = .ok (.iload_n 1, 1) := by decide +kernel
theorem dX11_benchOf_121 : decode cX11_benchOf 121 = .ok (.invokevirtual 412, 3) := by decide +kernel
theorem dX11_benchOf_124 : decode cX11_benchOf 124 = .ok (.isub, 1) := by decide +kernel
theorem dX11_benchOf_125 : decode cX11_benchOf 125 = .ok (.ireturn, 1) := by decide +kernel
theorem dX11_benchOf_126 : decode cX11_benchOf 126 = .ok (.bipush (-2), 2) := by decide +kernel
theorem dX11_benchOf_128 : decode cX11_benchOf 128 = .ok (.ireturn, 1) := by decide +kernel
def fX11_benchOf (a1 : Int32) (a2 : Int32) (h : Hp) : Option (Int32 × Hp) := br (a1 < 0) (some ((-2), h)) (br (a1 < (gI h 1 0 7)) (br (a2 = 0) (gd (ib a1 8) (some (gI h 26 0 (ix a1), h))) (br (a2 = 1) (gd (ib a1 8) (some (gI h 27 0 (ix a1), h))) (br (a2 = 2) (gd (ib a1 8) (some (gI h 28 0 (ix a1), h))) (br (a2 = 3) (gd (ib a1 8) (br ((gI h 29 0 (ix a1)) = 0) (some (0, h)) (some (1, h)))) (br (a2 = 4) (bd (fX11_ownedUnits a1 h) (fun r5 h6 => some (r5, h6))) (br (a2 = 5) (gd (ib a1 8) (bd (fX11_ownedUnits a1 h) (fun r8 h9 => some ((gI h 28 0 (ix a1)) - r8, h9)))) (some ((-2), h)))))))) (some ((-2), h)))
set_option maxRecDepth 20000 in
theorem tX11_benchOf {X : Cz} {a1 : Int32} {a2 : Int32} {h hE : Hp} {rE : Int32} (hF : fX11_benchOf a1 a2 h = some (rE, hE)) : Ct X mX11_benchOf true [zr 11 0, zi a1, zi a2] h (some (zi rE)) hE := by
  refine Ct_of (by decide) (Nat.le_of_ble_eq_true rfl) (ls := [(0, zr 11 0), (1, zi a1), (2, zi a2)]) rfl ?_
  unfold fX11_benchOf at hF
  refine v_iload_n (j := 1) dX11_benchOf_0 rfl ?_
  refine v_if_lt dX11_benchOf_1 (by decide : _ = ((15 : Nat) : Int)) (fun q => ?_) (fun q => ?_)
  · replace hF := brT q hF
    refine v_bipush (v := (-2)) dX11_benchOf_15 (by decide) ?_
    obtain ⟨rfl, rfl⟩ := ret_use hF
    exact v_iret rfl dX11_benchOf_17
  · replace hF := brF q hF
    refine v_iload_n (j := 1) dX11_benchOf_4 rfl ?_
    refine v_aload_n (j := 0) dX11_benchOf_5 rfl ?_
    refine v_getL (c := 11) rfl rfl rfl ly11_0 cz11 flX11_10 dX11_benchOf_6 ?_
    refine v_getI (c := 1) rfl (Or.inl rfl) cz1 flX11_108 dX11_benchOf_9 ?_
    refine v_icmp_lt dX11_benchOf_12 (by decide : _ = ((18 : Nat) : Int)) (fun q => ?_) (fun q => ?_)
    · replace hF := brT q hF
      refine v_iload_n (j := 2) dX11_benchOf_18 rfl ?_
      by_cases q0 : a2 = 0
      · replace hF := brT q0 hF
        subst q0
        refine v_tblIn (tgt := 56) dX11_benchOf_19 (by decide) (by decide) rfl (by decide) ?_
        refine v_aload_n (j := 0) dX11_benchOf_56 rfl ?_
        refine v_getL (c := 11) rfl rfl rfl ly11_0 cz11 flX11_10 dX11_benchOf_57 ?_
        refine v_getL (c := 1) rfl rfl rfl ly1_8 cz1 flX11_400 dX11_benchOf_60 ?_
        refine v_iload_n (j := 1) dX11_benchOf_63 rfl ?_
        replace hF := gd_use hF
        obtain ⟨q1, hF⟩ := hF
        refine v_iald rfl q1 dX11_benchOf_64 ?_
        obtain ⟨rfl, rfl⟩ := ret_use hF
        exact v_iret rfl dX11_benchOf_65
      replace hF := brF q0 hF
      by_cases q1 : a2 = 1
      · replace hF := brT q1 hF
        subst q1
        refine v_tblIn (tgt := 66) dX11_benchOf_19 (by decide) (by decide) rfl (by decide) ?_
        refine v_aload_n (j := 0) dX11_benchOf_66 rfl ?_
        refine v_getL (c := 11) rfl rfl rfl ly11_0 cz11 flX11_10 dX11_benchOf_67 ?_
        refine v_getL (c := 1) rfl rfl rfl ly1_9 cz1 flX11_403 dX11_benchOf_70 ?_
        refine v_iload_n (j := 1) dX11_benchOf_73 rfl ?_
        replace hF := gd_use hF
        obtain ⟨q2, hF⟩ := hF
        refine v_iald rfl q2 dX11_benchOf_74 ?_
        obtain ⟨rfl, rfl⟩ := ret_use hF
        exact v_iret rfl dX11_benchOf_75
      replace hF := brF q1 hF
      by_cases q2 : a2 = 2
      · replace hF := brT q2 hF
        subst q2
        refine v_tblIn (tgt := 76) dX11_benchOf_19 (by decide) (by decide) rfl (by decide) ?_
        refine v_aload_n (j := 0) dX11_benchOf_76 rfl ?_
        refine v_getL (c := 11) rfl rfl rfl ly11_0 cz11 flX11_10 dX11_benchOf_77 ?_
        refine v_getL (c := 1) rfl rfl rfl ly1_10 cz1 flX11_406 dX11_benchOf_80 ?_
        refine v_iload_n (j := 1) dX11_benchOf_83 rfl ?_
        replace hF := gd_use hF
        obtain ⟨q3, hF⟩ := hF
        refine v_iald rfl q3 dX11_benchOf_84 ?_
        obtain ⟨rfl, rfl⟩ := ret_use hF
        exact v_iret rfl dX11_benchOf_85
      replace hF := brF q2 hF
      by_cases q3 : a2 = 3
      · replace hF := brT q3 hF
        subst q3
        refine v_tblIn (tgt := 86) dX11_benchOf_19 (by decide) (by decide) rfl (by decide) ?_
        refine v_aload_n (j := 0) dX11_benchOf_86 rfl ?_
        refine v_getL (c := 11) rfl rfl rfl ly11_0 cz11 flX11_10 dX11_benchOf_87 ?_
        refine v_getL (c := 1) rfl rfl rfl ly1_11 cz1 flX11_409 dX11_benchOf_90 ?_
        refine v_iload_n (j := 1) dX11_benchOf_93 rfl ?_
        replace hF := gd_use hF
        obtain ⟨q4, hF⟩ := hF
        refine v_zald rfl q4 dX11_benchOf_94 ?_
        refine v_if_eq dX11_benchOf_95 (by decide : _ = ((102 : Nat) : Int)) (fun q => ?_) (fun q => ?_)
        · replace hF := brT q hF
          refine v_iconst (v := 0) dX11_benchOf_102 (by decide) ?_
          obtain ⟨rfl, rfl⟩ := ret_use hF
          exact v_iret rfl dX11_benchOf_103
        · replace hF := brF q hF
          refine v_iconst (v := 1) dX11_benchOf_98 (by decide) ?_
          refine v_goto (tgt := 103) dX11_benchOf_99 (by decide) ?_
          obtain ⟨rfl, rfl⟩ := ret_use hF
          exact v_iret rfl dX11_benchOf_103
      replace hF := brF q3 hF
      by_cases q4 : a2 = 4
      · replace hF := brT q4 hF
        subst q4
        refine v_tblIn (tgt := 104) dX11_benchOf_19 (by decide) (by decide) rfl (by decide) ?_
        refine v_aload_n (j := 0) dX11_benchOf_104 rfl ?_
        refine v_iload_n (j := 1) dX11_benchOf_105 rfl ?_
        replace hF := bd_use hF
        obtain ⟨r5, h6, er5, hF⟩ := hF
        refine v_cV (hm := h6) (av := [zi a1]) (st := []) (stn := [zi r5]) (tX11_ownedUnits er5) lcX11_ownedUnits mlX11_412 imX11_ownedUnits seX11_ownedUnits rfl rfl rfl rfl ⟨by decide, by decide⟩ (Nat.le_of_ble_eq_true rfl) dX11_benchOf_106 rfl rfl ?_
        clear er5
        obtain ⟨rfl, rfl⟩ := ret_use hF
        exact v_iret rfl dX11_benchOf_109
      replace hF := brF q4 hF
      by_cases q5 : a2 = 5
      · replace hF := brT q5 hF
        subst q5
        refine v_tblIn (tgt := 110) dX11_benchOf_19 (by decide) (by decide) rfl (by decide) ?_
        refine v_aload_n (j := 0) dX11_benchOf_110 rfl ?_
        refine v_getL (c := 11) rfl rfl rfl ly11_0 cz11 flX11_10 dX11_benchOf_111 ?_
        refine v_getL (c := 1) rfl rfl rfl ly1_10 cz1 flX11_406 dX11_benchOf_114 ?_
        refine v_iload_n (j := 1) dX11_benchOf_117 rfl ?_
        replace hF := gd_use hF
        obtain ⟨q7, hF⟩ := hF
        refine v_iald rfl q7 dX11_benchOf_118 ?_
        refine v_aload_n (j := 0) dX11_benchOf_119 rfl ?_
        refine v_iload_n (j := 1) dX11_benchOf_120 rfl ?_
        replace hF := bd_use hF
        obtain ⟨r8, h9, er8, hF⟩ := hF
        refine v_cV (hm := h9) (av := [zi a1]) (st := [zi (gI h 28 0 (ix a1))]) (stn := [zi r8, zi (gI h 28 0 (ix a1))]) (tX11_ownedUnits er8) lcX11_ownedUnits mlX11_412 imX11_ownedUnits seX11_ownedUnits rfl rfl rfl rfl ⟨by decide, by decide⟩ (Nat.le_of_ble_eq_true rfl) dX11_benchOf_121 rfl rfl ?_
        clear er8
        refine v_isub dX11_benchOf_124 ?_
        obtain ⟨rfl, rfl⟩ := ret_use hF
        exact v_iret rfl dX11_benchOf_125
      replace hF := brF q5 hF
      have nq0 := lv_neT (a := 0) q0 rfl
      have nq1 := lv_neT (a := 1) q1 rfl
      have nq2 := lv_neT (a := 2) q2 rfl
      have nq3 := lv_neT (a := 3) q3 rfl
      have nq4 := lv_neT (a := 4) q4 rfl
      have nq5 := lv_neT (a := 5) q5 rfl
      refine v_tblOut (tgt := 126) dX11_benchOf_19 (by omega) (by decide) ?_
      refine v_bipush (v := (-2)) dX11_benchOf_126 (by decide) ?_
      obtain ⟨rfl, rfl⟩ := ret_use hF
      exact v_iret rfl dX11_benchOf_128
    · replace hF := brF q hF
      refine v_bipush (v := (-2)) dX11_benchOf_15 (by decide) ?_
      obtain ⟨rfl, rfl⟩ := ret_use hF
      exact v_iret rfl dX11_benchOf_17
theorem dX11_count_0 : decode cX11_count 0 = .ok (.iload_n 1, 1) := by decide +kernel
theorem dX11_count_1 : decode cX11_count 1 = .ok (.tableswitch 120 0 8 #[51, 56, 64, 72, 80, 88, 96, 104, 112], 51) := by decide +kernel
theorem dX11_count_52 : decode cX11_count 52 = .ok (.aload_n 0, 1) := by decide +kernel
theorem dX11_count_53 : decode cX11_count 53 = .ok (.getfield 111, 3) := by decide +kernel
theorem dX11_count_56 : decode cX11_count 56 = .ok (.ireturn, 1) := by decide +kernel
theorem dX11_count_57 : decode cX11_count 57 = .ok (.aload_n 0, 1) := by decide +kernel
theorem dX11_count_58 : decode cX11_count 58 = .ok (.getfield 10, 3) := by decide +kernel
theorem dX11_count_61 : decode cX11_count 61 = .ok (.getfield 108, 3) := by decide +kernel
theorem dX11_count_64 : decode cX11_count 64 = .ok (.ireturn, 1) := by decide +kernel
theorem dX11_count_65 : decode cX11_count 65 = .ok (.aload_n 0, 1) := by decide +kernel
theorem dX11_count_66 : decode cX11_count 66 = .ok (.getfield 10, 3) := by decide +kernel
theorem dX11_count_69 : decode cX11_count 69 = .ok (.getfield 415, 3) := by decide +kernel
theorem dX11_count_72 : decode cX11_count 72 = .ok (.ireturn, 1) := by decide +kernel
theorem dX11_count_73 : decode cX11_count 73 = .ok (.aload_n 0, 1) := by decide +kernel
theorem dX11_count_74 : decode cX11_count 74 = .ok (.getfield 19, 3) := by decide +kernel
theorem dX11_count_77 : decode cX11_count 77 = .ok (.getfield 304, 3) := by decide +kernel
theorem dX11_count_80 : decode cX11_count 80 = .ok (.ireturn, 1) := by decide +kernel
theorem dX11_count_81 : decode cX11_count 81 = .ok (.aload_n 0, 1) := by decide +kernel
theorem dX11_count_82 : decode cX11_count 82 = .ok (.getfield 26, 3) := by decide +kernel
theorem dX11_count_85 : decode cX11_count 85 = .ok (.getfield 418, 3) := by decide +kernel
theorem dX11_count_88 : decode cX11_count 88 = .ok (.ireturn, 1) := by decide +kernel
theorem dX11_count_89 : decode cX11_count 89 = .ok (.aload_n 0, 1) := by decide +kernel
theorem dX11_count_90 : decode cX11_count 90 = .ok (.getfield 42, 3) := by decide +kernel
theorem dX11_count_93 : decode cX11_count 93 = .ok (.getfield 263, 3) := by decide +kernel
theorem dX11_count_96 : decode cX11_count 96 = .ok (.ireturn, 1) := by decide +kernel
theorem dX11_count_97 : decode cX11_count 97 = .ok (.aload_n 0, 1) := by decide +kernel
theorem dX11_count_98 : decode cX11_count 98 = .ok (.getfield 26, 3) := by decide +kernel
theorem dX11_count_101 : decode cX11_count 101 = .ok (.getfield 167, 3) := by decide +kernel
theorem dX11_count_104 : decode cX11_count 104 = .ok (.ireturn, 1) := by decide +kernel
theorem dX11_count_105 : decode cX11_count 105 = .ok (.aload_n 0, 1) := by decide +kernel
theorem dX11_count_106 : decode cX11_count 106 = .ok (.getfield 65, 3) := by decide +kernel
theorem dX11_count_109 : decode cX11_count 109 = .ok (.invokevirtual 419, 3) := by decide +kernel
theorem dX11_count_112 : decode cX11_count 112 = .ok (.ireturn, 1) := by decide +kernel
theorem dX11_count_113 : decode cX11_count 113 = .ok (.aload_n 0, 1) := by decide +kernel
theorem dX11_count_114 : decode cX11_count 114 = .ok (.getfield 19, 3) := by decide +kernel
theorem dX11_count_117 : decode cX11_count 117 = .ok (.invokevirtual 422, 3) := by decide +kernel
theorem dX11_count_120 : decode cX11_count 120 = .ok (.ireturn, 1) := by decide +kernel
theorem dX11_count_121 : decode cX11_count 121 = .ok (.iconst (-1), 1) := by decide +kernel
theorem dX11_count_122 : decode cX11_count 122 = .ok (.ireturn, 1) := by decide +kernel
def fX11_count (a1 : Int32) (h : Hp) : Option (Int32 × Hp) := br (a1 = 0) (some (gI h 11 0 11, h)) (br (a1 = 1) (some (gI h 1 0 7, h)) (br (a1 = 2) (some (gI h 1 0 3, h)) (br (a1 = 3) (some (gI h 4 0 1, h)) (br (a1 = 4) (some (gI h 3 0 1, h)) (br (a1 = 5) (some (gI h 0 0 0, h)) (br (a1 = 6) (some (gI h 3 0 2, h)) (br (a1 = 7) (bd (fX7_filled h) (fun r1 h2 => some (r1, h2))) (br (a1 = 8) (bd (fX4_staying h) (fun r3 h4 => some (r3, h4))) (some ((-1), h))))))))))
set_option maxRecDepth 20000 in
theorem tX11_count {X : Cz} {a1 : Int32} {h hE : Hp} {rE : Int32} (hF : fX11_count a1 h = some (rE, hE)) : Ct X mX11_count true [zr 11 0, zi a1] h (some (zi rE)) hE := by
  refine Ct_of (by decide) (Nat.le_of_ble_eq_true rfl) (ls := [(0, zr 11 0), (1, zi a1)]) rfl ?_
  unfold fX11_count at hF
  refine v_iload_n (j := 1) dX11_count_0 rfl ?_
  by_cases q0 : a1 = 0
  · replace hF := brT q0 hF
    subst q0
    refine v_tblIn (tgt := 52) dX11_count_1 (by decide) (by decide) rfl (by decide) ?_
    refine v_aload_n (j := 0) dX11_count_52 rfl ?_
    refine v_getI (c := 11) rfl (Or.inl rfl) cz11 flX11_111 dX11_count_53 ?_
    obtain ⟨rfl, rfl⟩ := ret_use hF
    exact v_iret rfl dX11_count_56
  replace hF := brF q0 hF
  by_cases q1 : a1 = 1
  · replace hF := brT q1 hF
    subst q1
    refine v_tblIn (tgt := 57) dX11_count_1 (by decide) (by decide) rfl (by decide) ?_
    refine v_aload_n (j := 0) dX11_count_57 rfl ?_
    refine v_getL (c := 11) rfl rfl rfl ly11_0 cz11 flX11_10 dX11_count_58 ?_
    refine v_getI (c := 1) rfl (Or.inl rfl) cz1 flX11_108 dX11_count_61 ?_
    obtain ⟨rfl, rfl⟩ := ret_use hF
    exact v_iret rfl dX11_count_64
  replace hF := brF q1 hF
  by_cases q2 : a1 = 2
  · replace hF := brT q2 hF
    subst q2
    refine v_tblIn (tgt := 65) dX11_count_1 (by decide) (by decide) rfl (by decide) ?_
    refine v_aload_n (j := 0) dX11_count_65 rfl ?_
    refine v_getL (c := 11) rfl rfl rfl ly11_0 cz11 flX11_10 dX11_count_66 ?_
    refine v_getI (c := 1) rfl (Or.inl rfl) cz1 flX11_415 dX11_count_69 ?_
    obtain ⟨rfl, rfl⟩ := ret_use hF
    exact v_iret rfl dX11_count_72
  replace hF := brF q2 hF
  by_cases q3 : a1 = 3
  · replace hF := brT q3 hF
    subst q3
    refine v_tblIn (tgt := 73) dX11_count_1 (by decide) (by decide) rfl (by decide) ?_
    refine v_aload_n (j := 0) dX11_count_73 rfl ?_
    refine v_getL (c := 11) rfl rfl rfl ly11_1 cz11 flX11_19 dX11_count_74 ?_
    refine v_getI (c := 4) rfl (Or.inl rfl) cz4 flX11_304 dX11_count_77 ?_
    obtain ⟨rfl, rfl⟩ := ret_use hF
    exact v_iret rfl dX11_count_80
  replace hF := brF q3 hF
  by_cases q4 : a1 = 4
  · replace hF := brT q4 hF
    subst q4
    refine v_tblIn (tgt := 81) dX11_count_1 (by decide) (by decide) rfl (by decide) ?_
    refine v_aload_n (j := 0) dX11_count_81 rfl ?_
    refine v_getL (c := 11) rfl rfl rfl ly11_2 cz11 flX11_26 dX11_count_82 ?_
    refine v_getI (c := 3) rfl (Or.inl rfl) cz3 flX11_418 dX11_count_85 ?_
    obtain ⟨rfl, rfl⟩ := ret_use hF
    exact v_iret rfl dX11_count_88
  replace hF := brF q4 hF
  by_cases q5 : a1 = 5
  · replace hF := brT q5 hF
    subst q5
    refine v_tblIn (tgt := 89) dX11_count_1 (by decide) (by decide) rfl (by decide) ?_
    refine v_aload_n (j := 0) dX11_count_89 rfl ?_
    refine v_getL (c := 11) rfl rfl rfl ly11_4 cz11 flX11_42 dX11_count_90 ?_
    refine v_getI (c := 0) rfl (Or.inl rfl) cz0 flX11_263 dX11_count_93 ?_
    obtain ⟨rfl, rfl⟩ := ret_use hF
    exact v_iret rfl dX11_count_96
  replace hF := brF q5 hF
  by_cases q6 : a1 = 6
  · replace hF := brT q6 hF
    subst q6
    refine v_tblIn (tgt := 97) dX11_count_1 (by decide) (by decide) rfl (by decide) ?_
    refine v_aload_n (j := 0) dX11_count_97 rfl ?_
    refine v_getL (c := 11) rfl rfl rfl ly11_2 cz11 flX11_26 dX11_count_98 ?_
    refine v_getI (c := 3) rfl (Or.inl rfl) cz3 flX11_167 dX11_count_101 ?_
    obtain ⟨rfl, rfl⟩ := ret_use hF
    exact v_iret rfl dX11_count_104
  replace hF := brF q6 hF
  by_cases q7 : a1 = 7
  · replace hF := brT q7 hF
    subst q7
    refine v_tblIn (tgt := 105) dX11_count_1 (by decide) (by decide) rfl (by decide) ?_
    refine v_aload_n (j := 0) dX11_count_105 rfl ?_
    refine v_getL (c := 11) rfl rfl rfl ly11_7 cz11 flX11_65 dX11_count_106 ?_
    replace hF := bd_use hF
    obtain ⟨r1, h2, er1, hF⟩ := hF
    refine v_cV (hm := h2) (av := []) (st := []) (stn := [zi r1]) (tX7_filled er1) lcX7_filled mlX11_419 imX7_filled seX7_filled rfl rfl rfl rfl ⟨by decide, by decide⟩ (Nat.le_of_ble_eq_true rfl) dX11_count_109 rfl rfl ?_
    clear er1
    obtain ⟨rfl, rfl⟩ := ret_use hF
    exact v_iret rfl dX11_count_112
  replace hF := brF q7 hF
  by_cases q8 : a1 = 8
  · replace hF := brT q8 hF
    subst q8
    refine v_tblIn (tgt := 113) dX11_count_1 (by decide) (by decide) rfl (by decide) ?_
    refine v_aload_n (j := 0) dX11_count_113 rfl ?_
    refine v_getL (c := 11) rfl rfl rfl ly11_1 cz11 flX11_19 dX11_count_114 ?_
    replace hF := bd_use hF
    obtain ⟨r3, h4, er3, hF⟩ := hF
    refine v_cV (hm := h4) (av := []) (st := []) (stn := [zi r3]) (tX4_staying er3) lcX4_staying mlX11_422 imX4_staying seX4_staying rfl rfl rfl rfl ⟨by decide, by decide⟩ (Nat.le_of_ble_eq_true rfl) dX11_count_117 rfl rfl ?_
    clear er3
    obtain ⟨rfl, rfl⟩ := ret_use hF
    exact v_iret rfl dX11_count_120
  replace hF := brF q8 hF
  have nq0 := lv_neT (a := 0) q0 rfl
  have nq1 := lv_neT (a := 1) q1 rfl
  have nq2 := lv_neT (a := 2) q2 rfl
  have nq3 := lv_neT (a := 3) q3 rfl
  have nq4 := lv_neT (a := 4) q4 rfl
  have nq5 := lv_neT (a := 5) q5 rfl
  have nq6 := lv_neT (a := 6) q6 rfl
  have nq7 := lv_neT (a := 7) q7 rfl
  have nq8 := lv_neT (a := 8) q8 rfl
  refine v_tblOut (tgt := 121) dX11_count_1 (by omega) (by decide) ?_
  refine v_iconst (v := (-1)) dX11_count_121 (by decide) ?_
  obtain ⟨rfl, rfl⟩ := ret_use hF
  exact v_iret rfl dX11_count_122
theorem dX11_fund_0 : decode cX11_fund 0 = .ok (.aload_n 0, 1) := by decide +kernel
theorem dX11_fund_1 : decode cX11_fund 1 = .ok (.getfield 279, 3) := by decide +kernel
theorem dX11_fund_4 : decode cX11_fund 4 = .ok (.lreturn, 1) := by decide +kernel
def fX11_fund (h : Hp) : Int64 := gJ h 11 0 14
set_option maxRecDepth 20000 in
theorem tX11_fund {X : Cz} (h : Hp) : Ct X mX11_fund true [zr 11 0] h (some (zj (fX11_fund h))) h := by
  refine Ct_of (by decide) (Nat.le_of_ble_eq_true rfl) (ls := [(0, zr 11 0)]) rfl ?_
  obtain ⟨rE, hF⟩ : ∃ z, fX11_fund h = z := ⟨_, rfl⟩
  rw [hF]
  unfold fX11_fund at hF
  refine v_aload_n (j := 0) dX11_fund_0 rfl ?_
  refine v_getJ (c := 11) rfl rfl cz11 flX11_279 dX11_fund_1 ?_
  subst hF
  exact v_lret rfl dX11_fund_4
theorem dX11_row_0 : decode cX11_row 0 = .ok (.aload_n 0, 1) := by decide +kernel
theorem dX11_row_1 : decode cX11_row 1 = .ok (.getfield 65, 3) := by decide +kernel
theorem dX11_row_4 : decode cX11_row 4 = .ok (.iload_n 1, 1) := by decide +kernel
theorem dX11_row_5 : decode cX11_row 5 = .ok (.invokevirtual 245, 3) := by decide +kernel
theorem dX11_row_8 : decode cX11_row 8 = .ok (.ifCond .eq 18, 3) := by decide +kernel
theorem dX11_row_11 : decode cX11_row 11 = .ok (.iload_n 2, 1) := by decide +kernel
theorem dX11_row_12 : decode cX11_row 12 = .ok (.iconst 0, 1) := by decide +kernel
theorem dX11_row_13 : decode cX11_row 13 = .ok (.iconst 3, 1) := by decide +kernel
theorem dX11_row_14 : decode cX11_row 14 = .ok (.invokestatic 96, 3) := by decide +kernel
theorem dX11_row_17 : decode cX11_row 17 = .ok (.ifCond .eq 9, 3) := by decide +kernel
theorem dX11_row_20 : decode cX11_row 20 = .ok (.iload_n 3, 1) := by decide +kernel
theorem dX11_row_21 : decode cX11_row 21 = .ok (.bipush 60, 2) := by decide +kernel
theorem dX11_row_23 : decode cX11_row 23 = .ok (.if_icmp .le 6, 3) := by decide +kernel
theorem dX11_row_26 : decode cX11_row 26 = .ok (.bipush (-2), 2) := by decide +kernel
theorem dX11_row_28 : decode cX11_row 28 = .ok (.ireturn, 1) := by decide +kernel
theorem dX11_row_29 : decode cX11_row 29 = .ok (.iload_n 3, 1) := by decide +kernel
theorem dX11_row_30 : decode cX11_row 30 = .ok (.ifCond .ge 6, 3) := by decide +kernel
theorem dX11_row_33 : decode cX11_row 33 = .ok (.bipush (-3), 2) := by decide +kernel
theorem dX11_row_35 : decode cX11_row 35 = .ok (.ireturn, 1) := by decide +kernel
theorem dX11_row_36 : decode cX11_row 36 = .ok (.aload_n 0, 1) := by decide +kernel
theorem dX11_row_37 : decode cX11_row 37 = .ok (.getfield 65, 3) := by decide +kernel
theorem dX11_row_40 : decode cX11_row 40 = .ok (.iload_n 1, 1) := by decide +kernel
theorem dX11_row_41 : decode cX11_row 41 = .ok (.iload_n 2, 1) := by decide +kernel
theorem dX11_row_42 : decode cX11_row 42 = .ok (.iload_n 3, 1) := by decide +kernel
theorem dX11_row_43 : decode cX11_row 43 = .ok (.invokevirtual 425, 3) := by decide +kernel
theorem dX11_row_46 : decode cX11_row 46 = .ok (.iconst 0, 1) := by decide +kernel
theorem dX11_row_47 : decode cX11_row 47 = .ok (.ireturn, 1) := by decide +kernel
def fX11_row (a1 : Int32) (a2 : Int32) (a3 : Int32) (h : Hp) : Option (Int32 × Hp) := br ((fX7_isPlace a1 h) = 0) (some ((-2), h)) (br ((fX11_isWithin a2 0 3 h) = 0) (some ((-2), h)) (br (a3 ≤ 60) (br (0 ≤ a3) (bd (fX7_lay a1 a2 a3 h) (fun r1 h2 => some (0, h2))) (some ((-3), h))) (some ((-2), h))))
set_option maxRecDepth 20000 in
theorem tX11_row {X : Cz} {a1 : Int32} {a2 : Int32} {a3 : Int32} {h hE : Hp} {rE : Int32} (hF : fX11_row a1 a2 a3 h = some (rE, hE)) : Ct X mX11_row true [zr 11 0, zi a1, zi a2, zi a3] h (some (zi rE)) hE := by
  refine Ct_of (by decide) (Nat.le_of_ble_eq_true rfl) (ls := [(0, zr 11 0), (1, zi a1), (2, zi a2), (3, zi a3)]) rfl ?_
  unfold fX11_row at hF
  refine v_aload_n (j := 0) dX11_row_0 rfl ?_
  refine v_getL (c := 11) rfl rfl rfl ly11_7 cz11 flX11_65 dX11_row_1 ?_
  refine v_iload_n (j := 1) dX11_row_4 rfl ?_
  refine v_cV (hm := h) (av := [zi a1]) (st := []) (stn := [zi (fX7_isPlace a1 h)]) (tX7_isPlace a1 h) lcX7_isPlace mlX11_245 imX7_isPlace seX7_isPlace rfl rfl rfl rfl ⟨by decide, by decide⟩ (Nat.le_of_ble_eq_true rfl) dX11_row_5 rfl rfl ?_
  refine v_if_eq dX11_row_8 (by decide : _ = ((26 : Nat) : Int)) (fun q => ?_) (fun q => ?_)
  · replace hF := brT q hF
    refine v_bipush (v := (-2)) dX11_row_26 (by decide) ?_
    obtain ⟨rfl, rfl⟩ := ret_use hF
    exact v_iret rfl dX11_row_28
  · replace hF := brF q hF
    refine v_iload_n (j := 2) dX11_row_11 rfl ?_
    refine v_iconst (v := 0) dX11_row_12 (by decide) ?_
    refine v_iconst (v := 3) dX11_row_13 (by decide) ?_
    refine v_cS (hm := h) (av := [zi a2, zi 0, zi 3]) (st := []) (stn := [zi (fX11_isWithin a2 0 3 h)]) (tX11_isWithin a2 0 3 h) lcX11_isWithin mlX11_96 sxX11_isWithin rfl ⟨by decide, by decide⟩ (Nat.le_of_ble_eq_true rfl) dX11_row_14 rfl rfl ?_
    refine v_if_eq dX11_row_17 (by decide : _ = ((26 : Nat) : Int)) (fun q => ?_) (fun q => ?_)
    · replace hF := brT q hF
      refine v_bipush (v := (-2)) dX11_row_26 (by decide) ?_
      obtain ⟨rfl, rfl⟩ := ret_use hF
      exact v_iret rfl dX11_row_28
    · replace hF := brF q hF
      refine v_iload_n (j := 3) dX11_row_20 rfl ?_
      refine v_bipush (v := 60) dX11_row_21 (by decide) ?_
      refine v_icmp_le dX11_row_23 (by decide : _ = ((29 : Nat) : Int)) (fun q => ?_) (fun q => ?_)
      · replace hF := brT q hF
        refine v_iload_n (j := 3) dX11_row_29 rfl ?_
        refine v_if_ge dX11_row_30 (by decide : _ = ((36 : Nat) : Int)) (fun q => ?_) (fun q => ?_)
        · replace hF := brT q hF
          refine v_aload_n (j := 0) dX11_row_36 rfl ?_
          refine v_getL (c := 11) rfl rfl rfl ly11_7 cz11 flX11_65 dX11_row_37 ?_
          refine v_iload_n (j := 1) dX11_row_40 rfl ?_
          refine v_iload_n (j := 2) dX11_row_41 rfl ?_
          refine v_iload_n (j := 3) dX11_row_42 rfl ?_
          replace hF := bd_use hF
          obtain ⟨r1, h2, er1, hF⟩ := hF
          refine v_cV (hm := h2) (av := [zi a1, zi a2, zi a3]) (st := []) (stn := []) (tX7_lay er1) lcX7_lay mlX11_425 imX7_lay seX7_lay rfl rfl rfl rfl ⟨by decide, by decide⟩ (Nat.le_of_ble_eq_true rfl) dX11_row_43 rfl rfl ?_
          clear er1
          refine v_iconst (v := 0) dX11_row_46 (by decide) ?_
          obtain ⟨rfl, rfl⟩ := ret_use hF
          exact v_iret rfl dX11_row_47
        · replace hF := brF q hF
          refine v_bipush (v := (-3)) dX11_row_33 (by decide) ?_
          obtain ⟨rfl, rfl⟩ := ret_use hF
          exact v_iret rfl dX11_row_35
      · replace hF := brF q hF
        refine v_bipush (v := (-2)) dX11_row_26 (by decide) ?_
        obtain ⟨rfl, rfl⟩ := ret_use hF
        exact v_iret rfl dX11_row_28
theorem dX11_tear_0 : decode cX11_tear 0 = .ok (.aload_n 0, 1) := by decide +kernel
theorem dX11_tear_1 : decode cX11_tear 1 = .ok (.getfield 65, 3) := by decide +kernel
theorem dX11_tear_4 : decode cX11_tear 4 = .ok (.iload_n 1, 1) := by decide +kernel
theorem dX11_tear_5 : decode cX11_tear 5 = .ok (.invokevirtual 245, 3) := by decide +kernel
theorem dX11_tear_8 : decode cX11_tear 8 = .ok (.ifCond .eq 14, 3) := by decide +kernel
theorem dX11_tear_11 : decode cX11_tear 11 = .ok (.aload_n 0, 1) := by decide +kernel
theorem dX11_tear_12 : decode cX11_tear 12 = .ok (.getfield 65, 3) := by decide +kernel
theorem dX11_tear_15 : decode cX11_tear 15 = .ok (.iload_n 1, 1) := by decide +kernel
theorem dX11_tear_16 : decode cX11_tear 16 = .ok (.invokevirtual 248, 3) := by decide +kernel
theorem dX11_tear_19 : decode cX11_tear 19 = .ok (.ifCond .ne 5, 3) := by decide +kernel
theorem dX11_tear_22 : decode cX11_tear 22 = .ok (.iconst 0, 1) := by decide +kernel
theorem dX11_tear_23 : decode cX11_tear 23 = .ok (.ireturn, 1) := by decide +kernel
theorem dX11_tear_24 : decode cX11_tear 24 = .ok (.aload_n 0, 1) := by decide +kernel
theorem dX11_tear_25 : decode cX11_tear 25 = .ok (.getfield 65, 3) := by decide +kernel
theorem dX11_tear_28 : decode cX11_tear 28 = .ok (.iload_n 1, 1) := by decide +kernel
theorem dX11_tear_29 : decode cX11_tear 29 = .ok (.invokevirtual 428, 3) := by decide +kernel
theorem dX11_tear_32 : decode cX11_tear 32 = .ok (.iconst 1, 1) := by decide +kernel
theorem dX11_tear_33 : decode cX11_tear 33 = .ok (.ireturn, 1) := by decide +kernel
def fX11_tear (a1 : Int32) (h : Hp) : Option (Int32 × Hp) := br ((fX7_isPlace a1 h) = 0) (some (0, h)) (bd (fX7_isFilled a1 h) (fun r1 h2 => br (r1 = 0) (some (0, h2)) (bd (fX7_clear a1 h2) (fun r3 h4 => some (1, h4)))))
set_option maxRecDepth 20000 in
theorem tX11_tear {X : Cz} {a1 : Int32} {h hE : Hp} {rE : Int32} (hF : fX11_tear a1 h = some (rE, hE)) : Ct X mX11_tear true [zr 11 0, zi a1] h (some (zi rE)) hE := by
  refine Ct_of (by decide) (Nat.le_of_ble_eq_true rfl) (ls := [(0, zr 11 0), (1, zi a1)]) rfl ?_
  unfold fX11_tear at hF
  refine v_aload_n (j := 0) dX11_tear_0 rfl ?_
  refine v_getL (c := 11) rfl rfl rfl ly11_7 cz11 flX11_65 dX11_tear_1 ?_
  refine v_iload_n (j := 1) dX11_tear_4 rfl ?_
  refine v_cV (hm := h) (av := [zi a1]) (st := []) (stn := [zi (fX7_isPlace a1 h)]) (tX7_isPlace a1 h) lcX7_isPlace mlX11_245 imX7_isPlace seX7_isPlace rfl rfl rfl rfl ⟨by decide, by decide⟩ (Nat.le_of_ble_eq_true rfl) dX11_tear_5 rfl rfl ?_
  refine v_if_eq dX11_tear_8 (by decide : _ = ((22 : Nat) : Int)) (fun q => ?_) (fun q => ?_)
  · replace hF := brT q hF
    refine v_iconst (v := 0) dX11_tear_22 (by decide) ?_
    obtain ⟨rfl, rfl⟩ := ret_use hF
    exact v_zret rfl (Or.inl rfl) dX11_tear_23
  · replace hF := brF q hF
    refine v_aload_n (j := 0) dX11_tear_11 rfl ?_
    refine v_getL (c := 11) rfl rfl rfl ly11_7 cz11 flX11_65 dX11_tear_12 ?_
    refine v_iload_n (j := 1) dX11_tear_15 rfl ?_
    replace hF := bd_use hF
    obtain ⟨r1, h2, er1, hF⟩ := hF
    refine v_cV (hm := h2) (av := [zi a1]) (st := []) (stn := [zi r1]) (tX7_isFilled er1) lcX7_isFilled mlX11_248 imX7_isFilled seX7_isFilled rfl rfl rfl rfl ⟨by decide, by decide⟩ (Nat.le_of_ble_eq_true rfl) dX11_tear_16 rfl rfl ?_
    clear er1
    refine v_if_ne dX11_tear_19 (by decide : _ = ((24 : Nat) : Int)) (fun q => ?_) (fun q => ?_)
    · replace hF := brF q hF
      refine v_aload_n (j := 0) dX11_tear_24 rfl ?_
      refine v_getL (c := 11) rfl rfl rfl ly11_7 cz11 flX11_65 dX11_tear_25 ?_
      refine v_iload_n (j := 1) dX11_tear_28 rfl ?_
      replace hF := bd_use hF
      obtain ⟨r3, h4, er3, hF⟩ := hF
      refine v_cV (hm := h4) (av := [zi a1]) (st := []) (stn := []) (tX7_clear er3) lcX7_clear mlX11_428 imX7_clear seX7_clear rfl rfl rfl rfl ⟨by decide, by decide⟩ (Nat.le_of_ble_eq_true rfl) dX11_tear_29 rfl rfl ?_
      clear er3
      refine v_iconst (v := 1) dX11_tear_32 (by decide) ?_
      obtain ⟨rfl, rfl⟩ := ret_use hF
      exact v_zret rfl (Or.inr rfl) dX11_tear_33
    · replace hF := brT (Decidable.not_not.mp q) hF
      refine v_iconst (v := 0) dX11_tear_22 (by decide) ?_
      obtain ⟨rfl, rfl⟩ := ret_use hF
      exact v_zret rfl (Or.inl rfl) dX11_tear_23
theorem dX11_write_0 : decode cX11_write 0 = .ok (.aload_n 0, 1) := by decide +kernel
theorem dX11_write_1 : decode cX11_write 1 = .ok (.getfield 65, 3) := by decide +kernel
theorem dX11_write_4 : decode cX11_write 4 = .ok (.iload_n 1, 1) := by decide +kernel
theorem dX11_write_5 : decode cX11_write 5 = .ok (.invokevirtual 245, 3) := by decide +kernel
theorem dX11_write_8 : decode cX11_write 8 = .ok (.ifCond .ne 6, 3) := by decide +kernel
theorem dX11_write_11 : decode cX11_write 11 = .ok (.bipush (-2), 2) := by decide +kernel
theorem dX11_write_13 : decode cX11_write 13 = .ok (.ireturn, 1) := by decide +kernel
theorem dX11_write_14 : decode cX11_write 14 = .ok (.aload_n 0, 1) := by decide +kernel
theorem dX11_write_15 : decode cX11_write 15 = .ok (.getfield 65, 3) := by decide +kernel
theorem dX11_write_18 : decode cX11_write 18 = .ok (.iload_n 1, 1) := by decide +kernel
theorem dX11_write_19 : decode cX11_write 19 = .ok (.invokevirtual 248, 3) := by decide +kernel
theorem dX11_write_22 : decode cX11_write 22 = .ok (.ifCond .ne 6, 3) := by decide +kernel
theorem dX11_write_25 : decode cX11_write 25 = .ok (.bipush (-5), 2) := by decide +kernel
theorem dX11_write_27 : decode cX11_write 27 = .ok (.ireturn, 1) := by decide +kernel
theorem dX11_write_28 : decode cX11_write 28 = .ok (.aload_n 0, 1) := by decide +kernel
theorem dX11_write_29 : decode cX11_write 29 = .ok (.getfield 65, 3) := by decide +kernel
theorem dX11_write_32 : decode cX11_write 32 = .ok (.iload_n 1, 1) := by decide +kernel
theorem dX11_write_33 : decode cX11_write 33 = .ok (.iload_n 2, 1) := by decide +kernel
theorem dX11_write_34 : decode cX11_write 34 = .ok (.lload_n 3, 1) := by decide +kernel
theorem dX11_write_35 : decode cX11_write 35 = .ok (.invokevirtual 431, 3) := by decide +kernel
theorem dX11_write_38 : decode cX11_write 38 = .ok (.ireturn, 1) := by decide +kernel
def fX11_write (a1 : Int32) (a2 : Int32) (a3 : Int64) (h : Hp) : Option (Int32 × Hp) := br ((fX7_isPlace a1 h) = 0) (some ((-2), h)) (bd (fX7_isFilled a1 h) (fun r1 h2 => br (r1 = 0) (some ((-5), h2)) (bd (fX7_put a1 a2 a3 h2) (fun r3 h4 => some (r3, h4)))))
set_option maxRecDepth 20000 in
theorem tX11_write {X : Cz} {a1 : Int32} {a2 : Int32} {a3 : Int64} {h hE : Hp} {rE : Int32} (hF : fX11_write a1 a2 a3 h = some (rE, hE)) : Ct X mX11_write true [zr 11 0, zi a1, zi a2, zj a3] h (some (zi rE)) hE := by
  refine Ct_of (by decide) (Nat.le_of_ble_eq_true rfl) (ls := [(0, zr 11 0), (1, zi a1), (2, zi a2), (3, zj a3)]) rfl ?_
  unfold fX11_write at hF
  refine v_aload_n (j := 0) dX11_write_0 rfl ?_
  refine v_getL (c := 11) rfl rfl rfl ly11_7 cz11 flX11_65 dX11_write_1 ?_
  refine v_iload_n (j := 1) dX11_write_4 rfl ?_
  refine v_cV (hm := h) (av := [zi a1]) (st := []) (stn := [zi (fX7_isPlace a1 h)]) (tX7_isPlace a1 h) lcX7_isPlace mlX11_245 imX7_isPlace seX7_isPlace rfl rfl rfl rfl ⟨by decide, by decide⟩ (Nat.le_of_ble_eq_true rfl) dX11_write_5 rfl rfl ?_
  refine v_if_ne dX11_write_8 (by decide : _ = ((14 : Nat) : Int)) (fun q => ?_) (fun q => ?_)
  · replace hF := brF q hF
    refine v_aload_n (j := 0) dX11_write_14 rfl ?_
    refine v_getL (c := 11) rfl rfl rfl ly11_7 cz11 flX11_65 dX11_write_15 ?_
    refine v_iload_n (j := 1) dX11_write_18 rfl ?_
    replace hF := bd_use hF
    obtain ⟨r1, h2, er1, hF⟩ := hF
    refine v_cV (hm := h2) (av := [zi a1]) (st := []) (stn := [zi r1]) (tX7_isFilled er1) lcX7_isFilled mlX11_248 imX7_isFilled seX7_isFilled rfl rfl rfl rfl ⟨by decide, by decide⟩ (Nat.le_of_ble_eq_true rfl) dX11_write_19 rfl rfl ?_
    clear er1
    refine v_if_ne dX11_write_22 (by decide : _ = ((28 : Nat) : Int)) (fun q => ?_) (fun q => ?_)
    · replace hF := brF q hF
      refine v_aload_n (j := 0) dX11_write_28 rfl ?_
      refine v_getL (c := 11) rfl rfl rfl ly11_7 cz11 flX11_65 dX11_write_29 ?_
      refine v_iload_n (j := 1) dX11_write_32 rfl ?_
      refine v_iload_n (j := 2) dX11_write_33 rfl ?_
      refine v_lload_n (j := 3) dX11_write_34 rfl ?_
      replace hF := bd_use hF
      obtain ⟨r3, h4, er3, hF⟩ := hF
      refine v_cV (hm := h4) (av := [zi a1, zi a2, zj a3]) (st := []) (stn := [zi r3]) (tX7_put er3) lcX7_put mlX11_431 imX7_put seX7_put rfl rfl rfl rfl ⟨by decide, by decide⟩ (Nat.le_of_ble_eq_true rfl) dX11_write_35 rfl rfl ?_
      clear er3
      obtain ⟨rfl, rfl⟩ := ret_use hF
      exact v_iret rfl dX11_write_38
    · replace hF := brT (Decidable.not_not.mp q) hF
      refine v_bipush (v := (-5)) dX11_write_25 (by decide) ?_
      obtain ⟨rfl, rfl⟩ := ret_use hF
      exact v_iret rfl dX11_write_27
  · replace hF := brT (Decidable.not_not.mp q) hF
    refine v_bipush (v := (-2)) dX11_write_11 (by decide) ?_
    obtain ⟨rfl, rfl⟩ := ret_use hF
    exact v_iret rfl dX11_write_13
