/-! functions and ties, printed by program (wip/gen/dec.py) -/
theorem dX12_knocked_0 : decode cX12_knocked 0 = .ok (.aload_n 0, 1) := by decide +kernel
theorem dX12_knocked_1 : decode cX12_knocked 1 = .ok (.iconst 0, 1) := by decide +kernel
theorem dX12_knocked_2 : decode cX12_knocked 2 = .ok (.putfield 208, 3) := by decide +kernel
theorem dX12_knocked_5 : decode cX12_knocked 5 = .ok (.aload_n 0, 1) := by decide +kernel
theorem dX12_knocked_6 : decode cX12_knocked 6 = .ok (.getfield 388, 3) := by decide +kernel
theorem dX12_knocked_9 : decode cX12_knocked 9 = .ok (.ifCond .eq 23, 3) := by decide +kernel
theorem dX12_knocked_12 : decode cX12_knocked 12 = .ok (.aload_n 0, 1) := by decide +kernel
theorem dX12_knocked_13 : decode cX12_knocked 13 = .ok (.iload_n 1, 1) := by decide +kernel
theorem dX12_knocked_14 : decode cX12_knocked 14 = .ok (.invokevirtual 298, 3) := by decide +kernel
theorem dX12_knocked_17 : decode cX12_knocked 17 = .ok (.ifCond .eq 15, 3) := by decide +kernel
theorem dX12_knocked_20 : decode cX12_knocked 20 = .ok (.iload_n 2, 1) := by decide +kernel
theorem dX12_knocked_21 : decode cX12_knocked 21 = .ok (.i2l, 1) := by decide +kernel
theorem dX12_knocked_22 : decode cX12_knocked 22 = .ok (.lconst 0, 1) := by decide +kernel
theorem dX12_knocked_23 : decode cX12_knocked 23 = .ok (.ldc2_w 233, 3) := by decide +kernel
theorem dX12_knocked_26 : decode cX12_knocked 26 = .ok (.invokestatic 213, 3) := by decide +kernel
theorem dX12_knocked_29 : decode cX12_knocked 29 = .ok (.ifCond .ne 7, 3) := by decide +kernel
theorem dX12_knocked_32 : decode cX12_knocked 32 = .ok (.ldc2_w 392, 3) := by decide +kernel
theorem dX12_knocked_35 : decode cX12_knocked 35 = .ok (.lreturn, 1) := by decide +kernel
theorem dX12_knocked_36 : decode cX12_knocked 36 = .ok (.iload_n 2, 1) := by decide +kernel
theorem dX12_knocked_37 : decode cX12_knocked 37 = .ok (.iconst 2, 1) := by decide +kernel
theorem dX12_knocked_38 : decode cX12_knocked 38 = .ok (.if_icmp .ne 8, 3) := by decide +kernel
theorem dX12_knocked_41 : decode cX12_knocked 41 = .ok (.aload_n 0, 1) := by decide +kernel
theorem dX12_knocked_42 : decode cX12_knocked 42 = .ok (.getfield 382, 3) := by decide +kernel
theorem dX12_knocked_45 : decode cX12_knocked 45 = .ok (.lreturn, 1) := by decide +kernel
theorem dX12_knocked_46 : decode cX12_knocked 46 = .ok (.iload_n 1, 1) := by decide +kernel
theorem dX12_knocked_47 : decode cX12_knocked 47 = .ok (.aload_n 0, 1) := by decide +kernel
theorem dX12_knocked_48 : decode cX12_knocked 48 = .ok (.getfield 385, 3) := by decide +kernel
theorem dX12_knocked_51 : decode cX12_knocked 51 = .ok (.if_icmp .lt 15, 3) := by decide +kernel
theorem dX12_knocked_54 : decode cX12_knocked 54 = .ok (.iload_n 2, 1) := by decide +kernel
theorem dX12_knocked_55 : decode cX12_knocked 55 = .ok (.ifCond .ne 9, 3) := by decide +kernel
theorem dX12_knocked_58 : decode cX12_knocked 58 = .ok (.ldc2_w 370, 3) := by decide +kernel
theorem dX12_knocked_61 : decode cX12_knocked 61 = .ok (.goto 4, 3) := by decide +kernel
theorem dX12_knocked_64 : decode cX12_knocked 64 = .ok (.lconst 0, 1) := by decide +kernel
theorem dX12_knocked_65 : decode cX12_knocked 65 = .ok (.lreturn, 1) := by decide +kernel
theorem dX12_knocked_66 : decode cX12_knocked 66 = .ok (.iload_n 2, 1) := by decide +kernel
theorem dX12_knocked_67 : decode cX12_knocked 67 = .ok (.ifCond .ne 13, 3) := by decide +kernel
theorem dX12_knocked_70 : decode cX12_knocked 70 = .ok (.aload_n 0, 1) := by decide +kernel
theorem dX12_knocked_71 : decode cX12_knocked 71 = .ok (.getfield 154, 3) := by decide +kernel
theorem dX12_knocked_74 : decode cX12_knocked 74 = .ok (.iload_n 1, 1) := by decide +kernel
theorem dX12_knocked_75 : decode cX12_knocked 75 = .ok (.iaload, 1) := by decide +kernel
theorem dX12_knocked_76 : decode cX12_knocked 76 = .ok (.i2l, 1) := by decide +kernel
theorem dX12_knocked_77 : decode cX12_knocked 77 = .ok (.goto 9, 3) := by decide +kernel
theorem dX12_knocked_80 : decode cX12_knocked 80 = .ok (.aload_n 0, 1) := by decide +kernel
theorem dX12_knocked_81 : decode cX12_knocked 81 = .ok (.getfield 160, 3) := by decide +kernel
theorem dX12_knocked_84 : decode cX12_knocked 84 = .ok (.iload_n 1, 1) := by decide +kernel
theorem dX12_knocked_85 : decode cX12_knocked 85 = .ok (.laload, 1) := by decide +kernel
theorem dX12_knocked_86 : decode cX12_knocked 86 = .ok (.lreturn, 1) := by decide +kernel
def fX12_knocked (a1 : Int32) (a2 : Int32) (h : Hp) : Option (Int64 × Hp) := lb (sI h 12 0 0 0) (fun h1 => br ((gI h1 12 0 56) = 0) (some ((-2), h1)) (br ((fX12_isHouse a1 h1) = 0) (some ((-2), h1)) (br ((fX12_in a2.toInt64 0 2 h1) = 0) (some ((-2), h1)) (br (a2 = 2) (some (gJ h1 12 0 61, h1)) (br (a1 < (gI h1 12 0 60)) (br (a2 = 0) (gd (ib a1 12) (some ((gI h1 96 0 (ix a1)).toInt64, h1))) (gd (ib a1 12) (some (gJ h1 98 0 (ix a1), h1)))) (br (a2 = 0) (some ((-1), h1)) (some (0, h1))))))))
set_option maxRecDepth 20000 in
theorem tX12_knocked {X : Cz} {a1 : Int32} {a2 : Int32} {h hE : Hp} {rE : Int64} (hF : fX12_knocked a1 a2 h = some (rE, hE)) : Ct X mX12_knocked true [zr 12 0, zi a1, zi a2] h (some (zj rE)) hE := by
  refine Ct_of (by decide) (Nat.le_of_ble_eq_true rfl) (ls := [(0, zr 12 0), (1, zi a1), (2, zi a2)]) rfl ?_
  unfold fX12_knocked at hF
  refine v_aload_n (j := 0) dX12_knocked_0 rfl ?_
  refine v_iconst (v := 0) dX12_knocked_1 (by decide) ?_
  refine v_putI (c := 12) rfl rfl (Nat.le_of_ble_eq_true rfl) cz12 flX12_208 dX12_knocked_2 ?_
  refine v_toph fun h1 eh1 => ?_
  replace hF := lb_use eh1 hF
  clear eh1
  refine v_aload_n (j := 0) dX12_knocked_5 rfl ?_
  refine v_getI (c := 12) rfl (Or.inr rfl) cz12 flX12_388 dX12_knocked_6 ?_
  refine v_if_eq dX12_knocked_9 (by decide : _ = ((32 : Nat) : Int)) (fun q => ?_) (fun q => ?_)
  · replace hF := brT q hF
    refine v_ldc2 dX12_knocked_32 kcX12_392 ?_
    obtain ⟨rfl, rfl⟩ := ret_use hF
    exact v_lret rfl dX12_knocked_35
  · replace hF := brF q hF
    refine v_aload_n (j := 0) dX12_knocked_12 rfl ?_
    refine v_iload_n (j := 1) dX12_knocked_13 rfl ?_
    refine v_cV (hm := h1) (av := [zi a1]) (st := []) (stn := [zi (fX12_isHouse a1 h1)]) (tX12_isHouse a1 h1) lcX12_isHouse mlX12_298 imX12_isHouse seX12_isHouse rfl rfl rfl rfl ⟨by decide, by decide⟩ (Nat.le_of_ble_eq_true rfl) dX12_knocked_14 rfl rfl ?_
    refine v_if_eq dX12_knocked_17 (by decide : _ = ((32 : Nat) : Int)) (fun q => ?_) (fun q => ?_)
    · replace hF := brT q hF
      refine v_ldc2 dX12_knocked_32 kcX12_392 ?_
      obtain ⟨rfl, rfl⟩ := ret_use hF
      exact v_lret rfl dX12_knocked_35
    · replace hF := brF q hF
      refine v_iload_n (j := 2) dX12_knocked_20 rfl ?_
      refine v_i2l dX12_knocked_21 ?_
      refine v_lconst (v := 0) dX12_knocked_22 (by decide) ?_
      refine v_ldc2 dX12_knocked_23 kcX12_233 ?_
      refine v_cS (hm := h1) (av := [zj a2.toInt64, zj 0, zj 2]) (st := []) (stn := [zi (fX12_in a2.toInt64 0 2 h1)]) (tX12_in a2.toInt64 0 2 h1) lcX12_in mlX12_213 sxX12_in rfl ⟨by decide, by decide⟩ (Nat.le_of_ble_eq_true rfl) dX12_knocked_26 rfl rfl ?_
      refine v_if_ne dX12_knocked_29 (by decide : _ = ((36 : Nat) : Int)) (fun q => ?_) (fun q => ?_)
      · replace hF := brF q hF
        refine v_iload_n (j := 2) dX12_knocked_36 rfl ?_
        refine v_iconst (v := 2) dX12_knocked_37 (by decide) ?_
        refine v_icmp_ne dX12_knocked_38 (by decide : _ = ((46 : Nat) : Int)) (fun q => ?_) (fun q => ?_)
        · replace hF := brF q hF
          refine v_iload_n (j := 1) dX12_knocked_46 rfl ?_
          refine v_aload_n (j := 0) dX12_knocked_47 rfl ?_
          refine v_getI (c := 12) rfl (Or.inl rfl) cz12 flX12_385 dX12_knocked_48 ?_
          refine v_icmp_lt dX12_knocked_51 (by decide : _ = ((66 : Nat) : Int)) (fun q => ?_) (fun q => ?_)
          · replace hF := brT q hF
            refine v_iload_n (j := 2) dX12_knocked_66 rfl ?_
            refine v_if_ne dX12_knocked_67 (by decide : _ = ((80 : Nat) : Int)) (fun q => ?_) (fun q => ?_)
            · replace hF := brF q hF
              refine v_aload_n (j := 0) dX12_knocked_80 rfl ?_
              refine v_getL (c := 12) rfl rfl rfl ly12_59 cz12 flX12_160 dX12_knocked_81 ?_
              refine v_iload_n (j := 1) dX12_knocked_84 rfl ?_
              replace hF := gd_use hF
              obtain ⟨q2, hF⟩ := hF
              refine v_lald rfl q2 dX12_knocked_85 ?_
              obtain ⟨rfl, rfl⟩ := ret_use hF
              exact v_lret rfl dX12_knocked_86
            · replace hF := brT (Decidable.not_not.mp q) hF
              refine v_aload_n (j := 0) dX12_knocked_70 rfl ?_
              refine v_getL (c := 12) rfl rfl rfl ly12_57 cz12 flX12_154 dX12_knocked_71 ?_
              refine v_iload_n (j := 1) dX12_knocked_74 rfl ?_
              replace hF := gd_use hF
              obtain ⟨q3, hF⟩ := hF
              refine v_iald rfl q3 dX12_knocked_75 ?_
              refine v_i2l dX12_knocked_76 ?_
              refine v_goto (tgt := 86) dX12_knocked_77 (by decide) ?_
              obtain ⟨rfl, rfl⟩ := ret_use hF
              exact v_lret rfl dX12_knocked_86
          · replace hF := brF q hF
            refine v_iload_n (j := 2) dX12_knocked_54 rfl ?_
            refine v_if_ne dX12_knocked_55 (by decide : _ = ((64 : Nat) : Int)) (fun q => ?_) (fun q => ?_)
            · replace hF := brF q hF
              refine v_lconst (v := 0) dX12_knocked_64 (by decide) ?_
              obtain ⟨rfl, rfl⟩ := ret_use hF
              exact v_lret rfl dX12_knocked_65
            · replace hF := brT (Decidable.not_not.mp q) hF
              refine v_ldc2 dX12_knocked_58 kcX12_370 ?_
              refine v_goto (tgt := 65) dX12_knocked_61 (by decide) ?_
              obtain ⟨rfl, rfl⟩ := ret_use hF
              exact v_lret rfl dX12_knocked_65
        · replace hF := brT (Decidable.not_not.mp q) hF
          refine v_aload_n (j := 0) dX12_knocked_41 rfl ?_
          refine v_getJ (c := 12) rfl rfl cz12 flX12_382 dX12_knocked_42 ?_
          obtain ⟨rfl, rfl⟩ := ret_use hF
          exact v_lret rfl dX12_knocked_45
      · replace hF := brT (Decidable.not_not.mp q) hF
        refine v_ldc2 dX12_knocked_32 kcX12_392 ?_
        obtain ⟨rfl, rfl⟩ := ret_use hF
        exact v_lret rfl dX12_knocked_35
theorem dX12_isFree_0 : decode cX12_isFree 0 = .ok (.iload_n 2, 1) := by decide +kernel
theorem dX12_isFree_1 : decode cX12_isFree 1 = .ok (.istore 5, 2) := by decide +kernel
theorem dX12_isFree_3 : decode cX12_isFree 3 = .ok (.iload 5, 2) := by decide +kernel
theorem dX12_isFree_5 : decode cX12_isFree 5 = .ok (.iload_n 2, 1) := by decide +kernel
theorem dX12_isFree_6 : decode cX12_isFree 6 = .ok (.iload_n 3, 1) := by decide +kernel
theorem dX12_isFree_7 : decode cX12_isFree 7 = .ok (.iadd, 1) := by decide +kernel
theorem dX12_isFree_8 : decode cX12_isFree 8 = .ok (.if_icmp .ge 43, 3) := by decide +kernel
theorem dX12_isFree_11 : decode cX12_isFree 11 = .ok (.aload_n 0, 1) := by decide +kernel
theorem dX12_isFree_12 : decode cX12_isFree 12 = .ok (.getfield 184, 3) := by decide +kernel
theorem dX12_isFree_15 : decode cX12_isFree 15 = .ok (.bipush 32, 2) := by decide +kernel
theorem dX12_isFree_17 : decode cX12_isFree 17 = .ok (.iload_n 1, 1) := by decide +kernel
theorem dX12_isFree_18 : decode cX12_isFree 18 = .ok (.imul, 1) := by decide +kernel
theorem dX12_isFree_19 : decode cX12_isFree 19 = .ok (.iload 5, 2) := by decide +kernel
theorem dX12_isFree_21 : decode cX12_isFree 21 = .ok (.iadd, 1) := by decide +kernel
theorem dX12_isFree_22 : decode cX12_isFree 22 = .ok (.baload, 1) := by decide +kernel
theorem dX12_isFree_23 : decode cX12_isFree 23 = .ok (.ifCond .ne 20, 3) := by decide +kernel
theorem dX12_isFree_26 : decode cX12_isFree 26 = .ok (.aload_n 0, 1) := by decide +kernel
theorem dX12_isFree_27 : decode cX12_isFree 27 = .ok (.getfield 181, 3) := by decide +kernel
theorem dX12_isFree_30 : decode cX12_isFree 30 = .ok (.bipush 32, 2) := by decide +kernel
theorem dX12_isFree_32 : decode cX12_isFree 32 = .ok (.iload_n 1, 1) := by decide +kernel
theorem dX12_isFree_33 : decode cX12_isFree 33 = .ok (.imul, 1) := by decide +kernel
theorem dX12_isFree_34 : decode cX12_isFree 34 = .ok (.iload 5, 2) := by decide +kernel
theorem dX12_isFree_36 : decode cX12_isFree 36 = .ok (.iadd, 1) := by decide +kernel
theorem dX12_isFree_37 : decode cX12_isFree 37 = .ok (.iaload, 1) := by decide +kernel
theorem dX12_isFree_38 : decode cX12_isFree 38 = .ok (.iload 4, 2) := by decide +kernel
theorem dX12_isFree_40 : decode cX12_isFree 40 = .ok (.if_icmp .eq 5, 3) := by decide +kernel
theorem dX12_isFree_43 : decode cX12_isFree 43 = .ok (.iconst 0, 1) := by decide +kernel
theorem dX12_isFree_44 : decode cX12_isFree 44 = .ok (.ireturn, 1) := by decide +kernel
theorem dX12_isFree_45 : decode cX12_isFree 45 = .ok (.iinc 5 1, 3) := by decide +kernel
theorem dX12_isFree_48 : decode cX12_isFree 48 = .ok (.goto (-45), 3) := by decide +kernel
theorem dX12_isFree_51 : decode cX12_isFree 51 = .ok (.iconst 1, 1) := by decide +kernel
theorem dX12_isFree_52 : decode cX12_isFree 52 = .ok (.ireturn, 1) := by decide +kernel
def fX12_isFree_L3 : Nat → Int32 → Int32 → Int32 → Int32 → Int32 → Hp → Option ((Int32 ⊕ Int32) × Hp)
  | 0, _, _, _, _, _, _ => none
  | n + 1, a1, a2, a3, a4, a5, h => br ((a2 + a3) ≤ a5) (some (.inr (a5), h)) (gd (ib (((32 : Int32) * a1) + a5) 256) (br ((gI h 106 0 (ix (((32 : Int32) * a1) + a5))) = 0) (gd (ib (((32 : Int32) * a1) + a5) 256) (br ((gI h 105 0 (ix (((32 : Int32) * a1) + a5))) = a4) (lb (a5 + 1) (fun v3 => fX12_isFree_L3 n a1 a2 a3 a4 v3 h)) (some (.inl 0, h)))) (some (.inl 0, h))))
def fX12_isFree (a1 : Int32) (a2 : Int32) (a3 : Int32) (a4 : Int32) (h : Hp) : Option (Int32 × Hp) := bd (fX12_isFree_L3 FU a1 a2 a3 a4 a2 h) (fun u7 h4 => ms u7 (fun r8 => some (r8, h4)) (fun v6 => some (1, h4)))
set_option maxRecDepth 20000 in
theorem tX12_isFree_L3 {X : Cz} {h0 : Hp} {r : Option AV} {hE : Hp} : ∀ (n : Nat) (a1 : Int32) (a2 : Int32) (a3 : Int32) (a4 : Int32) (a5 : Int32) (h : Hp) (z : (Int32 ⊕ Int32) × Hp), fX12_isFree_L3 n a1 a2 a3 a4 a5 h = some z → lk z r hE (fun v => some (zi v)) (fun t hx => V X mX12_isFree true h0 51 [(0, zr 12 0), (1, zi a1), (2, zi a2), (3, zi a3), (4, zi a4), (5, zi t)] [] hx r hE) → V X mX12_isFree true h0 3 [(0, zr 12 0), (1, zi a1), (2, zi a2), (3, zi a3), (4, zi a4), (5, zi a5)] [] h r hE := by
  intro n
  induction n with
  | zero => intro a1 a2 a3 a4 a5 h z hF k; cases hF
  | succ n ih =>
    intro a1 a2 a3 a4 a5 h z hF k
    rw [fX12_isFree_L3] at hF
    refine v_iload (j := 5) dX12_isFree_3 rfl ?_
    refine v_iload_n (j := 2) dX12_isFree_5 rfl ?_
    refine v_iload_n (j := 3) dX12_isFree_6 rfl ?_
    refine v_iadd dX12_isFree_7 ?_
    refine v_icmp_ge dX12_isFree_8 (by decide : _ = ((51 : Nat) : Int)) (fun q => ?_) (fun q => ?_)
    · replace hF := brT q hF
      cases hF
      exact k
    · replace hF := brF q hF
      refine v_aload_n (j := 0) dX12_isFree_11 rfl ?_
      refine v_getL (c := 12) rfl rfl rfl ly12_69 cz12 flX12_184 dX12_isFree_12 ?_
      refine v_bipush (v := 32) dX12_isFree_15 (by decide) ?_
      refine v_iload_n (j := 1) dX12_isFree_17 rfl ?_
      refine v_imul dX12_isFree_18 ?_
      refine v_iload (j := 5) dX12_isFree_19 rfl ?_
      refine v_iadd dX12_isFree_21 ?_
      replace hF := gd_use hF
      obtain ⟨q1, hF⟩ := hF
      refine v_zald rfl q1 dX12_isFree_22 ?_
      refine v_if_ne dX12_isFree_23 (by decide : _ = ((43 : Nat) : Int)) (fun q => ?_) (fun q => ?_)
      · replace hF := brF q hF
        refine v_iconst (v := 0) dX12_isFree_43 (by decide) ?_
        cases hF
        obtain ⟨rfl, rfl⟩ := (k : _ ∧ _)
        exact v_zret rfl (Or.inl rfl) dX12_isFree_44
      · replace hF := brT (Decidable.not_not.mp q) hF
        refine v_aload_n (j := 0) dX12_isFree_26 rfl ?_
        refine v_getL (c := 12) rfl rfl rfl ly12_68 cz12 flX12_181 dX12_isFree_27 ?_
        refine v_bipush (v := 32) dX12_isFree_30 (by decide) ?_
        refine v_iload_n (j := 1) dX12_isFree_32 rfl ?_
        refine v_imul dX12_isFree_33 ?_
        refine v_iload (j := 5) dX12_isFree_34 rfl ?_
        refine v_iadd dX12_isFree_36 ?_
        replace hF := gd_use hF
        obtain ⟨q2, hF⟩ := hF
        refine v_iald rfl q2 dX12_isFree_37 ?_
        refine v_iload (j := 4) dX12_isFree_38 rfl ?_
        refine v_icmp_eq dX12_isFree_40 (by decide : _ = ((45 : Nat) : Int)) (fun q => ?_) (fun q => ?_)
        · replace hF := brT q hF
          obtain ⟨v3, ev3⟩ : ∃ y : Int32, y = a5 + 1 := ⟨_, rfl⟩
          replace hF := lb_use ev3 hF
          refine v_iinc (j := 5) (v := v3) (ls' := [(5, zi v3), (0, zr 12 0), (1, zi a1), (2, zi a2), (3, zi a3), (4, zi a4)]) dX12_isFree_45 rfl (by rw [ev3]; rfl) (by decide) rfl ?_
          clear ev3
          refine v_goto (tgt := 3) dX12_isFree_48 (by decide) ?_
          refine v_sub [1, 2, 3, 4, 5, 0] rfl ?_
          exact ih a1 a2 a3 a4 v3 h _ hF k
        · replace hF := brF q hF
          refine v_iconst (v := 0) dX12_isFree_43 (by decide) ?_
          cases hF
          obtain ⟨rfl, rfl⟩ := (k : _ ∧ _)
          exact v_zret rfl (Or.inl rfl) dX12_isFree_44
set_option maxRecDepth 20000 in
theorem tX12_isFree {X : Cz} {a1 : Int32} {a2 : Int32} {a3 : Int32} {a4 : Int32} {h hE : Hp} {rE : Int32} (hF : fX12_isFree a1 a2 a3 a4 h = some (rE, hE)) : Ct X mX12_isFree true [zr 12 0, zi a1, zi a2, zi a3, zi a4] h (some (zi rE)) hE := by
  refine Ct_of (by decide) (Nat.le_of_ble_eq_true rfl) (ls := [(0, zr 12 0), (1, zi a1), (2, zi a2), (3, zi a3), (4, zi a4)]) rfl ?_
  unfold fX12_isFree at hF
  refine v_iload_n (j := 2) dX12_isFree_0 rfl ?_
  refine v_istore (ls' := [(5, zi a2), (0, zr 12 0), (1, zi a1), (2, zi a2), (3, zi a3), (4, zi a4)]) dX12_isFree_1 (by decide) rfl ?_
  refine v_sub [1, 2, 3, 4, 5, 0] rfl ?_
  replace hF := bd_use hF
  obtain ⟨u7, h4, ev6, hF⟩ := hF
  rcases u7 with r8 | v6
  · obtain ⟨rfl, rfl⟩ := ret_use hF
    exact tX12_isFree_L3 _ a1 a2 a3 a4 a2 h _ ev6 ⟨rfl, rfl⟩
  replace hF := msR hF
  refine tX12_isFree_L3 _ a1 a2 a3 a4 a2 h _ ev6 ?_
  clear ev6
  refine v_iconst (v := 1) dX12_isFree_51 (by decide) ?_
  obtain ⟨rfl, rfl⟩ := ret_use hF
  exact v_zret rfl (Or.inr rfl) dX12_isFree_52
theorem dX12_takes_0 : decode cX12_takes 0 = .ok (.aload_n 0, 1) := by decide +kernel
theorem dX12_takes_1 : decode cX12_takes 1 = .ok (.getfield 163, 3) := by decide +kernel
theorem dX12_takes_4 : decode cX12_takes 4 = .ok (.iload_n 1, 1) := by decide +kernel
theorem dX12_takes_5 : decode cX12_takes 5 = .ok (.iload_n 2, 1) := by decide +kernel
theorem dX12_takes_6 : decode cX12_takes 6 = .ok (.iastore, 1) := by decide +kernel
theorem dX12_takes_7 : decode cX12_takes 7 = .ok (.aload_n 0, 1) := by decide +kernel
theorem dX12_takes_8 : decode cX12_takes 8 = .ok (.getfield 166, 3) := by decide +kernel
theorem dX12_takes_11 : decode cX12_takes 11 = .ok (.iload_n 1, 1) := by decide +kernel
theorem dX12_takes_12 : decode cX12_takes 12 = .ok (.iload_n 3, 1) := by decide +kernel
theorem dX12_takes_13 : decode cX12_takes 13 = .ok (.iastore, 1) := by decide +kernel
theorem dX12_takes_14 : decode cX12_takes 14 = .ok (.aload_n 0, 1) := by decide +kernel
theorem dX12_takes_15 : decode cX12_takes 15 = .ok (.getfield 169, 3) := by decide +kernel
theorem dX12_takes_18 : decode cX12_takes 18 = .ok (.iload_n 1, 1) := by decide +kernel
theorem dX12_takes_19 : decode cX12_takes 19 = .ok (.aload_n 0, 1) := by decide +kernel
theorem dX12_takes_20 : decode cX12_takes 20 = .ok (.iload_n 2, 1) := by decide +kernel
theorem dX12_takes_21 : decode cX12_takes 21 = .ok (.iload_n 3, 1) := by decide +kernel
theorem dX12_takes_22 : decode cX12_takes 22 = .ok (.aload_n 0, 1) := by decide +kernel
theorem dX12_takes_23 : decode cX12_takes 23 = .ok (.getfield 64, 3) := by decide +kernel
theorem dX12_takes_26 : decode cX12_takes 26 = .ok (.iload_n 1, 1) := by decide +kernel
theorem dX12_takes_27 : decode cX12_takes 27 = .ok (.iaload, 1) := by decide +kernel
theorem dX12_takes_28 : decode cX12_takes 28 = .ok (.aload_n 0, 1) := by decide +kernel
theorem dX12_takes_29 : decode cX12_takes 29 = .ok (.getfield 67, 3) := by decide +kernel
theorem dX12_takes_32 : decode cX12_takes 32 = .ok (.iload_n 1, 1) := by decide +kernel
theorem dX12_takes_33 : decode cX12_takes 33 = .ok (.iaload, 1) := by decide +kernel
theorem dX12_takes_34 : decode cX12_takes 34 = .ok (.invokevirtual 313, 3) := by decide +kernel
theorem dX12_takes_37 : decode cX12_takes 37 = .ok (.iastore, 1) := by decide +kernel
theorem dX12_takes_38 : decode cX12_takes 38 = .ok (.aload_n 0, 1) := by decide +kernel
theorem dX12_takes_39 : decode cX12_takes 39 = .ok (.getfield 178, 3) := by decide +kernel
theorem dX12_takes_42 : decode cX12_takes 42 = .ok (.iload_n 1, 1) := by decide +kernel
theorem dX12_takes_43 : decode cX12_takes 43 = .ok (.iload 4, 2) := by decide +kernel
theorem dX12_takes_45 : decode cX12_takes 45 = .ok (.bastore, 1) := by decide +kernel
theorem dX12_takes_46 : decode cX12_takes 46 = .ok (.iload_n 3, 1) := by decide +kernel
theorem dX12_takes_47 : decode cX12_takes 47 = .ok (.istore 5, 2) := by decide +kernel
theorem dX12_takes_49 : decode cX12_takes 49 = .ok (.iload 5, 2) := by decide +kernel
theorem dX12_takes_51 : decode cX12_takes 51 = .ok (.iload_n 3, 1) := by decide +kernel
theorem dX12_takes_52 : decode cX12_takes 52 = .ok (.aload_n 0, 1) := by decide +kernel
theorem dX12_takes_53 : decode cX12_takes 53 = .ok (.getfield 64, 3) := by decide +kernel
theorem dX12_takes_56 : decode cX12_takes 56 = .ok (.iload_n 1, 1) := by decide +kernel
theorem dX12_takes_57 : decode cX12_takes 57 = .ok (.iaload, 1) := by decide +kernel
theorem dX12_takes_58 : decode cX12_takes 58 = .ok (.iadd, 1) := by decide +kernel
theorem dX12_takes_59 : decode cX12_takes 59 = .ok (.if_icmp .ge 22, 3) := by decide +kernel
theorem dX12_takes_62 : decode cX12_takes 62 = .ok (.aload_n 0, 1) := by decide +kernel
theorem dX12_takes_63 : decode cX12_takes 63 = .ok (.getfield 184, 3) := by decide +kernel
theorem dX12_takes_66 : decode cX12_takes 66 = .ok (.bipush 32, 2) := by decide +kernel
theorem dX12_takes_68 : decode cX12_takes 68 = .ok (.iload_n 2, 1) := by decide +kernel
theorem dX12_takes_69 : decode cX12_takes 69 = .ok (.imul, 1) := by decide +kernel
theorem dX12_takes_70 : decode cX12_takes 70 = .ok (.iload 5, 2) := by decide +kernel
theorem dX12_takes_72 : decode cX12_takes 72 = .ok (.iadd, 1) := by decide +kernel
theorem dX12_takes_73 : decode cX12_takes 73 = .ok (.iconst 1, 1) := by decide +kernel
theorem dX12_takes_74 : decode cX12_takes 74 = .ok (.bastore, 1) := by decide +kernel
theorem dX12_takes_75 : decode cX12_takes 75 = .ok (.iinc 5 1, 3) := by decide +kernel
theorem dX12_takes_78 : decode cX12_takes 78 = .ok (.goto (-29), 3) := by decide +kernel
theorem dX12_takes_81 : decode cX12_takes 81 = .ok (.return_, 1) := by decide +kernel
def fX12_takes_L49 : Nat → Int32 → Int32 → Int32 → Int32 → Hp → Option ((Int32) × Hp)
  | 0, _, _, _, _, _ => none
  | n + 1, a1, a2, a3, a5, h => gd (ib a1 12) (br ((a3 + (gI h 66 0 (ix a1))) ≤ a5) (some ((a5), h)) (gd (ib (((32 : Int32) * a2) + a5) 256) (lb (sI h 106 0 (ix (((32 : Int32) * a2) + a5)) 1) (fun h15 => lb (a5 + 1) (fun v16 => fX12_takes_L49 n a1 a2 a3 v16 h15)))))
def fX12_takes (a1 : Int32) (a2 : Int32) (a3 : Int32) (a4 : Int32) (h : Hp) : Option (Unit × Hp) := gd (ib a1 12) (lb (sI h 99 0 (ix a1) a2) (fun h2 => gd (ib a1 12) (lb (sI h2 100 0 (ix a1) a3) (fun h4 => gd (ib a1 12) (gd (ib a1 12) (bd (fX12_worthOf a2 a3 (gI h4 66 0 (ix a1)) (gI h4 67 0 (ix a1)) h4) (fun r7 h8 => gd (ib a1 12) (lb (sI h8 101 0 (ix a1) r7) (fun h10 => gd (ib a1 12) (lb (sI h10 104 0 (ix a1) (a4 &&& 1)) (fun h12 => bd (fX12_takes_L49 FU a1 a2 a3 a3 h12) (fun v19 h17 => some ((), h17)))))))))))))
set_option maxRecDepth 20000 in
theorem tX12_takes_L49 {X : Cz} {h0 : Hp} {r : Option AV} {hE : Hp} : ∀ (n : Nat) (a1 : Int32) (a2 : Int32) (a3 : Int32) (a5 : Int32) (h : Hp) (z : (Int32) × Hp), fX12_takes_L49 n a1 a2 a3 a5 h = some z → V X mX12_takes true h0 81 [(0, zr 12 0), (1, zi a1), (2, zi a2), (3, zi a3), (5, zi z.1)] [] z.2 r hE → V X mX12_takes true h0 49 [(0, zr 12 0), (1, zi a1), (2, zi a2), (3, zi a3), (5, zi a5)] [] h r hE := by
  intro n
  induction n with
  | zero => intro a1 a2 a3 a5 h z hF k; cases hF
  | succ n ih =>
    intro a1 a2 a3 a5 h z hF k
    rw [fX12_takes_L49] at hF
    refine v_iload (j := 4) dX12_takes_49 rfl ?_
    refine v_iload_n (j := 3) dX12_takes_51 rfl ?_
    refine v_aload_n (j := 0) dX12_takes_52 rfl ?_
    refine v_getL (c := 12) rfl rfl rfl ly12_26 cz12 flX12_64 dX12_takes_53 ?_
    refine v_iload_n (j := 1) dX12_takes_56 rfl ?_
    replace hF := gd_use hF
    obtain ⟨q13, hF⟩ := hF
    refine v_iald rfl q13 dX12_takes_57 ?_
    refine v_iadd dX12_takes_58 ?_
    refine v_icmp_ge dX12_takes_59 (by decide : _ = ((81 : Nat) : Int)) (fun q => ?_) (fun q => ?_)
    · replace hF := brT q hF
      cases hF
      exact k
    · replace hF := brF q hF
      refine v_aload_n (j := 0) dX12_takes_62 rfl ?_
      refine v_getL (c := 12) rfl rfl rfl ly12_69 cz12 flX12_184 dX12_takes_63 ?_
      refine v_bipush (v := 32) dX12_takes_66 (by decide) ?_
      refine v_iload_n (j := 2) dX12_takes_68 rfl ?_
      refine v_imul dX12_takes_69 ?_
      refine v_iload (j := 4) dX12_takes_70 rfl ?_
      refine v_iadd dX12_takes_72 ?_
      refine v_iconst (v := 1) dX12_takes_73 (by decide) ?_
      replace hF := gd_use hF
      obtain ⟨q14, hF⟩ := hF
      refine v_zastL rfl q14 (Or.inr rfl) dX12_takes_74 ?_
      refine v_toph fun h15 eh15 => ?_
      replace hF := lb_use eh15 hF
      clear eh15
      obtain ⟨v16, ev16⟩ : ∃ y : Int32, y = a5 + 1 := ⟨_, rfl⟩
      replace hF := lb_use ev16 hF
      refine v_iinc (j := 4) (v := v16) (ls' := [(5, zi v16), (0, zr 12 0), (1, zi a1), (2, zi a2), (3, zi a3)]) dX12_takes_75 rfl (by rw [ev16]; rfl) (by decide) rfl ?_
      clear ev16
      refine v_goto (tgt := 49) dX12_takes_78 (by decide) ?_
      refine v_sub [1, 2, 3, 4, 0] rfl ?_
      exact ih a1 a2 a3 v16 h15 _ hF k
set_option maxRecDepth 20000 in
theorem tX12_takes {X : Cz} {a1 : Int32} {a2 : Int32} {a3 : Int32} {a4 : Int32} {h hE : Hp} {rE : Unit} (hF : fX12_takes a1 a2 a3 a4 h = some (rE, hE)) : Ct X mX12_takes true [zr 12 0, zi a1, zi a2, zi a3, zi a4] h (none) hE := by
  refine Ct_of (by decide) (Nat.le_of_ble_eq_true rfl) (ls := [(0, zr 12 0), (1, zi a1), (2, zi a2), (3, zi a3), (4, zi a4)]) rfl ?_
  unfold fX12_takes at hF
  refine v_aload_n (j := 0) dX12_takes_0 rfl ?_
  refine v_getL (c := 12) rfl rfl rfl ly12_62 cz12 flX12_163 dX12_takes_1 ?_
  refine v_iload_n (j := 1) dX12_takes_4 rfl ?_
  refine v_iload_n (j := 2) dX12_takes_5 rfl ?_
  replace hF := gd_use hF
  obtain ⟨q1, hF⟩ := hF
  refine v_iast rfl q1 dX12_takes_6 ?_
  refine v_toph fun h2 eh2 => ?_
  replace hF := lb_use eh2 hF
  clear eh2
  refine v_aload_n (j := 0) dX12_takes_7 rfl ?_
  refine v_getL (c := 12) rfl rfl rfl ly12_63 cz12 flX12_166 dX12_takes_8 ?_
  refine v_iload_n (j := 1) dX12_takes_11 rfl ?_
  refine v_iload_n (j := 3) dX12_takes_12 rfl ?_
  replace hF := gd_use hF
  obtain ⟨q3, hF⟩ := hF
  refine v_iast rfl q3 dX12_takes_13 ?_
  refine v_toph fun h4 eh4 => ?_
  replace hF := lb_use eh4 hF
  clear eh4
  refine v_aload_n (j := 0) dX12_takes_14 rfl ?_
  refine v_getL (c := 12) rfl rfl rfl ly12_64 cz12 flX12_169 dX12_takes_15 ?_
  refine v_iload_n (j := 1) dX12_takes_18 rfl ?_
  refine v_aload_n (j := 0) dX12_takes_19 rfl ?_
  refine v_iload_n (j := 2) dX12_takes_20 rfl ?_
  refine v_iload_n (j := 3) dX12_takes_21 rfl ?_
  refine v_aload_n (j := 0) dX12_takes_22 rfl ?_
  refine v_getL (c := 12) rfl rfl rfl ly12_26 cz12 flX12_64 dX12_takes_23 ?_
  refine v_iload_n (j := 1) dX12_takes_26 rfl ?_
  replace hF := gd_use hF
  obtain ⟨q5, hF⟩ := hF
  refine v_iald rfl q5 dX12_takes_27 ?_
  refine v_aload_n (j := 0) dX12_takes_28 rfl ?_
  refine v_getL (c := 12) rfl rfl rfl ly12_27 cz12 flX12_67 dX12_takes_29 ?_
  refine v_iload_n (j := 1) dX12_takes_32 rfl ?_
  replace hF := gd_use hF
  obtain ⟨q6, hF⟩ := hF
  refine v_iald rfl q6 dX12_takes_33 ?_
  replace hF := bd_use hF
  obtain ⟨r7, h8, er7, hF⟩ := hF
  refine v_cV (hm := h8) (av := [zi a2, zi a3, zi (gI h4 66 0 (ix a1)), zi (gI h4 67 0 (ix a1))]) (st := [zi a1, zr 101 0]) (stn := [zi r7, zi a1, zr 101 0]) (tX12_worthOf er7) lcX12_worthOf mlX12_313 imX12_worthOf seX12_worthOf rfl rfl rfl rfl ⟨by decide, by decide⟩ (Nat.le_of_ble_eq_true rfl) dX12_takes_34 rfl rfl ?_
  clear er7
  replace hF := gd_use hF
  obtain ⟨q9, hF⟩ := hF
  refine v_iast rfl q9 dX12_takes_37 ?_
  refine v_toph fun h10 eh10 => ?_
  replace hF := lb_use eh10 hF
  clear eh10
  refine v_aload_n (j := 0) dX12_takes_38 rfl ?_
  refine v_getL (c := 12) rfl rfl rfl ly12_67 cz12 flX12_178 dX12_takes_39 ?_
  refine v_iload_n (j := 1) dX12_takes_42 rfl ?_
  refine v_iload (j := 4) dX12_takes_43 rfl ?_
  replace hF := gd_use hF
  obtain ⟨q11, hF⟩ := hF
  refine v_zast rfl q11 dX12_takes_45 ?_
  refine v_toph fun h12 eh12 => ?_
  replace hF := lb_use eh12 hF
  clear eh12
  refine v_iload_n (j := 3) dX12_takes_46 rfl ?_
  refine v_istore (ls' := [(5, zi a3), (0, zr 12 0), (1, zi a1), (2, zi a2), (3, zi a3), (4, zi a4)]) dX12_takes_47 (by decide) rfl ?_
  refine v_sub [1, 2, 3, 4, 0] rfl ?_
  replace hF := bd_use hF
  obtain ⟨v19, h17, ev19, hF⟩ := hF
  refine tX12_takes_L49 _ a1 a2 a3 a3 h12 _ ev19 ?_
  clear ev19
  cases hF
  exact v_vret rfl dX12_takes_81
theorem dX12_byRights_0 : decode cX12_byRights 0 = .ok (.iconst (-1), 1) := by decide +kernel
theorem dX12_byRights_1 : decode cX12_byRights 1 = .ok (.istore_n 2, 1) := by decide +kernel
theorem dX12_byRights_2 : decode cX12_byRights 2 = .ok (.iconst 0, 1) := by decide +kernel
theorem dX12_byRights_3 : decode cX12_byRights 3 = .ok (.istore_n 3, 1) := by decide +kernel
theorem dX12_byRights_4 : decode cX12_byRights 4 = .ok (.iconst 0, 1) := by decide +kernel
theorem dX12_byRights_5 : decode cX12_byRights 5 = .ok (.istore 4, 2) := by decide +kernel
theorem dX12_byRights_7 : decode cX12_byRights 7 = .ok (.iload 4, 2) := by decide +kernel
theorem dX12_byRights_9 : decode cX12_byRights 9 = .ok (.aload_n 0, 1) := by decide +kernel
theorem dX12_byRights_10 : decode cX12_byRights 10 = .ok (.getfield 248, 3) := by decide +kernel
theorem dX12_byRights_13 : decode cX12_byRights 13 = .ok (.if_icmp .ge 106, 3) := by decide +kernel
theorem dX12_byRights_16 : decode cX12_byRights 16 = .ok (.iconst 0, 1) := by decide +kernel
theorem dX12_byRights_17 : decode cX12_byRights 17 = .ok (.istore 5, 2) := by decide +kernel
theorem dX12_byRights_19 : decode cX12_byRights 19 = .ok (.iload 5, 2) := by decide +kernel
theorem dX12_byRights_21 : decode cX12_byRights 21 = .ok (.aload_n 0, 1) := by decide +kernel
theorem dX12_byRights_22 : decode cX12_byRights 22 = .ok (.getfield 64, 3) := by decide +kernel
theorem dX12_byRights_25 : decode cX12_byRights 25 = .ok (.iload_n 1, 1) := by decide +kernel
theorem dX12_byRights_26 : decode cX12_byRights 26 = .ok (.iaload, 1) := by decide +kernel
theorem dX12_byRights_27 : decode cX12_byRights 27 = .ok (.iadd, 1) := by decide +kernel
theorem dX12_byRights_28 : decode cX12_byRights 28 = .ok (.aload_n 0, 1) := by decide +kernel
theorem dX12_byRights_29 : decode cX12_byRights 29 = .ok (.getfield 54, 3) := by decide +kernel
theorem dX12_byRights_32 : decode cX12_byRights 32 = .ok (.iload 4, 2) := by decide +kernel
theorem dX12_byRights_34 : decode cX12_byRights 34 = .ok (.iaload, 1) := by decide +kernel
theorem dX12_byRights_35 : decode cX12_byRights 35 = .ok (.if_icmp .gt 78, 3) := by decide +kernel
theorem dX12_byRights_38 : decode cX12_byRights 38 = .ok (.aload_n 0, 1) := by decide +kernel
theorem dX12_byRights_39 : decode cX12_byRights 39 = .ok (.iload 4, 2) := by decide +kernel
theorem dX12_byRights_41 : decode cX12_byRights 41 = .ok (.iload 5, 2) := by decide +kernel
theorem dX12_byRights_43 : decode cX12_byRights 43 = .ok (.aload_n 0, 1) := by decide +kernel
theorem dX12_byRights_44 : decode cX12_byRights 44 = .ok (.getfield 64, 3) := by decide +kernel
theorem dX12_byRights_47 : decode cX12_byRights 47 = .ok (.iload_n 1, 1) := by decide +kernel
theorem dX12_byRights_48 : decode cX12_byRights 48 = .ok (.iaload, 1) := by decide +kernel
theorem dX12_byRights_49 : decode cX12_byRights 49 = .ok (.iload_n 1, 1) := by decide +kernel
theorem dX12_byRights_50 : decode cX12_byRights 50 = .ok (.invokevirtual 394, 3) := by decide +kernel
theorem dX12_byRights_53 : decode cX12_byRights 53 = .ok (.ifCond .ne 6, 3) := by decide +kernel
theorem dX12_byRights_56 : decode cX12_byRights 56 = .ok (.goto 51, 3) := by decide +kernel
theorem dX12_byRights_59 : decode cX12_byRights 59 = .ok (.aload_n 0, 1) := by decide +kernel
theorem dX12_byRights_60 : decode cX12_byRights 60 = .ok (.iload 4, 2) := by decide +kernel
theorem dX12_byRights_62 : decode cX12_byRights 62 = .ok (.iload 5, 2) := by decide +kernel
theorem dX12_byRights_64 : decode cX12_byRights 64 = .ok (.aload_n 0, 1) := by decide +kernel
theorem dX12_byRights_65 : decode cX12_byRights 65 = .ok (.getfield 64, 3) := by decide +kernel
theorem dX12_byRights_68 : decode cX12_byRights 68 = .ok (.iload_n 1, 1) := by decide +kernel
theorem dX12_byRights_69 : decode cX12_byRights 69 = .ok (.iaload, 1) := by decide +kernel
theorem dX12_byRights_70 : decode cX12_byRights 70 = .ok (.aload_n 0, 1) := by decide +kernel
theorem dX12_byRights_71 : decode cX12_byRights 71 = .ok (.getfield 67, 3) := by decide +kernel
theorem dX12_byRights_74 : decode cX12_byRights 74 = .ok (.iload_n 1, 1) := by decide +kernel
theorem dX12_byRights_75 : decode cX12_byRights 75 = .ok (.iaload, 1) := by decide +kernel
theorem dX12_byRights_76 : decode cX12_byRights 76 = .ok (.invokevirtual 313, 3) := by decide +kernel
theorem dX12_byRights_79 : decode cX12_byRights 79 = .ok (.istore 6, 2) := by decide +kernel
theorem dX12_byRights_81 : decode cX12_byRights 81 = .ok (.iload_n 2, 1) := by decide +kernel
theorem dX12_byRights_82 : decode cX12_byRights 82 = .ok (.iconst (-1), 1) := by decide +kernel
theorem dX12_byRights_83 : decode cX12_byRights 83 = .ok (.if_icmp .eq 12, 3) := by decide +kernel
theorem dX12_byRights_86 : decode cX12_byRights 86 = .ok (.iload 6, 2) := by decide +kernel
theorem dX12_byRights_88 : decode cX12_byRights 88 = .ok (.iload_n 3, 1) := by decide +kernel
theorem dX12_byRights_89 : decode cX12_byRights 89 = .ok (.if_icmp .gt 6, 3) := by decide +kernel
theorem dX12_byRights_92 : decode cX12_byRights 92 = .ok (.goto 15, 3) := by decide +kernel
theorem dX12_byRights_95 : decode cX12_byRights 95 = .ok (.bipush 32, 2) := by decide +kernel
theorem dX12_byRights_97 : decode cX12_byRights 97 = .ok (.iload 4, 2) := by decide +kernel
theorem dX12_byRights_99 : decode cX12_byRights 99 = .ok (.imul, 1) := by decide +kernel
theorem dX12_byRights_100 : decode cX12_byRights 100 = .ok (.iload 5, 2) := by decide +kernel
theorem dX12_byRights_102 : decode cX12_byRights 102 = .ok (.iadd, 1) := by decide +kernel
theorem dX12_byRights_103 : decode cX12_byRights 103 = .ok (.istore_n 2, 1) := by decide +kernel
theorem dX12_byRights_104 : decode cX12_byRights 104 = .ok (.iload 6, 2) := by decide +kernel
theorem dX12_byRights_106 : decode cX12_byRights 106 = .ok (.istore_n 3, 1) := by decide +kernel
theorem dX12_byRights_107 : decode cX12_byRights 107 = .ok (.iinc 5 1, 3) := by decide +kernel
theorem dX12_byRights_110 : decode cX12_byRights 110 = .ok (.goto (-91), 3) := by decide +kernel
theorem dX12_byRights_113 : decode cX12_byRights 113 = .ok (.iinc 4 1, 3) := by decide +kernel
theorem dX12_byRights_116 : decode cX12_byRights 116 = .ok (.goto (-109), 3) := by decide +kernel
theorem dX12_byRights_119 : decode cX12_byRights 119 = .ok (.iload_n 2, 1) := by decide +kernel
theorem dX12_byRights_120 : decode cX12_byRights 120 = .ok (.iconst (-1), 1) := by decide +kernel
theorem dX12_byRights_121 : decode cX12_byRights 121 = .ok (.if_icmp .eq 17, 3) := by decide +kernel
theorem dX12_byRights_124 : decode cX12_byRights 124 = .ok (.aload_n 0, 1) := by decide +kernel
theorem dX12_byRights_125 : decode cX12_byRights 125 = .ok (.iload_n 1, 1) := by decide +kernel
theorem dX12_byRights_126 : decode cX12_byRights 126 = .ok (.iload_n 2, 1) := by decide +kernel
theorem dX12_byRights_127 : decode cX12_byRights 127 = .ok (.bipush 32, 2) := by decide +kernel
theorem dX12_byRights_129 : decode cX12_byRights 129 = .ok (.idiv, 1) := by decide +kernel
theorem dX12_byRights_130 : decode cX12_byRights 130 = .ok (.iload_n 2, 1) := by decide +kernel
theorem dX12_byRights_131 : decode cX12_byRights 131 = .ok (.bipush 32, 2) := by decide +kernel
theorem dX12_byRights_133 : decode cX12_byRights 133 = .ok (.irem, 1) := by decide +kernel
theorem dX12_byRights_134 : decode cX12_byRights 134 = .ok (.iconst 1, 1) := by decide +kernel
theorem dX12_byRights_135 : decode cX12_byRights 135 = .ok (.invokevirtual 398, 3) := by decide +kernel
theorem dX12_byRights_138 : decode cX12_byRights 138 = .ok (.return_, 1) := by decide +kernel
def fX12_byRights_L19 : Nat → Int32 → Int32 → Int32 → Int32 → Int32 → Hp → Option ((Int32 × Int32 × Int32) × Hp)
  | 0, _, _, _, _, _, _ => none
  | n + 1, a1, a2, a3, a4, a5, h => gd (ib a1 12) (gd (ib a4 8) (br ((gI h 63 0 (ix a4)) < (a5 + (gI h 66 0 (ix a1)))) (some ((a2, a3, a5), h)) (gd (ib a1 12) (bd (fX12_isFree a4 a5 (gI h 66 0 (ix a1)) a1 h) (fun r4 h5 => br (r4 = 0) (lb (a5 + 1) (fun v15 => fX12_byRights_L19 n a1 a2 a3 a4 v15 h5)) (gd (ib a1 12) (gd (ib a1 12) (bd (fX12_worthOf a4 a5 (gI h5 66 0 (ix a1)) (gI h5 67 0 (ix a1)) h5) (fun r8 h9 => lb (fun (h11 : Hp) => lb (((32 : Int32) * a4) + a5) (fun v12 => lb (a5 + 1) (fun v13 => fX12_byRights_L19 n a1 v12 r8 a4 v13 h11))) (fun j10 => br (a2 = (-1)) (j10 h9) (br (a3 < r8) (j10 h9) (lb (a5 + 1) (fun v14 => fX12_byRights_L19 n a1 a2 a3 a4 v14 h9)))))))))))))
def fX12_byRights_L7 : Nat → Int32 → Int32 → Int32 → Int32 → Hp → Option ((Int32 × Int32 × Int32) × Hp)
  | 0, _, _, _, _, _ => none
  | n + 1, a1, a2, a3, a4, h => br ((gI h 12 0 7) ≤ a4) (some ((a2, a3, a4), h)) (bd (fX12_byRights_L19 FU a1 a2 a3 a4 0 h) (fun t17 h16 => lb t17.1 (fun v18 => lb t17.2.1 (fun v19 => lb t17.2.2 (fun v20 => lb (a4 + 1) (fun v21 => fX12_byRights_L7 n a1 v18 v19 v21 h16))))))
def fX12_byRights (a1 : Int32) (h : Hp) : Option (Unit × Hp) := bd (fX12_byRights_L7 FU a1 (-1) 0 0 h) (fun t23 h22 => lb t23.1 (fun v24 => lb t23.2.1 (fun v25 => lb t23.2.2 (fun v26 => br (v24 = (-1)) (some ((), h22)) (bd (fX12_takes a1 (v24 / 32) (v24 - v24 / 32 * 32) 1 h22) (fun r27 h28 => some ((), h28)))))))
set_option maxRecDepth 20000 in
theorem tX12_byRights_L19 {X : Cz} {h0 : Hp} {r : Option AV} {hE : Hp} : ∀ (n : Nat) (a1 : Int32) (a2 : Int32) (a3 : Int32) (a4 : Int32) (a5 : Int32) (h : Hp) (z : (Int32 × Int32 × Int32) × Hp), fX12_byRights_L19 n a1 a2 a3 a4 a5 h = some z → V X mX12_byRights true h0 113 [(0, zr 12 0), (1, zi a1), (2, zi z.1.1), (3, zi z.1.2.1), (4, zi a4), (5, zi z.1.2.2)] [] z.2 r hE → V X mX12_byRights true h0 19 [(0, zr 12 0), (1, zi a1), (2, zi a2), (3, zi a3), (4, zi a4), (5, zi a5)] [] h r hE := by
  intro n
  induction n with
  | zero => intro a1 a2 a3 a4 a5 h z hF k; cases hF
  | succ n ih =>
    intro a1 a2 a3 a4 a5 h z hF k
    rw [fX12_byRights_L19] at hF
    refine v_iload (j := 5) dX12_byRights_19 rfl ?_
    refine v_aload_n (j := 0) dX12_byRights_21 rfl ?_
    refine v_getL (c := 12) rfl rfl rfl ly12_26 cz12 flX12_64 dX12_byRights_22 ?_
    refine v_iload_n (j := 1) dX12_byRights_25 rfl ?_
    replace hF := gd_use hF
    obtain ⟨q1, hF⟩ := hF
    refine v_iald rfl q1 dX12_byRights_26 ?_
    refine v_iadd dX12_byRights_27 ?_
    refine v_aload_n (j := 0) dX12_byRights_28 rfl ?_
    refine v_getL (c := 12) rfl rfl rfl ly12_23 cz12 flX12_54 dX12_byRights_29 ?_
    refine v_iload (j := 4) dX12_byRights_32 rfl ?_
    replace hF := gd_use hF
    obtain ⟨q2, hF⟩ := hF
    refine v_iald rfl q2 dX12_byRights_34 ?_
    refine v_icmp_gt dX12_byRights_35 (by decide : _ = ((113 : Nat) : Int)) (fun q => ?_) (fun q => ?_)
    · replace hF := brT q hF
      cases hF
      exact k
    · replace hF := brF q hF
      refine v_aload_n (j := 0) dX12_byRights_38 rfl ?_
      refine v_iload (j := 4) dX12_byRights_39 rfl ?_
      refine v_iload (j := 5) dX12_byRights_41 rfl ?_
      refine v_aload_n (j := 0) dX12_byRights_43 rfl ?_
      refine v_getL (c := 12) rfl rfl rfl ly12_26 cz12 flX12_64 dX12_byRights_44 ?_
      refine v_iload_n (j := 1) dX12_byRights_47 rfl ?_
      replace hF := gd_use hF
      obtain ⟨q3, hF⟩ := hF
      refine v_iald rfl q3 dX12_byRights_48 ?_
      refine v_iload_n (j := 1) dX12_byRights_49 rfl ?_
      replace hF := bd_use hF
      obtain ⟨r4, h5, er4, hF⟩ := hF
      refine v_cV (hm := h5) (av := [zi a4, zi a5, zi (gI h 66 0 (ix a1)), zi a1]) (st := []) (stn := [zi r4]) (tX12_isFree er4) lcX12_isFree mlX12_394 imX12_isFree seX12_isFree rfl rfl rfl rfl ⟨by decide, by decide⟩ (Nat.le_of_ble_eq_true rfl) dX12_byRights_50 rfl rfl ?_
      clear er4
      refine v_if_ne dX12_byRights_53 (by decide : _ = ((59 : Nat) : Int)) (fun q => ?_) (fun q => ?_)
      · replace hF := brF q hF
        refine v_aload_n (j := 0) dX12_byRights_59 rfl ?_
        refine v_iload (j := 4) dX12_byRights_60 rfl ?_
        refine v_iload (j := 5) dX12_byRights_62 rfl ?_
        refine v_aload_n (j := 0) dX12_byRights_64 rfl ?_
        refine v_getL (c := 12) rfl rfl rfl ly12_26 cz12 flX12_64 dX12_byRights_65 ?_
        refine v_iload_n (j := 1) dX12_byRights_68 rfl ?_
        replace hF := gd_use hF
        obtain ⟨q6, hF⟩ := hF
        refine v_iald rfl q6 dX12_byRights_69 ?_
        refine v_aload_n (j := 0) dX12_byRights_70 rfl ?_
        refine v_getL (c := 12) rfl rfl rfl ly12_27 cz12 flX12_67 dX12_byRights_71 ?_
        refine v_iload_n (j := 1) dX12_byRights_74 rfl ?_
        replace hF := gd_use hF
        obtain ⟨q7, hF⟩ := hF
        refine v_iald rfl q7 dX12_byRights_75 ?_
        replace hF := bd_use hF
        obtain ⟨r8, h9, er8, hF⟩ := hF
        refine v_cV (hm := h9) (av := [zi a4, zi a5, zi (gI h5 66 0 (ix a1)), zi (gI h5 67 0 (ix a1))]) (st := []) (stn := [zi r8]) (tX12_worthOf er8) lcX12_worthOf mlX12_313 imX12_worthOf seX12_worthOf rfl rfl rfl rfl ⟨by decide, by decide⟩ (Nat.le_of_ble_eq_true rfl) dX12_byRights_76 rfl rfl ?_
        clear er8
        refine v_istore (ls' := [(6, zi r8), (0, zr 12 0), (1, zi a1), (2, zi a2), (3, zi a3), (4, zi a4), (5, zi a5)]) dX12_byRights_79 (by decide) rfl ?_
        refine v_iload_n (j := 3) dX12_byRights_81 rfl ?_
        refine v_iconst (v := (-1)) dX12_byRights_82 (by decide) ?_
        replace hF := lb_ex hF
        obtain ⟨j10, ej10, hF⟩ := hF
        have j10V : ∀ (h11 : Hp), j10 h11 = some z → V X mX12_byRights true h0 95 [(0, zr 12 0), (1, zi a1), (4, zi a4), (5, zi a5), (6, zi r8)] [] h11 r hE := by
          intro h11 hF
          subst ej10
          refine v_bipush (v := 32) dX12_byRights_95 (by decide) ?_
          refine v_iload (j := 2) dX12_byRights_97 rfl ?_
          refine v_imul dX12_byRights_99 ?_
          refine v_iload (j := 3) dX12_byRights_100 rfl ?_
          refine v_iadd dX12_byRights_102 ?_
          refine v_topi fun v12 ev12 => ?_
          replace hF := lb_use ev12 hF
          clear ev12
          refine v_istore_n (ls' := [(2, zi v12), (0, zr 12 0), (1, zi a1), (4, zi a4), (5, zi a5), (6, zi r8)]) dX12_byRights_103 (by decide) rfl ?_
          refine v_iload (j := 5) dX12_byRights_104 rfl ?_
          refine v_istore_n (ls' := [(3, zi r8), (2, zi v12), (0, zr 12 0), (1, zi a1), (4, zi a4), (5, zi a5), (6, zi r8)]) dX12_byRights_106 (by decide) rfl ?_
          obtain ⟨v13, ev13⟩ : ∃ y : Int32, y = a5 + 1 := ⟨_, rfl⟩
          replace hF := lb_use ev13 hF
          refine v_iinc (j := 5) (v := v13) (ls' := [(5, zi v13), (3, zi r8), (2, zi v12), (0, zr 12 0), (1, zi a1), (4, zi a4), (6, zi r8)]) dX12_byRights_107 rfl (by rw [ev13]; rfl) (by decide) rfl ?_
          clear ev13
          refine v_goto (tgt := 19) dX12_byRights_110 (by decide) ?_
          refine v_sub [3, 4, 2, 1, 5, 0] rfl ?_
          exact ih a1 v12 r8 a4 v13 h11 _ hF k
        clear ej10
        refine v_icmp_eq dX12_byRights_83 (by decide : _ = ((95 : Nat) : Int)) (fun q => ?_) (fun q => ?_)
        · replace hF := brT q hF
          refine v_sub [1, 2, 5, 6, 0] rfl ?_
          exact j10V h9 hF
        · replace hF := brF q hF
          refine v_iload (j := 0) dX12_byRights_86 rfl ?_
          refine v_iload_n (j := 4) dX12_byRights_88 rfl ?_
          refine v_icmp_gt dX12_byRights_89 (by decide : _ = ((95 : Nat) : Int)) (fun q => ?_) (fun q => ?_)
          · replace hF := brT q hF
            refine v_sub [1, 2, 5, 6, 0] rfl ?_
            exact j10V h9 hF
          · replace hF := brF q hF
            refine v_goto (tgt := 107) dX12_byRights_92 (by decide) ?_
            obtain ⟨v14, ev14⟩ : ∃ y : Int32, y = a5 + 1 := ⟨_, rfl⟩
            replace hF := lb_use ev14 hF
            refine v_iinc (j := 6) (v := v14) (ls' := [(5, zi v14), (6, zi r8), (0, zr 12 0), (1, zi a1), (2, zi a2), (3, zi a3), (4, zi a4)]) dX12_byRights_107 rfl (by rw [ev14]; rfl) (by decide) rfl ?_
            clear ev14
            refine v_goto (tgt := 19) dX12_byRights_110 (by decide) ?_
            refine v_sub [2, 3, 4, 5, 6, 0] rfl ?_
            exact ih a1 a2 a3 a4 v14 h9 _ hF k
      · replace hF := brT (Decidable.not_not.mp q) hF
        refine v_goto (tgt := 107) dX12_byRights_56 (by decide) ?_
        obtain ⟨v15, ev15⟩ : ∃ y : Int32, y = a5 + 1 := ⟨_, rfl⟩
        replace hF := lb_use ev15 hF
        refine v_iinc (j := 5) (v := v15) (ls' := [(5, zi v15), (0, zr 12 0), (1, zi a1), (2, zi a2), (3, zi a3), (4, zi a4)]) dX12_byRights_107 rfl (by rw [ev15]; rfl) (by decide) rfl ?_
        clear ev15
        refine v_goto (tgt := 19) dX12_byRights_110 (by decide) ?_
        refine v_sub [1, 2, 3, 4, 5, 0] rfl ?_
        exact ih a1 a2 a3 a4 v15 h5 _ hF k
set_option maxRecDepth 20000 in
theorem tX12_byRights_L7 {X : Cz} {h0 : Hp} {r : Option AV} {hE : Hp} : ∀ (n : Nat) (a1 : Int32) (a2 : Int32) (a3 : Int32) (a4 : Int32) (h : Hp) (z : (Int32 × Int32 × Int32) × Hp), fX12_byRights_L7 n a1 a2 a3 a4 h = some z → V X mX12_byRights true h0 119 [(0, zr 12 0), (1, zi a1), (2, zi z.1.1), (3, zi z.1.2.1), (4, zi z.1.2.2)] [] z.2 r hE → V X mX12_byRights true h0 7 [(0, zr 12 0), (1, zi a1), (2, zi a2), (3, zi a3), (4, zi a4)] [] h r hE := by
  intro n
  induction n with
  | zero => intro a1 a2 a3 a4 h z hF k; cases hF
  | succ n ih =>
    intro a1 a2 a3 a4 h z hF k
    rw [fX12_byRights_L7] at hF
    refine v_iload (j := 4) dX12_byRights_7 rfl ?_
    refine v_aload_n (j := 0) dX12_byRights_9 rfl ?_
    refine v_getI (c := 12) rfl (Or.inl rfl) cz12 flX12_248 dX12_byRights_10 ?_
    refine v_icmp_ge dX12_byRights_13 (by decide : _ = ((119 : Nat) : Int)) (fun q => ?_) (fun q => ?_)
    · replace hF := brT q hF
      cases hF
      exact k
    · replace hF := brF q hF
      refine v_iconst (v := 0) dX12_byRights_16 (by decide) ?_
      refine v_istore (ls' := [(5, zi 0), (0, zr 12 0), (1, zi a1), (2, zi a2), (3, zi a3), (4, zi a4)]) dX12_byRights_17 (by decide) rfl ?_
      refine v_sub [1, 2, 3, 4, 5, 0] rfl ?_
      replace hF := bd_use hF
      obtain ⟨t17, h16, et17, hF⟩ := hF
      refine tX12_byRights_L19 _ a1 a2 a3 a4 0 h _ et17 ?_
      clear et17
      obtain ⟨v18, v19, v20⟩ := t17
      replace hF := lb_use (x := v18) rfl hF
      replace hF := lb_use (x := v19) rfl hF
      replace hF := lb_use (x := v20) rfl hF
      obtain ⟨v21, ev21⟩ : ∃ y : Int32, y = a4 + 1 := ⟨_, rfl⟩
      replace hF := lb_use ev21 hF
      refine v_iinc (j := 4) (v := v21) (ls' := [(4, zi v21), (0, zr 12 0), (1, zi a1), (2, zi v18), (3, zi v19), (5, zi v20)]) dX12_byRights_113 rfl (by rw [ev21]; rfl) (by decide) rfl ?_
      clear ev21
      refine v_goto (tgt := 7) dX12_byRights_116 (by decide) ?_
      refine v_sub [1, 2, 3, 4, 0] rfl ?_
      exact ih a1 v18 v19 v21 h16 _ hF k
set_option maxRecDepth 20000 in
theorem tX12_byRights {X : Cz} {a1 : Int32} {h hE : Hp} {rE : Unit} (hF : fX12_byRights a1 h = some (rE, hE)) : Ct X mX12_byRights true [zr 12 0, zi a1] h (none) hE := by
  refine Ct_of (by decide) (Nat.le_of_ble_eq_true rfl) (ls := [(0, zr 12 0), (1, zi a1)]) rfl ?_
  unfold fX12_byRights at hF
  refine v_iconst (v := (-1)) dX12_byRights_0 (by decide) ?_
  refine v_istore_n (ls' := [(2, zi (-1)), (0, zr 12 0), (1, zi a1)]) dX12_byRights_1 (by decide) rfl ?_
  refine v_iconst (v := 0) dX12_byRights_2 (by decide) ?_
  refine v_istore_n (ls' := [(3, zi 0), (2, zi (-1)), (0, zr 12 0), (1, zi a1)]) dX12_byRights_3 (by decide) rfl ?_
  refine v_iconst (v := 0) dX12_byRights_4 (by decide) ?_
  refine v_istore (ls' := [(4, zi 0), (3, zi 0), (2, zi (-1)), (0, zr 12 0), (1, zi a1)]) dX12_byRights_5 (by decide) rfl ?_
  refine v_sub [3, 4, 2, 1, 0] rfl ?_
  replace hF := bd_use hF
  obtain ⟨t23, h22, et23, hF⟩ := hF
  refine tX12_byRights_L7 _ a1 (-1) 0 0 h _ et23 ?_
  clear et23
  obtain ⟨v24, v25, v26⟩ := t23
  replace hF := lb_use (x := v24) rfl hF
  replace hF := lb_use (x := v25) rfl hF
  replace hF := lb_use (x := v26) rfl hF
  refine v_iload_n (j := 2) dX12_byRights_119 rfl ?_
  refine v_iconst (v := (-1)) dX12_byRights_120 (by decide) ?_
  refine v_icmp_eq dX12_byRights_121 (by decide : _ = ((138 : Nat) : Int)) (fun q => ?_) (fun q => ?_)
  · replace hF := brT q hF
    cases hF
    exact v_vret rfl dX12_byRights_138
  · replace hF := brF q hF
    refine v_aload_n (j := 0) dX12_byRights_124 rfl ?_
    refine v_iload_n (j := 1) dX12_byRights_125 rfl ?_
    refine v_iload_n (j := 2) dX12_byRights_126 rfl ?_
    refine v_bipush (v := 32) dX12_byRights_127 (by decide) ?_
    refine v_idiv dX12_byRights_129 (by decide) ?_
    refine v_iload_n (j := 2) dX12_byRights_130 rfl ?_
    refine v_bipush (v := 32) dX12_byRights_131 (by decide) ?_
    refine v_irem dX12_byRights_133 (by decide) ?_
    refine v_iconst (v := 1) dX12_byRights_134 (by decide) ?_
    replace hF := bd_use hF
    obtain ⟨r27, h28, er27, hF⟩ := hF
    refine v_cV (hm := h28) (av := [zi a1, zi (v24 / 32), zi (v24 - v24 / 32 * 32), zi 1]) (st := []) (stn := []) (tX12_takes er27) lcX12_takes mlX12_398 imX12_takes seX12_takes rfl rfl rfl rfl ⟨by decide, by decide⟩ (Nat.le_of_ble_eq_true rfl) dX12_byRights_135 rfl rfl ?_
    clear er27
    cases hF
    exact v_vret rfl dX12_byRights_138
theorem dX12_canByRank_0 : decode cX12_canByRank 0 = .ok (.iload_n 2, 1) := by decide +kernel
theorem dX12_canByRank_1 : decode cX12_canByRank 1 = .ok (.bipush 32, 2) := by decide +kernel
theorem dX12_canByRank_3 : decode cX12_canByRank 3 = .ok (.idiv, 1) := by decide +kernel
theorem dX12_canByRank_4 : decode cX12_canByRank 4 = .ok (.istore_n 3, 1) := by decide +kernel
theorem dX12_canByRank_5 : decode cX12_canByRank 5 = .ok (.iload_n 2, 1) := by decide +kernel
theorem dX12_canByRank_6 : decode cX12_canByRank 6 = .ok (.bipush 32, 2) := by decide +kernel
theorem dX12_canByRank_8 : decode cX12_canByRank 8 = .ok (.irem, 1) := by decide +kernel
theorem dX12_canByRank_9 : decode cX12_canByRank 9 = .ok (.istore 4, 2) := by decide +kernel
theorem dX12_canByRank_11 : decode cX12_canByRank 11 = .ok (.iload_n 3, 1) := by decide +kernel
theorem dX12_canByRank_12 : decode cX12_canByRank 12 = .ok (.aload_n 0, 1) := by decide +kernel
theorem dX12_canByRank_13 : decode cX12_canByRank 13 = .ok (.getfield 248, 3) := by decide +kernel
theorem dX12_canByRank_16 : decode cX12_canByRank 16 = .ok (.if_icmp .ge 64, 3) := by decide +kernel
theorem dX12_canByRank_19 : decode cX12_canByRank 19 = .ok (.iload 4, 2) := by decide +kernel
theorem dX12_canByRank_21 : decode cX12_canByRank 21 = .ok (.aload_n 0, 1) := by decide +kernel
theorem dX12_canByRank_22 : decode cX12_canByRank 22 = .ok (.getfield 64, 3) := by decide +kernel
theorem dX12_canByRank_25 : decode cX12_canByRank 25 = .ok (.iload_n 1, 1) := by decide +kernel
theorem dX12_canByRank_26 : decode cX12_canByRank 26 = .ok (.iaload, 1) := by decide +kernel
theorem dX12_canByRank_27 : decode cX12_canByRank 27 = .ok (.iadd, 1) := by decide +kernel
theorem dX12_canByRank_28 : decode cX12_canByRank 28 = .ok (.aload_n 0, 1) := by decide +kernel
theorem dX12_canByRank_29 : decode cX12_canByRank 29 = .ok (.getfield 54, 3) := by decide +kernel
theorem dX12_canByRank_32 : decode cX12_canByRank 32 = .ok (.iload_n 3, 1) := by decide +kernel
theorem dX12_canByRank_33 : decode cX12_canByRank 33 = .ok (.iaload, 1) := by decide +kernel
theorem dX12_canByRank_34 : decode cX12_canByRank 34 = .ok (.if_icmp .gt 46, 3) := by decide +kernel
theorem dX12_canByRank_37 : decode cX12_canByRank 37 = .ok (.aload_n 0, 1) := by decide +kernel
theorem dX12_canByRank_38 : decode cX12_canByRank 38 = .ok (.getfield 57, 3) := by decide +kernel
theorem dX12_canByRank_41 : decode cX12_canByRank 41 = .ok (.iload_n 3, 1) := by decide +kernel
theorem dX12_canByRank_42 : decode cX12_canByRank 42 = .ok (.baload, 1) := by decide +kernel
theorem dX12_canByRank_43 : decode cX12_canByRank 43 = .ok (.ifCond .eq 16, 3) := by decide +kernel
theorem dX12_canByRank_46 : decode cX12_canByRank 46 = .ok (.aload_n 0, 1) := by decide +kernel
theorem dX12_canByRank_47 : decode cX12_canByRank 47 = .ok (.getfield 61, 3) := by decide +kernel
theorem dX12_canByRank_50 : decode cX12_canByRank 50 = .ok (.iload_n 1, 1) := by decide +kernel
theorem dX12_canByRank_51 : decode cX12_canByRank 51 = .ok (.iaload, 1) := by decide +kernel
theorem dX12_canByRank_52 : decode cX12_canByRank 52 = .ok (.aload_n 0, 1) := by decide +kernel
theorem dX12_canByRank_53 : decode cX12_canByRank 53 = .ok (.getfield 36, 3) := by decide +kernel
theorem dX12_canByRank_56 : decode cX12_canByRank 56 = .ok (.if_icmp .ge 24, 3) := by decide +kernel
theorem dX12_canByRank_59 : decode cX12_canByRank 59 = .ok (.aload_n 0, 1) := by decide +kernel
theorem dX12_canByRank_60 : decode cX12_canByRank 60 = .ok (.iload_n 3, 1) := by decide +kernel
theorem dX12_canByRank_61 : decode cX12_canByRank 61 = .ok (.iload 4, 2) := by decide +kernel
theorem dX12_canByRank_63 : decode cX12_canByRank 63 = .ok (.aload_n 0, 1) := by decide +kernel
theorem dX12_canByRank_64 : decode cX12_canByRank 64 = .ok (.getfield 64, 3) := by decide +kernel
theorem dX12_canByRank_67 : decode cX12_canByRank 67 = .ok (.iload_n 1, 1) := by decide +kernel
theorem dX12_canByRank_68 : decode cX12_canByRank 68 = .ok (.iaload, 1) := by decide +kernel
theorem dX12_canByRank_69 : decode cX12_canByRank 69 = .ok (.iconst (-1), 1) := by decide +kernel
theorem dX12_canByRank_70 : decode cX12_canByRank 70 = .ok (.invokevirtual 394, 3) := by decide +kernel
theorem dX12_canByRank_73 : decode cX12_canByRank 73 = .ok (.ifCond .eq 7, 3) := by decide +kernel
theorem dX12_canByRank_76 : decode cX12_canByRank 76 = .ok (.iconst 1, 1) := by decide +kernel
theorem dX12_canByRank_77 : decode cX12_canByRank 77 = .ok (.goto 4, 3) := by decide +kernel
theorem dX12_canByRank_80 : decode cX12_canByRank 80 = .ok (.iconst 0, 1) := by decide +kernel
theorem dX12_canByRank_81 : decode cX12_canByRank 81 = .ok (.ireturn, 1) := by decide +kernel
def fX12_canByRank (a1 : Int32) (a2 : Int32) (h : Hp) : Option (Int32 × Hp) := lb (a2 / 32) (fun v1 => lb (a2 - a2 / 32 * 32) (fun v2 => br ((gI h 12 0 7) ≤ v1) (some (0, h)) (gd (ib a1 12) (gd (ib v1 8) (br ((gI h 63 0 (ix v1)) < (v2 + (gI h 66 0 (ix a1)))) (some (0, h)) (gd (ib v1 8) (lb (fun (h7 : Hp) => gd (ib a1 12) (bd (fX12_isFree v1 v2 (gI h7 66 0 (ix a1)) (-1) h7) (fun r9 h10 => br (r9 = 0) (some (0, h10)) (some (1, h10))))) (fun j6 => br ((gI h 64 0 (ix v1)) = 0) (j6 h) (gd (ib a1 12) (br ((gI h 12 0 17) ≤ (gI h 65 0 (ix a1))) (some (0, h)) (j6 h)))))))))))
set_option maxRecDepth 20000 in
theorem tX12_canByRank {X : Cz} {a1 : Int32} {a2 : Int32} {h hE : Hp} {rE : Int32} (hF : fX12_canByRank a1 a2 h = some (rE, hE)) : Ct X mX12_canByRank true [zr 12 0, zi a1, zi a2] h (some (zi rE)) hE := by
  refine Ct_of (by decide) (Nat.le_of_ble_eq_true rfl) (ls := [(0, zr 12 0), (1, zi a1), (2, zi a2)]) rfl ?_
  unfold fX12_canByRank at hF
  refine v_iload_n (j := 2) dX12_canByRank_0 rfl ?_
  refine v_bipush (v := 32) dX12_canByRank_1 (by decide) ?_
  refine v_idiv dX12_canByRank_3 (by decide) ?_
  refine v_topi fun v1 ev1 => ?_
  replace hF := lb_use ev1 hF
  clear ev1
  refine v_istore_n (ls' := [(3, zi v1), (0, zr 12 0), (1, zi a1), (2, zi a2)]) dX12_canByRank_4 (by decide) rfl ?_
  refine v_iload_n (j := 3) dX12_canByRank_5 rfl ?_
  refine v_bipush (v := 32) dX12_canByRank_6 (by decide) ?_
  refine v_irem dX12_canByRank_8 (by decide) ?_
  refine v_topi fun v2 ev2 => ?_
  replace hF := lb_use ev2 hF
  clear ev2
  refine v_istore (ls' := [(4, zi v2), (3, zi v1), (0, zr 12 0), (1, zi a1), (2, zi a2)]) dX12_canByRank_9 (by decide) rfl ?_
  refine v_iload_n (j := 1) dX12_canByRank_11 rfl ?_
  refine v_aload_n (j := 2) dX12_canByRank_12 rfl ?_
  refine v_getI (c := 12) rfl (Or.inl rfl) cz12 flX12_248 dX12_canByRank_13 ?_
  refine v_icmp_ge dX12_canByRank_16 (by decide : _ = ((80 : Nat) : Int)) (fun q => ?_) (fun q => ?_)
  · replace hF := brT q hF
    refine v_iconst (v := 0) dX12_canByRank_80 (by decide) ?_
    obtain ⟨rfl, rfl⟩ := ret_use hF
    exact v_zret rfl (Or.inl rfl) dX12_canByRank_81
  · replace hF := brF q hF
    refine v_iload (j := 0) dX12_canByRank_19 rfl ?_
    refine v_aload_n (j := 2) dX12_canByRank_21 rfl ?_
    refine v_getL (c := 12) rfl rfl rfl ly12_26 cz12 flX12_64 dX12_canByRank_22 ?_
    refine v_iload_n (j := 3) dX12_canByRank_25 rfl ?_
    replace hF := gd_use hF
    obtain ⟨q3, hF⟩ := hF
    refine v_iald rfl q3 dX12_canByRank_26 ?_
    refine v_iadd dX12_canByRank_27 ?_
    refine v_aload_n (j := 2) dX12_canByRank_28 rfl ?_
    refine v_getL (c := 12) rfl rfl rfl ly12_23 cz12 flX12_54 dX12_canByRank_29 ?_
    refine v_iload_n (j := 1) dX12_canByRank_32 rfl ?_
    replace hF := gd_use hF
    obtain ⟨q4, hF⟩ := hF
    refine v_iald rfl q4 dX12_canByRank_33 ?_
    refine v_icmp_gt dX12_canByRank_34 (by decide : _ = ((80 : Nat) : Int)) (fun q => ?_) (fun q => ?_)
    · replace hF := brT q hF
      refine v_iconst (v := 0) dX12_canByRank_80 (by decide) ?_
      obtain ⟨rfl, rfl⟩ := ret_use hF
      exact v_zret rfl (Or.inl rfl) dX12_canByRank_81
    · replace hF := brF q hF
      refine v_aload_n (j := 2) dX12_canByRank_37 rfl ?_
      refine v_getL (c := 12) rfl rfl rfl ly12_24 cz12 flX12_57 dX12_canByRank_38 ?_
      refine v_iload_n (j := 1) dX12_canByRank_41 rfl ?_
      replace hF := gd_use hF
      obtain ⟨q5, hF⟩ := hF
      refine v_zald rfl q5 dX12_canByRank_42 ?_
      replace hF := lb_ex hF
      obtain ⟨j6, ej6, hF⟩ := hF
      have j6V : ∀ (h7 : Hp), j6 h7 = some (rE, hE) → V X mX12_canByRank true h 59 [(0, zr 12 0), (1, zi a1), (3, zi v1), (4, zi v2)] [] h7 (some (zi rE)) hE := by
        intro h7 hF
        subst ej6
        refine v_aload_n (j := 0) dX12_canByRank_59 rfl ?_
        refine v_iload_n (j := 2) dX12_canByRank_60 rfl ?_
        refine v_iload (j := 3) dX12_canByRank_61 rfl ?_
        refine v_aload_n (j := 0) dX12_canByRank_63 rfl ?_
        refine v_getL (c := 12) rfl rfl rfl ly12_26 cz12 flX12_64 dX12_canByRank_64 ?_
        refine v_iload_n (j := 1) dX12_canByRank_67 rfl ?_
        replace hF := gd_use hF
        obtain ⟨q8, hF⟩ := hF
        refine v_iald rfl q8 dX12_canByRank_68 ?_
        refine v_iconst (v := (-1)) dX12_canByRank_69 (by decide) ?_
        replace hF := bd_use hF
        obtain ⟨r9, h10, er9, hF⟩ := hF
        refine v_cV (hm := h10) (av := [zi v1, zi v2, zi (gI h7 66 0 (ix a1)), zi (-1)]) (st := []) (stn := [zi r9]) (tX12_isFree er9) lcX12_isFree mlX12_394 imX12_isFree seX12_isFree rfl rfl rfl rfl ⟨by decide, by decide⟩ (Nat.le_of_ble_eq_true rfl) dX12_canByRank_70 rfl rfl ?_
        clear er9
        refine v_if_eq dX12_canByRank_73 (by decide : _ = ((80 : Nat) : Int)) (fun q => ?_) (fun q => ?_)
        · replace hF := brT q hF
          refine v_iconst (v := 0) dX12_canByRank_80 (by decide) ?_
          obtain ⟨rfl, rfl⟩ := ret_use hF
          exact v_zret rfl (Or.inl rfl) dX12_canByRank_81
        · replace hF := brF q hF
          refine v_iconst (v := 1) dX12_canByRank_76 (by decide) ?_
          refine v_goto (tgt := 81) dX12_canByRank_77 (by decide) ?_
          obtain ⟨rfl, rfl⟩ := ret_use hF
          exact v_zret rfl (Or.inr rfl) dX12_canByRank_81
      clear ej6
      refine v_if_eq dX12_canByRank_43 (by decide : _ = ((59 : Nat) : Int)) (fun q => ?_) (fun q => ?_)
      · replace hF := brT q hF
        refine v_sub [2, 3, 1, 0] rfl ?_
        exact j6V h hF
      · replace hF := brF q hF
        refine v_aload_n (j := 2) dX12_canByRank_46 rfl ?_
        refine v_getL (c := 12) rfl rfl rfl ly12_25 cz12 flX12_61 dX12_canByRank_47 ?_
        refine v_iload_n (j := 3) dX12_canByRank_50 rfl ?_
        replace hF := gd_use hF
        obtain ⟨q11, hF⟩ := hF
        refine v_iald rfl q11 dX12_canByRank_51 ?_
        refine v_aload_n (j := 2) dX12_canByRank_52 rfl ?_
        refine v_getI (c := 12) rfl (Or.inl rfl) cz12 flX12_36 dX12_canByRank_53 ?_
        refine v_icmp_ge dX12_canByRank_56 (by decide : _ = ((80 : Nat) : Int)) (fun q => ?_) (fun q => ?_)
        · replace hF := brT q hF
          refine v_iconst (v := 0) dX12_canByRank_80 (by decide) ?_
          obtain ⟨rfl, rfl⟩ := ret_use hF
          exact v_zret rfl (Or.inl rfl) dX12_canByRank_81
        · replace hF := brF q hF
          refine v_sub [2, 3, 1, 0] rfl ?_
          exact j6V h hF
theorem dX12_gains_0 : decode cX12_gains 0 = .ok (.aload_n 0, 1) := by decide +kernel
theorem dX12_gains_1 : decode cX12_gains 1 = .ok (.iload_n 2, 1) := by decide +kernel
theorem dX12_gains_2 : decode cX12_gains 2 = .ok (.bipush 32, 2) := by decide +kernel
theorem dX12_gains_4 : decode cX12_gains 4 = .ok (.idiv, 1) := by decide +kernel
theorem dX12_gains_5 : decode cX12_gains 5 = .ok (.iload_n 2, 1) := by decide +kernel
theorem dX12_gains_6 : decode cX12_gains 6 = .ok (.bipush 32, 2) := by decide +kernel
theorem dX12_gains_8 : decode cX12_gains 8 = .ok (.irem, 1) := by decide +kernel
theorem dX12_gains_9 : decode cX12_gains 9 = .ok (.aload_n 0, 1) := by decide +kernel
theorem dX12_gains_10 : decode cX12_gains 10 = .ok (.getfield 64, 3) := by decide +kernel
theorem dX12_gains_13 : decode cX12_gains 13 = .ok (.iload_n 1, 1) := by decide +kernel
theorem dX12_gains_14 : decode cX12_gains 14 = .ok (.iaload, 1) := by decide +kernel
theorem dX12_gains_15 : decode cX12_gains 15 = .ok (.aload_n 0, 1) := by decide +kernel
theorem dX12_gains_16 : decode cX12_gains 16 = .ok (.getfield 67, 3) := by decide +kernel
theorem dX12_gains_19 : decode cX12_gains 19 = .ok (.iload_n 1, 1) := by decide +kernel
theorem dX12_gains_20 : decode cX12_gains 20 = .ok (.iaload, 1) := by decide +kernel
theorem dX12_gains_21 : decode cX12_gains 21 = .ok (.invokevirtual 313, 3) := by decide +kernel
theorem dX12_gains_24 : decode cX12_gains 24 = .ok (.i2l, 1) := by decide +kernel
theorem dX12_gains_25 : decode cX12_gains 25 = .ok (.aload_n 0, 1) := by decide +kernel
theorem dX12_gains_26 : decode cX12_gains 26 = .ok (.getfield 61, 3) := by decide +kernel
theorem dX12_gains_29 : decode cX12_gains 29 = .ok (.iload_n 1, 1) := by decide +kernel
theorem dX12_gains_30 : decode cX12_gains 30 = .ok (.iaload, 1) := by decide +kernel
theorem dX12_gains_31 : decode cX12_gains 31 = .ok (.iconst 1, 1) := by decide +kernel
theorem dX12_gains_32 : decode cX12_gains 32 = .ok (.iadd, 1) := by decide +kernel
theorem dX12_gains_33 : decode cX12_gains 33 = .ok (.i2l, 1) := by decide +kernel
theorem dX12_gains_34 : decode cX12_gains 34 = .ok (.lmul, 1) := by decide +kernel
theorem dX12_gains_35 : decode cX12_gains 35 = .ok (.lreturn, 1) := by decide +kernel
def fX12_gains (a1 : Int32) (a2 : Int32) (h : Hp) : Option (Int64 × Hp) := gd (ib a1 12) (gd (ib a1 12) (bd (fX12_worthOf (a2 / 32) (a2 - a2 / 32 * 32) (gI h 66 0 (ix a1)) (gI h 67 0 (ix a1)) h) (fun r3 h4 => gd (ib a1 12) (some (r3.toInt64 * (((gI h4 65 0 (ix a1)) + 1).toInt64), h4)))))
set_option maxRecDepth 20000 in
theorem tX12_gains {X : Cz} {a1 : Int32} {a2 : Int32} {h hE : Hp} {rE : Int64} (hF : fX12_gains a1 a2 h = some (rE, hE)) : Ct X mX12_gains true [zr 12 0, zi a1, zi a2] h (some (zj rE)) hE := by
  refine Ct_of (by decide) (Nat.le_of_ble_eq_true rfl) (ls := [(0, zr 12 0), (1, zi a1), (2, zi a2)]) rfl ?_
  unfold fX12_gains at hF
  refine v_aload_n (j := 0) dX12_gains_0 rfl ?_
  refine v_iload_n (j := 2) dX12_gains_1 rfl ?_
  refine v_bipush (v := 32) dX12_gains_2 (by decide) ?_
  refine v_idiv dX12_gains_4 (by decide) ?_
  refine v_iload_n (j := 2) dX12_gains_5 rfl ?_
  refine v_bipush (v := 32) dX12_gains_6 (by decide) ?_
  refine v_irem dX12_gains_8 (by decide) ?_
  refine v_aload_n (j := 0) dX12_gains_9 rfl ?_
  refine v_getL (c := 12) rfl rfl rfl ly12_26 cz12 flX12_64 dX12_gains_10 ?_
  refine v_iload_n (j := 1) dX12_gains_13 rfl ?_
  replace hF := gd_use hF
  obtain ⟨q1, hF⟩ := hF
  refine v_iald rfl q1 dX12_gains_14 ?_
  refine v_aload_n (j := 0) dX12_gains_15 rfl ?_
  refine v_getL (c := 12) rfl rfl rfl ly12_27 cz12 flX12_67 dX12_gains_16 ?_
  refine v_iload_n (j := 1) dX12_gains_19 rfl ?_
  replace hF := gd_use hF
  obtain ⟨q2, hF⟩ := hF
  refine v_iald rfl q2 dX12_gains_20 ?_
  replace hF := bd_use hF
  obtain ⟨r3, h4, er3, hF⟩ := hF
  refine v_cV (hm := h4) (av := [zi (a2 / 32), zi (a2 - a2 / 32 * 32), zi (gI h 66 0 (ix a1)), zi (gI h 67 0 (ix a1))]) (st := []) (stn := [zi r3]) (tX12_worthOf er3) lcX12_worthOf mlX12_313 imX12_worthOf seX12_worthOf rfl rfl rfl rfl ⟨by decide, by decide⟩ (Nat.le_of_ble_eq_true rfl) dX12_gains_21 rfl rfl ?_
  clear er3
  refine v_i2l dX12_gains_24 ?_
  refine v_aload_n (j := 0) dX12_gains_25 rfl ?_
  refine v_getL (c := 12) rfl rfl rfl ly12_25 cz12 flX12_61 dX12_gains_26 ?_
  refine v_iload_n (j := 1) dX12_gains_29 rfl ?_
  replace hF := gd_use hF
  obtain ⟨q5, hF⟩ := hF
  refine v_iald rfl q5 dX12_gains_30 ?_
  refine v_iconst (v := 1) dX12_gains_31 (by decide) ?_
  refine v_iadd dX12_gains_32 ?_
  refine v_i2l dX12_gains_33 ?_
  refine v_lmul dX12_gains_34 ?_
  obtain ⟨rfl, rfl⟩ := ret_use hF
  exact v_lret rfl dX12_gains_35
theorem dX12_seats_0 : decode cX12_seats 0 = .ok (.aload_n 0, 1) := by decide +kernel
theorem dX12_seats_1 : decode cX12_seats 1 = .ok (.invokevirtual 310, 3) := by decide +kernel
theorem dX12_seats_4 : decode cX12_seats 4 = .ok (.iconst 0, 1) := by decide +kernel
theorem dX12_seats_5 : decode cX12_seats 5 = .ok (.istore_n 2, 1) := by decide +kernel
theorem dX12_seats_6 : decode cX12_seats 6 = .ok (.iload_n 2, 1) := by decide +kernel
theorem dX12_seats_7 : decode cX12_seats 7 = .ok (.sipush 256, 3) := by decide +kernel
theorem dX12_seats_10 : decode cX12_seats 10 = .ok (.if_icmp .ge 77, 3) := by decide +kernel
theorem dX12_seats_13 : decode cX12_seats 13 = .ok (.aload_n 0, 1) := by decide +kernel
theorem dX12_seats_14 : decode cX12_seats 14 = .ok (.getfield 184, 3) := by decide +kernel
theorem dX12_seats_17 : decode cX12_seats 17 = .ok (.iload_n 2, 1) := by decide +kernel
theorem dX12_seats_18 : decode cX12_seats 18 = .ok (.iconst 0, 1) := by decide +kernel
theorem dX12_seats_19 : decode cX12_seats 19 = .ok (.bastore, 1) := by decide +kernel
theorem dX12_seats_20 : decode cX12_seats 20 = .ok (.aload_n 0, 1) := by decide +kernel
theorem dX12_seats_21 : decode cX12_seats 21 = .ok (.getfield 181, 3) := by decide +kernel
theorem dX12_seats_24 : decode cX12_seats 24 = .ok (.iload_n 2, 1) := by decide +kernel
theorem dX12_seats_25 : decode cX12_seats 25 = .ok (.iload_n 1, 1) := by decide +kernel
theorem dX12_seats_26 : decode cX12_seats 26 = .ok (.ifCond .ne 53, 3) := by decide +kernel
theorem dX12_seats_29 : decode cX12_seats 29 = .ok (.iload_n 2, 1) := by decide +kernel
theorem dX12_seats_30 : decode cX12_seats 30 = .ok (.bipush 32, 2) := by decide +kernel
theorem dX12_seats_32 : decode cX12_seats 32 = .ok (.idiv, 1) := by decide +kernel
theorem dX12_seats_33 : decode cX12_seats 33 = .ok (.aload_n 0, 1) := by decide +kernel
theorem dX12_seats_34 : decode cX12_seats 34 = .ok (.getfield 248, 3) := by decide +kernel
theorem dX12_seats_37 : decode cX12_seats 37 = .ok (.if_icmp .ge 42, 3) := by decide +kernel
theorem dX12_seats_40 : decode cX12_seats 40 = .ok (.iload_n 2, 1) := by decide +kernel
theorem dX12_seats_41 : decode cX12_seats 41 = .ok (.bipush 32, 2) := by decide +kernel
theorem dX12_seats_43 : decode cX12_seats 43 = .ok (.irem, 1) := by decide +kernel
theorem dX12_seats_44 : decode cX12_seats 44 = .ok (.aload_n 0, 1) := by decide +kernel
theorem dX12_seats_45 : decode cX12_seats 45 = .ok (.getfield 54, 3) := by decide +kernel
theorem dX12_seats_48 : decode cX12_seats 48 = .ok (.iload_n 2, 1) := by decide +kernel
theorem dX12_seats_49 : decode cX12_seats 49 = .ok (.bipush 32, 2) := by decide +kernel
theorem dX12_seats_51 : decode cX12_seats 51 = .ok (.idiv, 1) := by decide +kernel
theorem dX12_seats_52 : decode cX12_seats 52 = .ok (.iaload, 1) := by decide +kernel
theorem dX12_seats_53 : decode cX12_seats 53 = .ok (.if_icmp .ge 26, 3) := by decide +kernel
theorem dX12_seats_56 : decode cX12_seats 56 = .ok (.aload_n 0, 1) := by decide +kernel
theorem dX12_seats_57 : decode cX12_seats 57 = .ok (.iload_n 2, 1) := by decide +kernel
theorem dX12_seats_58 : decode cX12_seats 58 = .ok (.bipush 32, 2) := by decide +kernel
theorem dX12_seats_60 : decode cX12_seats 60 = .ok (.idiv, 1) := by decide +kernel
theorem dX12_seats_61 : decode cX12_seats 61 = .ok (.iload_n 2, 1) := by decide +kernel
theorem dX12_seats_62 : decode cX12_seats 62 = .ok (.bipush 32, 2) := by decide +kernel
theorem dX12_seats_64 : decode cX12_seats 64 = .ok (.irem, 1) := by decide +kernel
theorem dX12_seats_65 : decode cX12_seats 65 = .ok (.aload_n 0, 1) := by decide +kernel
theorem dX12_seats_66 : decode cX12_seats 66 = .ok (.getfield 251, 3) := by decide +kernel
theorem dX12_seats_69 : decode cX12_seats 69 = .ok (.aload_n 0, 1) := by decide +kernel
theorem dX12_seats_70 : decode cX12_seats 70 = .ok (.getfield 251, 3) := by decide +kernel
theorem dX12_seats_73 : decode cX12_seats 73 = .ok (.invokevirtual 348, 3) := by decide +kernel
theorem dX12_seats_76 : decode cX12_seats 76 = .ok (.goto 4, 3) := by decide +kernel
theorem dX12_seats_79 : decode cX12_seats 79 = .ok (.iconst (-1), 1) := by decide +kernel
theorem dX12_seats_80 : decode cX12_seats 80 = .ok (.iastore, 1) := by decide +kernel
theorem dX12_seats_81 : decode cX12_seats 81 = .ok (.iinc 2 1, 3) := by decide +kernel
theorem dX12_seats_84 : decode cX12_seats 84 = .ok (.goto (-78), 3) := by decide +kernel
theorem dX12_seats_87 : decode cX12_seats 87 = .ok (.iconst 0, 1) := by decide +kernel
theorem dX12_seats_88 : decode cX12_seats 88 = .ok (.istore_n 2, 1) := by decide +kernel
theorem dX12_seats_89 : decode cX12_seats 89 = .ok (.iconst 0, 1) := by decide +kernel
theorem dX12_seats_90 : decode cX12_seats 90 = .ok (.istore_n 3, 1) := by decide +kernel
theorem dX12_seats_91 : decode cX12_seats 91 = .ok (.iload_n 3, 1) := by decide +kernel
theorem dX12_seats_92 : decode cX12_seats 92 = .ok (.aload_n 0, 1) := by decide +kernel
theorem dX12_seats_93 : decode cX12_seats 93 = .ok (.getfield 295, 3) := by decide +kernel
theorem dX12_seats_96 : decode cX12_seats 96 = .ok (.if_icmp .ge 92, 3) := by decide +kernel
theorem dX12_seats_99 : decode cX12_seats 99 = .ok (.aload_n 0, 1) := by decide +kernel
theorem dX12_seats_100 : decode cX12_seats 100 = .ok (.getfield 163, 3) := by decide +kernel
theorem dX12_seats_103 : decode cX12_seats 103 = .ok (.iload_n 3, 1) := by decide +kernel
theorem dX12_seats_104 : decode cX12_seats 104 = .ok (.iconst (-1), 1) := by decide +kernel
theorem dX12_seats_105 : decode cX12_seats 105 = .ok (.iastore, 1) := by decide +kernel
theorem dX12_seats_106 : decode cX12_seats 106 = .ok (.aload_n 0, 1) := by decide +kernel
theorem dX12_seats_107 : decode cX12_seats 107 = .ok (.getfield 70, 3) := by decide +kernel
theorem dX12_seats_110 : decode cX12_seats 110 = .ok (.iload_n 3, 1) := by decide +kernel
theorem dX12_seats_111 : decode cX12_seats 111 = .ok (.baload, 1) := by decide +kernel
theorem dX12_seats_112 : decode cX12_seats 112 = .ok (.ifCond .eq 6, 3) := by decide +kernel
theorem dX12_seats_115 : decode cX12_seats 115 = .ok (.goto 67, 3) := by decide +kernel
theorem dX12_seats_118 : decode cX12_seats 118 = .ok (.iload_n 2, 1) := by decide +kernel
theorem dX12_seats_119 : decode cX12_seats 119 = .ok (.istore 4, 2) := by decide +kernel
theorem dX12_seats_121 : decode cX12_seats 121 = .ok (.iload 4, 2) := by decide +kernel
theorem dX12_seats_123 : decode cX12_seats 123 = .ok (.ifCond .le 48, 3) := by decide +kernel
theorem dX12_seats_126 : decode cX12_seats 126 = .ok (.aload_n 0, 1) := by decide +kernel
theorem dX12_seats_127 : decode cX12_seats 127 = .ok (.getfield 61, 3) := by decide +kernel
theorem dX12_seats_130 : decode cX12_seats 130 = .ok (.aload_n 0, 1) := by decide +kernel
theorem dX12_seats_131 : decode cX12_seats 131 = .ok (.getfield 172, 3) := by decide +kernel
theorem dX12_seats_134 : decode cX12_seats 134 = .ok (.iload 4, 2) := by decide +kernel
theorem dX12_seats_136 : decode cX12_seats 136 = .ok (.iconst 1, 1) := by decide +kernel
theorem dX12_seats_137 : decode cX12_seats 137 = .ok (.isub, 1) := by decide +kernel
theorem dX12_seats_138 : decode cX12_seats 138 = .ok (.iaload, 1) := by decide +kernel
theorem dX12_seats_139 : decode cX12_seats 139 = .ok (.iaload, 1) := by decide +kernel
theorem dX12_seats_140 : decode cX12_seats 140 = .ok (.aload_n 0, 1) := by decide +kernel
theorem dX12_seats_141 : decode cX12_seats 141 = .ok (.getfield 61, 3) := by decide +kernel
theorem dX12_seats_144 : decode cX12_seats 144 = .ok (.iload_n 3, 1) := by decide +kernel
theorem dX12_seats_145 : decode cX12_seats 145 = .ok (.iaload, 1) := by decide +kernel
theorem dX12_seats_146 : decode cX12_seats 146 = .ok (.if_icmp .ge 25, 3) := by decide +kernel
theorem dX12_seats_149 : decode cX12_seats 149 = .ok (.aload_n 0, 1) := by decide +kernel
theorem dX12_seats_150 : decode cX12_seats 150 = .ok (.getfield 172, 3) := by decide +kernel
theorem dX12_seats_153 : decode cX12_seats 153 = .ok (.iload 4, 2) := by decide +kernel
theorem dX12_seats_155 : decode cX12_seats 155 = .ok (.aload_n 0, 1) := by decide +kernel
theorem dX12_seats_156 : decode cX12_seats 156 = .ok (.getfield 172, 3) := by decide +kernel
theorem dX12_seats_159 : decode cX12_seats 159 = .ok (.iload 4, 2) := by decide +kernel
theorem dX12_seats_161 : decode cX12_seats 161 = .ok (.iconst 1, 1) := by decide +kernel
theorem dX12_seats_162 : decode cX12_seats 162 = .ok (.isub, 1) := by decide +kernel
theorem dX12_seats_163 : decode cX12_seats 163 = .ok (.iaload, 1) := by decide +kernel
theorem dX12_seats_164 : decode cX12_seats 164 = .ok (.iastore, 1) := by decide +kernel
theorem dX12_seats_165 : decode cX12_seats 165 = .ok (.iinc 4 (-1), 3) := by decide +kernel
theorem dX12_seats_168 : decode cX12_seats 168 = .ok (.goto (-47), 3) := by decide +kernel
theorem dX12_seats_171 : decode cX12_seats 171 = .ok (.aload_n 0, 1) := by decide +kernel
theorem dX12_seats_172 : decode cX12_seats 172 = .ok (.getfield 172, 3) := by decide +kernel
theorem dX12_seats_175 : decode cX12_seats 175 = .ok (.iload 4, 2) := by decide +kernel
theorem dX12_seats_177 : decode cX12_seats 177 = .ok (.iload_n 3, 1) := by decide +kernel
theorem dX12_seats_178 : decode cX12_seats 178 = .ok (.iastore, 1) := by decide +kernel
theorem dX12_seats_179 : decode cX12_seats 179 = .ok (.iinc 2 1, 3) := by decide +kernel
theorem dX12_seats_182 : decode cX12_seats 182 = .ok (.iinc 3 1, 3) := by decide +kernel
theorem dX12_seats_185 : decode cX12_seats 185 = .ok (.goto (-94), 3) := by decide +kernel
theorem dX12_seats_188 : decode cX12_seats 188 = .ok (.iconst 0, 1) := by decide +kernel
theorem dX12_seats_189 : decode cX12_seats 189 = .ok (.istore_n 3, 1) := by decide +kernel
theorem dX12_seats_190 : decode cX12_seats 190 = .ok (.iload_n 3, 1) := by decide +kernel
theorem dX12_seats_191 : decode cX12_seats 191 = .ok (.iload_n 2, 1) := by decide +kernel
theorem dX12_seats_192 : decode cX12_seats 192 = .ok (.if_icmp .ge 19, 3) := by decide +kernel
theorem dX12_seats_195 : decode cX12_seats 195 = .ok (.aload_n 0, 1) := by decide +kernel
theorem dX12_seats_196 : decode cX12_seats 196 = .ok (.aload_n 0, 1) := by decide +kernel
theorem dX12_seats_197 : decode cX12_seats 197 = .ok (.getfield 172, 3) := by decide +kernel
theorem dX12_seats_200 : decode cX12_seats 200 = .ok (.iload_n 3, 1) := by decide +kernel
theorem dX12_seats_201 : decode cX12_seats 201 = .ok (.iaload, 1) := by decide +kernel
theorem dX12_seats_202 : decode cX12_seats 202 = .ok (.invokevirtual 402, 3) := by decide +kernel
theorem dX12_seats_205 : decode cX12_seats 205 = .ok (.iinc 3 1, 3) := by decide +kernel
theorem dX12_seats_208 : decode cX12_seats 208 = .ok (.goto (-18), 3) := by decide +kernel
theorem dX12_seats_211 : decode cX12_seats 211 = .ok (.iconst 0, 1) := by decide +kernel
theorem dX12_seats_212 : decode cX12_seats 212 = .ok (.istore_n 3, 1) := by decide +kernel
theorem dX12_seats_213 : decode cX12_seats 213 = .ok (.iconst 0, 1) := by decide +kernel
theorem dX12_seats_214 : decode cX12_seats 214 = .ok (.istore 4, 2) := by decide +kernel
theorem dX12_seats_216 : decode cX12_seats 216 = .ok (.iload 4, 2) := by decide +kernel
theorem dX12_seats_218 : decode cX12_seats 218 = .ok (.iload_n 2, 1) := by decide +kernel
theorem dX12_seats_219 : decode cX12_seats 219 = .ok (.if_icmp .ge 44, 3) := by decide +kernel
theorem dX12_seats_222 : decode cX12_seats 222 = .ok (.aload_n 0, 1) := by decide +kernel
theorem dX12_seats_223 : decode cX12_seats 223 = .ok (.getfield 163, 3) := by decide +kernel
theorem dX12_seats_226 : decode cX12_seats 226 = .ok (.aload_n 0, 1) := by decide +kernel
theorem dX12_seats_227 : decode cX12_seats 227 = .ok (.getfield 172, 3) := by decide +kernel
theorem dX12_seats_230 : decode cX12_seats 230 = .ok (.iload 4, 2) := by decide +kernel
theorem dX12_seats_232 : decode cX12_seats 232 = .ok (.iaload, 1) := by decide +kernel
theorem dX12_seats_233 : decode cX12_seats 233 = .ok (.iaload, 1) := by decide +kernel
theorem dX12_seats_234 : decode cX12_seats 234 = .ok (.iconst (-1), 1) := by decide +kernel
theorem dX12_seats_235 : decode cX12_seats 235 = .ok (.if_icmp .eq 6, 3) := by decide +kernel
theorem dX12_seats_238 : decode cX12_seats 238 = .ok (.goto 19, 3) := by decide +kernel
theorem dX12_seats_241 : decode cX12_seats 241 = .ok (.aload_n 0, 1) := by decide +kernel
theorem dX12_seats_242 : decode cX12_seats 242 = .ok (.getfield 175, 3) := by decide +kernel
theorem dX12_seats_245 : decode cX12_seats 245 = .ok (.iload_n 3, 1) := by decide +kernel
theorem dX12_seats_246 : decode cX12_seats 246 = .ok (.aload_n 0, 1) := by decide +kernel
theorem dX12_seats_247 : decode cX12_seats 247 = .ok (.getfield 172, 3) := by decide +kernel
theorem dX12_seats_250 : decode cX12_seats 250 = .ok (.iload 4, 2) := by decide +kernel
theorem dX12_seats_252 : decode cX12_seats 252 = .ok (.iaload, 1) := by decide +kernel
theorem dX12_seats_253 : decode cX12_seats 253 = .ok (.iastore, 1) := by decide +kernel
theorem dX12_seats_254 : decode cX12_seats 254 = .ok (.iinc 3 1, 3) := by decide +kernel
theorem dX12_seats_257 : decode cX12_seats 257 = .ok (.iinc 4 1, 3) := by decide +kernel
theorem dX12_seats_260 : decode cX12_seats 260 = .ok (.goto (-44), 3) := by decide +kernel
theorem dX12_seats_263 : decode cX12_seats 263 = .ok (.iconst 0, 1) := by decide +kernel
theorem dX12_seats_264 : decode cX12_seats 264 = .ok (.istore 4, 2) := by decide +kernel
theorem dX12_seats_266 : decode cX12_seats 266 = .ok (.iload 4, 2) := by decide +kernel
theorem dX12_seats_268 : decode cX12_seats 268 = .ok (.sipush 256, 3) := by decide +kernel
theorem dX12_seats_271 : decode cX12_seats 271 = .ok (.if_icmp .gt 23, 3) := by decide +kernel
theorem dX12_seats_274 : decode cX12_seats 274 = .ok (.aload_n 0, 1) := by decide +kernel
theorem dX12_seats_275 : decode cX12_seats 275 = .ok (.getfield 187, 3) := by decide +kernel
theorem dX12_seats_278 : decode cX12_seats 278 = .ok (.sipush 257, 3) := by decide +kernel
theorem dX12_seats_281 : decode cX12_seats 281 = .ok (.iload_n 3, 1) := by decide +kernel
theorem dX12_seats_282 : decode cX12_seats 282 = .ok (.imul, 1) := by decide +kernel
theorem dX12_seats_283 : decode cX12_seats 283 = .ok (.iload 4, 2) := by decide +kernel
theorem dX12_seats_285 : decode cX12_seats 285 = .ok (.iadd, 1) := by decide +kernel
theorem dX12_seats_286 : decode cX12_seats 286 = .ok (.lconst 0, 1) := by decide +kernel
theorem dX12_seats_287 : decode cX12_seats 287 = .ok (.lastore, 1) := by decide +kernel
theorem dX12_seats_288 : decode cX12_seats 288 = .ok (.iinc 4 1, 3) := by decide +kernel
theorem dX12_seats_291 : decode cX12_seats 291 = .ok (.goto (-25), 3) := by decide +kernel
theorem dX12_seats_294 : decode cX12_seats 294 = .ok (.iload_n 3, 1) := by decide +kernel
theorem dX12_seats_295 : decode cX12_seats 295 = .ok (.iconst 1, 1) := by decide +kernel
theorem dX12_seats_296 : decode cX12_seats 296 = .ok (.isub, 1) := by decide +kernel
theorem dX12_seats_297 : decode cX12_seats 297 = .ok (.istore 4, 2) := by decide +kernel
theorem dX12_seats_299 : decode cX12_seats 299 = .ok (.iload 4, 2) := by decide +kernel
theorem dX12_seats_301 : decode cX12_seats 301 = .ok (.ifCond .lt 160, 3) := by decide +kernel
theorem dX12_seats_304 : decode cX12_seats 304 = .ok (.aload_n 0, 1) := by decide +kernel
theorem dX12_seats_305 : decode cX12_seats 305 = .ok (.getfield 187, 3) := by decide +kernel
theorem dX12_seats_308 : decode cX12_seats 308 = .ok (.sipush 257, 3) := by decide +kernel
theorem dX12_seats_311 : decode cX12_seats 311 = .ok (.iload 4, 2) := by decide +kernel
theorem dX12_seats_313 : decode cX12_seats 313 = .ok (.imul, 1) := by decide +kernel
theorem dX12_seats_314 : decode cX12_seats 314 = .ok (.sipush 256, 3) := by decide +kernel
theorem dX12_seats_317 : decode cX12_seats 317 = .ok (.iadd, 1) := by decide +kernel
theorem dX12_seats_318 : decode cX12_seats 318 = .ok (.lconst 0, 1) := by decide +kernel
theorem dX12_seats_319 : decode cX12_seats 319 = .ok (.lastore, 1) := by decide +kernel
theorem dX12_seats_320 : decode cX12_seats 320 = .ok (.sipush 255, 3) := by decide +kernel
theorem dX12_seats_323 : decode cX12_seats 323 = .ok (.istore 5, 2) := by decide +kernel
theorem dX12_seats_325 : decode cX12_seats 325 = .ok (.iload 5, 2) := by decide +kernel
theorem dX12_seats_327 : decode cX12_seats 327 = .ok (.ifCond .lt 128, 3) := by decide +kernel
theorem dX12_seats_330 : decode cX12_seats 330 = .ok (.aload_n 0, 1) := by decide +kernel
theorem dX12_seats_331 : decode cX12_seats 331 = .ok (.getfield 187, 3) := by decide +kernel
theorem dX12_seats_334 : decode cX12_seats 334 = .ok (.sipush 257, 3) := by decide +kernel
theorem dX12_seats_337 : decode cX12_seats 337 = .ok (.iload 4, 2) := by decide +kernel
theorem dX12_seats_339 : decode cX12_seats 339 = .ok (.imul, 1) := by decide +kernel
theorem dX12_seats_340 : decode cX12_seats 340 = .ok (.iload 5, 2) := by decide +kernel
theorem dX12_seats_342 : decode cX12_seats 342 = .ok (.iadd, 1) := by decide +kernel
theorem dX12_seats_343 : decode cX12_seats 343 = .ok (.iconst 1, 1) := by decide +kernel
theorem dX12_seats_344 : decode cX12_seats 344 = .ok (.iadd, 1) := by decide +kernel
theorem dX12_seats_345 : decode cX12_seats 345 = .ok (.laload, 1) := by decide +kernel
theorem dX12_seats_346 : decode cX12_seats 346 = .ok (.aload_n 0, 1) := by decide +kernel
theorem dX12_seats_347 : decode cX12_seats 347 = .ok (.getfield 187, 3) := by decide +kernel
theorem dX12_seats_350 : decode cX12_seats 350 = .ok (.sipush 257, 3) := by decide +kernel
theorem dX12_seats_353 : decode cX12_seats 353 = .ok (.iload 4, 2) := by decide +kernel
theorem dX12_seats_355 : decode cX12_seats 355 = .ok (.iconst 1, 1) := by decide +kernel
theorem dX12_seats_356 : decode cX12_seats 356 = .ok (.iadd, 1) := by decide +kernel
theorem dX12_seats_357 : decode cX12_seats 357 = .ok (.imul, 1) := by decide +kernel
theorem dX12_seats_358 : decode cX12_seats 358 = .ok (.iload 5, 2) := by decide +kernel
theorem dX12_seats_360 : decode cX12_seats 360 = .ok (.iadd, 1) := by decide +kernel
theorem dX12_seats_361 : decode cX12_seats 361 = .ok (.laload, 1) := by decide +kernel
theorem dX12_seats_362 : decode cX12_seats 362 = .ok (.invokestatic 367, 3) := by decide +kernel
theorem dX12_seats_365 : decode cX12_seats 365 = .ok (.lstore 6, 2) := by decide +kernel
theorem dX12_seats_367 : decode cX12_seats 367 = .ok (.aload_n 0, 1) := by decide +kernel
theorem dX12_seats_368 : decode cX12_seats 368 = .ok (.aload_n 0, 1) := by decide +kernel
theorem dX12_seats_369 : decode cX12_seats 369 = .ok (.getfield 175, 3) := by decide +kernel
theorem dX12_seats_372 : decode cX12_seats 372 = .ok (.iload 4, 2) := by decide +kernel
theorem dX12_seats_374 : decode cX12_seats 374 = .ok (.iaload, 1) := by decide +kernel
theorem dX12_seats_375 : decode cX12_seats 375 = .ok (.iload 5, 2) := by decide +kernel
theorem dX12_seats_377 : decode cX12_seats 377 = .ok (.invokevirtual 405, 3) := by decide +kernel
theorem dX12_seats_380 : decode cX12_seats 380 = .ok (.ifCond .eq 53, 3) := by decide +kernel
theorem dX12_seats_383 : decode cX12_seats 383 = .ok (.lload 6, 2) := by decide +kernel
theorem dX12_seats_385 : decode cX12_seats 385 = .ok (.aload_n 0, 1) := by decide +kernel
theorem dX12_seats_386 : decode cX12_seats 386 = .ok (.aload_n 0, 1) := by decide +kernel
theorem dX12_seats_387 : decode cX12_seats 387 = .ok (.getfield 175, 3) := by decide +kernel
theorem dX12_seats_390 : decode cX12_seats 390 = .ok (.iload 4, 2) := by decide +kernel
theorem dX12_seats_392 : decode cX12_seats 392 = .ok (.iaload, 1) := by decide +kernel
theorem dX12_seats_393 : decode cX12_seats 393 = .ok (.iload 5, 2) := by decide +kernel
theorem dX12_seats_395 : decode cX12_seats 395 = .ok (.invokevirtual 408, 3) := by decide +kernel
theorem dX12_seats_398 : decode cX12_seats 398 = .ok (.aload_n 0, 1) := by decide +kernel
theorem dX12_seats_399 : decode cX12_seats 399 = .ok (.getfield 187, 3) := by decide +kernel
theorem dX12_seats_402 : decode cX12_seats 402 = .ok (.sipush 257, 3) := by decide +kernel
theorem dX12_seats_405 : decode cX12_seats 405 = .ok (.iload 4, 2) := by decide +kernel
theorem dX12_seats_407 : decode cX12_seats 407 = .ok (.iconst 1, 1) := by decide +kernel
theorem dX12_seats_408 : decode cX12_seats 408 = .ok (.iadd, 1) := by decide +kernel
theorem dX12_seats_409 : decode cX12_seats 409 = .ok (.imul, 1) := by decide +kernel
theorem dX12_seats_410 : decode cX12_seats 410 = .ok (.iload 5, 2) := by decide +kernel
theorem dX12_seats_412 : decode cX12_seats 412 = .ok (.iadd, 1) := by decide +kernel
theorem dX12_seats_413 : decode cX12_seats 413 = .ok (.aload_n 0, 1) := by decide +kernel
theorem dX12_seats_414 : decode cX12_seats 414 = .ok (.getfield 64, 3) := by decide +kernel
theorem dX12_seats_417 : decode cX12_seats 417 = .ok (.aload_n 0, 1) := by decide +kernel
theorem dX12_seats_418 : decode cX12_seats 418 = .ok (.getfield 175, 3) := by decide +kernel
theorem dX12_seats_421 : decode cX12_seats 421 = .ok (.iload 4, 2) := by decide +kernel
theorem dX12_seats_423 : decode cX12_seats 423 = .ok (.iaload, 1) := by decide +kernel
theorem dX12_seats_424 : decode cX12_seats 424 = .ok (.iaload, 1) := by decide +kernel
theorem dX12_seats_425 : decode cX12_seats 425 = .ok (.iadd, 1) := by decide +kernel
theorem dX12_seats_426 : decode cX12_seats 426 = .ok (.laload, 1) := by decide +kernel
theorem dX12_seats_427 : decode cX12_seats 427 = .ok (.ladd, 1) := by decide +kernel
theorem dX12_seats_428 : decode cX12_seats 428 = .ok (.invokestatic 367, 3) := by decide +kernel
theorem dX12_seats_431 : decode cX12_seats 431 = .ok (.lstore 6, 2) := by decide +kernel
theorem dX12_seats_433 : decode cX12_seats 433 = .ok (.aload_n 0, 1) := by decide +kernel
theorem dX12_seats_434 : decode cX12_seats 434 = .ok (.getfield 187, 3) := by decide +kernel
theorem dX12_seats_437 : decode cX12_seats 437 = .ok (.sipush 257, 3) := by decide +kernel
theorem dX12_seats_440 : decode cX12_seats 440 = .ok (.iload 4, 2) := by decide +kernel
theorem dX12_seats_442 : decode cX12_seats 442 = .ok (.imul, 1) := by decide +kernel
theorem dX12_seats_443 : decode cX12_seats 443 = .ok (.iload 5, 2) := by decide +kernel
theorem dX12_seats_445 : decode cX12_seats 445 = .ok (.iadd, 1) := by decide +kernel
theorem dX12_seats_446 : decode cX12_seats 446 = .ok (.lload 6, 2) := by decide +kernel
theorem dX12_seats_448 : decode cX12_seats 448 = .ok (.lastore, 1) := by decide +kernel
theorem dX12_seats_449 : decode cX12_seats 449 = .ok (.iinc 5 (-1), 3) := by decide +kernel
theorem dX12_seats_452 : decode cX12_seats 452 = .ok (.goto (-127), 3) := by decide +kernel
theorem dX12_seats_455 : decode cX12_seats 455 = .ok (.iinc 4 (-1), 3) := by decide +kernel
theorem dX12_seats_458 : decode cX12_seats 458 = .ok (.goto (-159), 3) := by decide +kernel
theorem dX12_seats_461 : decode cX12_seats 461 = .ok (.iconst 0, 1) := by decide +kernel
theorem dX12_seats_462 : decode cX12_seats 462 = .ok (.istore 4, 2) := by decide +kernel
theorem dX12_seats_464 : decode cX12_seats 464 = .ok (.iconst 0, 1) := by decide +kernel
theorem dX12_seats_465 : decode cX12_seats 465 = .ok (.istore 5, 2) := by decide +kernel
theorem dX12_seats_467 : decode cX12_seats 467 = .ok (.iload 5, 2) := by decide +kernel
theorem dX12_seats_469 : decode cX12_seats 469 = .ok (.iload_n 3, 1) := by decide +kernel
theorem dX12_seats_470 : decode cX12_seats 470 = .ok (.if_icmp .ge 153, 3) := by decide +kernel
theorem dX12_seats_473 : decode cX12_seats 473 = .ok (.aload_n 0, 1) := by decide +kernel
theorem dX12_seats_474 : decode cX12_seats 474 = .ok (.getfield 175, 3) := by decide +kernel
theorem dX12_seats_477 : decode cX12_seats 477 = .ok (.iload 5, 2) := by decide +kernel
theorem dX12_seats_479 : decode cX12_seats 479 = .ok (.iaload, 1) := by decide +kernel
theorem dX12_seats_480 : decode cX12_seats 480 = .ok (.istore 6, 2) := by decide +kernel
theorem dX12_seats_482 : decode cX12_seats 482 = .ok (.aload_n 0, 1) := by decide +kernel
theorem dX12_seats_483 : decode cX12_seats 483 = .ok (.getfield 187, 3) := by decide +kernel
theorem dX12_seats_486 : decode cX12_seats 486 = .ok (.sipush 257, 3) := by decide +kernel
theorem dX12_seats_489 : decode cX12_seats 489 = .ok (.iload 5, 2) := by decide +kernel
theorem dX12_seats_491 : decode cX12_seats 491 = .ok (.imul, 1) := by decide +kernel
theorem dX12_seats_492 : decode cX12_seats 492 = .ok (.iload 4, 2) := by decide +kernel
theorem dX12_seats_494 : decode cX12_seats 494 = .ok (.iadd, 1) := by decide +kernel
theorem dX12_seats_495 : decode cX12_seats 495 = .ok (.laload, 1) := by decide +kernel
theorem dX12_seats_496 : decode cX12_seats 496 = .ok (.lstore 7, 2) := by decide +kernel
theorem dX12_seats_498 : decode cX12_seats 498 = .ok (.iconst (-1), 1) := by decide +kernel
theorem dX12_seats_499 : decode cX12_seats 499 = .ok (.istore 9, 2) := by decide +kernel
theorem dX12_seats_501 : decode cX12_seats 501 = .ok (.iload 4, 2) := by decide +kernel
theorem dX12_seats_503 : decode cX12_seats 503 = .ok (.istore 10, 2) := by decide +kernel
theorem dX12_seats_505 : decode cX12_seats 505 = .ok (.iload 10, 2) := by decide +kernel
theorem dX12_seats_507 : decode cX12_seats 507 = .ok (.sipush 256, 3) := by decide +kernel
theorem dX12_seats_510 : decode cX12_seats 510 = .ok (.if_icmp .ge 69, 3) := by decide +kernel
theorem dX12_seats_513 : decode cX12_seats 513 = .ok (.iload 9, 2) := by decide +kernel
theorem dX12_seats_515 : decode cX12_seats 515 = .ok (.iconst (-1), 1) := by decide +kernel
theorem dX12_seats_516 : decode cX12_seats 516 = .ok (.if_icmp .ne 63, 3) := by decide +kernel
theorem dX12_seats_519 : decode cX12_seats 519 = .ok (.aload_n 0, 1) := by decide +kernel
theorem dX12_seats_520 : decode cX12_seats 520 = .ok (.iload 6, 2) := by decide +kernel
theorem dX12_seats_522 : decode cX12_seats 522 = .ok (.iload 10, 2) := by decide +kernel
theorem dX12_seats_524 : decode cX12_seats 524 = .ok (.invokevirtual 405, 3) := by decide +kernel
theorem dX12_seats_527 : decode cX12_seats 527 = .ok (.ifCond .eq 46, 3) := by decide +kernel
theorem dX12_seats_530 : decode cX12_seats 530 = .ok (.aload_n 0, 1) := by decide +kernel
theorem dX12_seats_531 : decode cX12_seats 531 = .ok (.iload 6, 2) := by decide +kernel
theorem dX12_seats_533 : decode cX12_seats 533 = .ok (.iload 10, 2) := by decide +kernel
theorem dX12_seats_535 : decode cX12_seats 535 = .ok (.invokevirtual 408, 3) := by decide +kernel
theorem dX12_seats_538 : decode cX12_seats 538 = .ok (.aload_n 0, 1) := by decide +kernel
theorem dX12_seats_539 : decode cX12_seats 539 = .ok (.getfield 187, 3) := by decide +kernel
theorem dX12_seats_542 : decode cX12_seats 542 = .ok (.sipush 257, 3) := by decide +kernel
theorem dX12_seats_545 : decode cX12_seats 545 = .ok (.iload 5, 2) := by decide +kernel
theorem dX12_seats_547 : decode cX12_seats 547 = .ok (.iconst 1, 1) := by decide +kernel
theorem dX12_seats_548 : decode cX12_seats 548 = .ok (.iadd, 1) := by decide +kernel
theorem dX12_seats_549 : decode cX12_seats 549 = .ok (.imul, 1) := by decide +kernel
theorem dX12_seats_550 : decode cX12_seats 550 = .ok (.iload 10, 2) := by decide +kernel
theorem dX12_seats_552 : decode cX12_seats 552 = .ok (.iadd, 1) := by decide +kernel
theorem dX12_seats_553 : decode cX12_seats 553 = .ok (.aload_n 0, 1) := by decide +kernel
theorem dX12_seats_554 : decode cX12_seats 554 = .ok (.getfield 64, 3) := by decide +kernel
theorem dX12_seats_557 : decode cX12_seats 557 = .ok (.iload 6, 2) := by decide +kernel
theorem dX12_seats_559 : decode cX12_seats 559 = .ok (.iaload, 1) := by decide +kernel
theorem dX12_seats_560 : decode cX12_seats 560 = .ok (.iadd, 1) := by decide +kernel
theorem dX12_seats_561 : decode cX12_seats 561 = .ok (.laload, 1) := by decide +kernel
theorem dX12_seats_562 : decode cX12_seats 562 = .ok (.ladd, 1) := by decide +kernel
theorem dX12_seats_563 : decode cX12_seats 563 = .ok (.lload 7, 2) := by decide +kernel
theorem dX12_seats_565 : decode cX12_seats 565 = .ok (.lcmp, 1) := by decide +kernel
theorem dX12_seats_566 : decode cX12_seats 566 = .ok (.ifCond .ne 7, 3) := by decide +kernel
theorem dX12_seats_569 : decode cX12_seats 569 = .ok (.iload 10, 2) := by decide +kernel
theorem dX12_seats_571 : decode cX12_seats 571 = .ok (.istore 9, 2) := by decide +kernel
theorem dX12_seats_573 : decode cX12_seats 573 = .ok (.iinc 10 1, 3) := by decide +kernel
theorem dX12_seats_576 : decode cX12_seats 576 = .ok (.goto (-71), 3) := by decide +kernel
theorem dX12_seats_579 : decode cX12_seats 579 = .ok (.iload 9, 2) := by decide +kernel
theorem dX12_seats_581 : decode cX12_seats 581 = .ok (.iconst (-1), 1) := by decide +kernel
theorem dX12_seats_582 : decode cX12_seats 582 = .ok (.if_icmp .ne 6, 3) := by decide +kernel
theorem dX12_seats_585 : decode cX12_seats 585 = .ok (.goto 32, 3) := by decide +kernel
theorem dX12_seats_588 : decode cX12_seats 588 = .ok (.iload 9, 2) := by decide +kernel
theorem dX12_seats_590 : decode cX12_seats 590 = .ok (.aload_n 0, 1) := by decide +kernel
theorem dX12_seats_591 : decode cX12_seats 591 = .ok (.getfield 64, 3) := by decide +kernel
theorem dX12_seats_594 : decode cX12_seats 594 = .ok (.iload 6, 2) := by decide +kernel
theorem dX12_seats_596 : decode cX12_seats 596 = .ok (.iaload, 1) := by decide +kernel
theorem dX12_seats_597 : decode cX12_seats 597 = .ok (.iadd, 1) := by decide +kernel
theorem dX12_seats_598 : decode cX12_seats 598 = .ok (.istore 4, 2) := by decide +kernel
theorem dX12_seats_600 : decode cX12_seats 600 = .ok (.aload_n 0, 1) := by decide +kernel
theorem dX12_seats_601 : decode cX12_seats 601 = .ok (.iload 6, 2) := by decide +kernel
theorem dX12_seats_603 : decode cX12_seats 603 = .ok (.iload 9, 2) := by decide +kernel
theorem dX12_seats_605 : decode cX12_seats 605 = .ok (.bipush 32, 2) := by decide +kernel
theorem dX12_seats_607 : decode cX12_seats 607 = .ok (.idiv, 1) := by decide +kernel
theorem dX12_seats_608 : decode cX12_seats 608 = .ok (.iload 9, 2) := by decide +kernel
theorem dX12_seats_610 : decode cX12_seats 610 = .ok (.bipush 32, 2) := by decide +kernel
theorem dX12_seats_612 : decode cX12_seats 612 = .ok (.irem, 1) := by decide +kernel
theorem dX12_seats_613 : decode cX12_seats 613 = .ok (.iconst 0, 1) := by decide +kernel
theorem dX12_seats_614 : decode cX12_seats 614 = .ok (.invokevirtual 398, 3) := by decide +kernel
theorem dX12_seats_617 : decode cX12_seats 617 = .ok (.iinc 5 1, 3) := by decide +kernel
theorem dX12_seats_620 : decode cX12_seats 620 = .ok (.goto (-153), 3) := by decide +kernel
theorem dX12_seats_623 : decode cX12_seats 623 = .ok (.return_, 1) := by decide +kernel
def fX12_seats_L6 : Nat → Int32 → Int32 → Hp → Option ((Int32) × Hp)
  | 0, _, _, _ => none
  | n + 1, a1, a2, h => br (256 ≤ a2) (some ((a2), h)) (gd (ib a2 256) (lb (sI h 106 0 (ix a2) 0) (fun h4 => br (a1 = 0) (br ((gI h4 12 0 7) ≤ (a2 / 32)) (gd (ib a2 256) (lb (sI h4 105 0 (ix a2) (-1)) (fun h9 => lb (a2 + 1) (fun v10 => fX12_seats_L6 n a1 v10 h9)))) (gd (ib (a2 / 32) 8) (br ((gI h4 63 0 (ix (a2 / 32))) ≤ (a2 - a2 / 32 * 32)) (gd (ib a2 256) (lb (sI h4 105 0 (ix a2) (-1)) (fun h13 => lb (a2 + 1) (fun v14 => fX12_seats_L6 n a1 v14 h13)))) (bd (fX12_ownerOf (a2 / 32) (a2 - a2 / 32 * 32) (gI h4 12 0 5) (gI h4 12 0 5) h4) (fun r15 h16 => gd (ib a2 256) (lb (sI h16 105 0 (ix a2) r15) (fun h18 => lb (a2 + 1) (fun v19 => fX12_seats_L6 n a1 v19 h18)))))))) (gd (ib a2 256) (lb (sI h4 105 0 (ix a2) (-1)) (fun h6 => lb (a2 + 1) (fun v7 => fX12_seats_L6 n a1 v7 h6)))))))
def fX12_seats_L121 : Nat → Int32 → Int32 → Int32 → Hp → Option ((Int32) × Hp)
  | 0, _, _, _, _ => none
  | n + 1, a2, a3, a4, h => br (a4 ≤ 0) (some ((a4), h)) (gd (ib (a4 - 1) 12) (gd (ib (gI h 102 0 (ix (a4 - 1))) 12) (gd (ib a3 12) (br ((gI h 65 0 (ix a3)) ≤ (gI h 65 0 (ix (gI h 102 0 (ix (a4 - 1)))))) (some ((a4), h)) (gd (ib (a4 - 1) 12) (gd (ib a4 12) (lb (sI h 102 0 (ix a4) (gI h 102 0 (ix (a4 - 1)))) (fun h31 => lb (a4 + (-1)) (fun v32 => fX12_seats_L121 n a2 a3 v32 h31)))))))))
def fX12_seats_L91 : Nat → Int32 → Int32 → Hp → Option ((Int32 × Int32) × Hp)
  | 0, _, _, _ => none
  | n + 1, a2, a3, h => br ((gI h 12 0 8) ≤ a3) (some ((a2, a3), h)) (gd (ib a3 12) (lb (sI h 99 0 (ix a3) (-1)) (fun h24 => gd (ib a3 12) (br ((gI h24 68 0 (ix a3)) = 0) (bd (fX12_seats_L121 FU a2 a3 a2 h24) (fun v35 h33 => gd (ib v35 12) (lb (sI h33 102 0 (ix v35) a3) (fun h37 => lb (a2 + 1) (fun v38 => lb (a3 + 1) (fun v39 => fX12_seats_L91 n v38 v39 h37)))))) (lb (a3 + 1) (fun v40 => fX12_seats_L91 n a2 v40 h24))))))
def fX12_seats_L190 : Nat → Int32 → Int32 → Hp → Option ((Int32) × Hp)
  | 0, _, _, _ => none
  | n + 1, a2, a3, h => br (a2 ≤ a3) (some ((a3), h)) (gd (ib a3 12) (bd (fX12_byRights (gI h 102 0 (ix a3)) h) (fun r46 h47 => lb (a3 + 1) (fun v48 => fX12_seats_L190 n a2 v48 h47))))
def fX12_seats_L216 : Nat → Int32 → Int32 → Int32 → Hp → Option ((Int32 × Int32) × Hp)
  | 0, _, _, _, _ => none
  | n + 1, a2, a3, a4, h => br (a2 ≤ a4) (some ((a3, a4), h)) (gd (ib a4 12) (gd (ib (gI h 102 0 (ix a4)) 12) (br ((gI h 99 0 (ix (gI h 102 0 (ix a4)))) = (-1)) (gd (ib a4 12) (gd (ib a3 12) (lb (sI h 103 0 (ix a3) (gI h 102 0 (ix a4))) (fun h56 => lb (a3 + 1) (fun v57 => lb (a4 + 1) (fun v58 => fX12_seats_L216 n a2 v57 v58 h56)))))) (lb (a4 + 1) (fun v59 => fX12_seats_L216 n a2 a3 v59 h)))))
def fX12_seats_L266 : Nat → Int32 → Int32 → Hp → Option ((Int32) × Hp)
  | 0, _, _, _ => none
  | n + 1, a3, a4, h => br (256 < a4) (some ((a4), h)) (gd (ib (((257 : Int32) * a3) + a4) 3341) (lb (sJ h 107 0 (ix (((257 : Int32) * a3) + a4)) 0) (fun h65 => lb (a4 + 1) (fun v66 => fX12_seats_L266 n a3 v66 h65))))
def fX12_seats_L325 : Nat → Int32 → Int32 → Int32 → Hp → Option ((Int32) × Hp)
  | 0, _, _, _, _ => none
  | n + 1, a3, a4, a5, h => br (a5 < 0) (some ((a5), h)) (gd (ib ((((257 : Int32) * a4) + a5) + 1) 3341) (gd (ib (((257 : Int32) * (a4 + 1)) + a5) 3341) (lb (mxJ (gJ h 107 0 (ix ((((257 : Int32) * a4) + a5) + 1))) (gJ h 107 0 (ix (((257 : Int32) * (a4 + 1)) + a5)))) (fun v75 => gd (ib a4 12) (bd (fX12_canByRank (gI h 103 0 (ix a4)) a5 h) (fun r77 h78 => lb (fun (x80 : Int64) (h81 : Hp) => gd (ib (((257 : Int32) * a4) + a5) 3341) (lb (sJ h81 107 0 (ix (((257 : Int32) * a4) + a5)) x80) (fun h83 => lb (a5 + (-1)) (fun v84 => fX12_seats_L325 n a3 a4 v84 h83)))) (fun j79 => br (r77 = 0) (j79 v75 h78) (gd (ib a4 12) (bd (fX12_gains (gI h78 103 0 (ix a4)) a5 h78) (fun r86 h87 => gd (ib a4 12) (gd (ib (gI h87 103 0 (ix a4)) 12) (gd (ib ((((257 : Int32) * (a4 + 1)) + a5) + (gI h87 66 0 (ix (gI h87 103 0 (ix a4))))) 3341) (lb (mxJ v75 (r86 + (gJ h87 107 0 (ix ((((257 : Int32) * (a4 + 1)) + a5) + (gI h87 66 0 (ix (gI h87 103 0 (ix a4))))))))) (fun v91 => j79 v91 h87))))))))))))))
def fX12_seats_L299 : Nat → Int32 → Int32 → Hp → Option ((Int32) × Hp)
  | 0, _, _, _ => none
  | n + 1, a3, a4, h => br (a4 < 0) (some ((a4), h)) (gd (ib (((257 : Int32) * a4) + 256) 3341) (lb (sJ h 107 0 (ix (((257 : Int32) * a4) + 256)) 0) (fun h72 => bd (fX12_seats_L325 FU a3 a4 255 h72) (fun v94 h92 => lb (a4 + (-1)) (fun v95 => fX12_seats_L299 n a3 v95 h92)))))
def fX12_seats_L505 : Nat → Int32 → Int32 → Int32 → Int32 → Int64 → Int32 → Int32 → Hp → Option ((Int32 × Int32) × Hp)
  | 0, _, _, _, _, _, _, _, _ => none
  | n + 1, a3, a4, a5, a6, a7, a9, a10, h => br (256 ≤ a10) (some ((a9, a10), h)) (br (a9 = (-1)) (bd (fX12_canByRank a6 a10 h) (fun r103 h104 => br (r103 = 0) (lb (a10 + 1) (fun v105 => fX12_seats_L505 n a3 a4 a5 a6 a7 a9 v105 h104)) (bd (fX12_gains a6 a10 h104) (fun r106 h107 => gd (ib a6 12) (gd (ib ((((257 : Int32) * (a5 + 1)) + a10) + (gI h107 66 0 (ix a6))) 3341) (br ((r106 + (gJ h107 107 0 (ix ((((257 : Int32) * (a5 + 1)) + a10) + (gI h107 66 0 (ix a6)))))) = a7) (lb (a10 + 1) (fun v111 => fX12_seats_L505 n a3 a4 a5 a6 a7 a10 v111 h107)) (lb (a10 + 1) (fun v110 => fX12_seats_L505 n a3 a4 a5 a6 a7 a9 v110 h107)))))))) (some ((a9, a10), h)))
def fX12_seats_L467 : Nat → Int32 → Int32 → Int32 → Hp → Option ((Int32 × Int32) × Hp)
  | 0, _, _, _, _ => none
  | n + 1, a3, a4, a5, h => br (a3 ≤ a5) (some ((a4, a5), h)) (gd (ib a5 12) (lb (gI h 103 0 (ix a5)) (fun v100 => gd (ib (((257 : Int32) * a5) + a4) 3341) (lb (gJ h 107 0 (ix (((257 : Int32) * a5) + a4))) (fun v102 => bd (fX12_seats_L505 FU a3 a4 a5 v100 v102 (-1) a4 h) (fun t113 h112 => lb t113.1 (fun v114 => lb t113.2 (fun v115 => br (v114 = (-1)) (lb (a5 + 1) (fun v121 => fX12_seats_L467 n a3 a4 v121 h112)) (gd (ib v100 12) (lb (v114 + (gI h112 66 0 (ix v100))) (fun v117 => bd (fX12_takes v100 (v114 / 32) (v114 - v114 / 32 * 32) 0 h112) (fun r118 h119 => lb (a5 + 1) (fun v120 => fX12_seats_L467 n a3 v117 v120 h119)))))))))))))
def fX12_seats (a1 : Int32) (h : Hp) : Option (Unit × Hp) := bd (fX12_listens h) (fun r1 h2 => bd (fX12_seats_L6 FU a1 0 h2) (fun v22 h20 => bd (fX12_seats_L91 FU 0 0 h20) (fun t42 h41 => lb t42.1 (fun v43 => lb t42.2 (fun v44 => bd (fX12_seats_L190 FU v43 0 h41) (fun v51 h49 => bd (fX12_seats_L216 FU v43 0 0 h49) (fun t61 h60 => lb t61.1 (fun v62 => lb t61.2 (fun v63 => bd (fX12_seats_L266 FU v62 0 h60) (fun v69 h67 => lb (v62 - 1) (fun v70 => bd (fX12_seats_L299 FU v62 v70 h67) (fun v98 h96 => bd (fX12_seats_L467 FU v62 0 0 h96) (fun t123 h122 => lb t123.1 (fun v124 => lb t123.2 (fun v125 => some ((), h122))))))))))))))))
set_option maxHeartbeats 4000000 in
set_option maxRecDepth 100000 in
theorem tX12_seats_L6 {X : Cz} {h0 : Hp} {r : Option AV} {hE : Hp} : ∀ (n : Nat) (a1 : Int32) (a2 : Int32) (h : Hp) (z : (Int32) × Hp), fX12_seats_L6 n a1 a2 h = some z → V X mX12_seats true h0 87 [(0, zr 12 0), (1, zi a1), (2, zi z.1)] [] z.2 r hE → V X mX12_seats true h0 6 [(0, zr 12 0), (1, zi a1), (2, zi a2)] [] h r hE := by
  intro n
  induction n with
  | zero => intro a1 a2 h z hF k; cases hF
  | succ n ih =>
    intro a1 a2 h z hF k
    rw [fX12_seats_L6] at hF
    refine v_iload_n (j := 2) dX12_seats_6 rfl ?_
    refine v_sipush (v := 256) dX12_seats_7 (by decide) ?_
    refine v_icmp_ge dX12_seats_10 (by decide : _ = ((87 : Nat) : Int)) (fun q => ?_) (fun q => ?_)
    · replace hF := brT q hF
      cases hF
      exact k
    · replace hF := brF q hF
      refine v_aload_n (j := 0) dX12_seats_13 rfl ?_
      refine v_getL (c := 12) rfl rfl rfl ly12_69 cz12 flX12_184 dX12_seats_14 ?_
      refine v_iload_n (j := 2) dX12_seats_17 rfl ?_
      refine v_iconst (v := 0) dX12_seats_18 (by decide) ?_
      replace hF := gd_use hF
      obtain ⟨q3, hF⟩ := hF
      refine v_zastL rfl q3 (Or.inl rfl) dX12_seats_19 ?_
      refine v_toph fun h4 eh4 => ?_
      replace hF := lb_use eh4 hF
      clear eh4
      refine v_aload_n (j := 0) dX12_seats_20 rfl ?_
      refine v_getL (c := 12) rfl rfl rfl ly12_68 cz12 flX12_181 dX12_seats_21 ?_
      refine v_iload_n (j := 2) dX12_seats_24 rfl ?_
      refine v_iload_n (j := 1) dX12_seats_25 rfl ?_
      refine v_if_ne dX12_seats_26 (by decide : _ = ((79 : Nat) : Int)) (fun q => ?_) (fun q => ?_)
      · replace hF := brF q hF
        refine v_iconst (v := (-1)) dX12_seats_79 (by decide) ?_
        replace hF := gd_use hF
        obtain ⟨q5, hF⟩ := hF
        refine v_iast rfl q5 dX12_seats_80 ?_
        refine v_toph fun h6 eh6 => ?_
        replace hF := lb_use eh6 hF
        clear eh6
        obtain ⟨v7, ev7⟩ : ∃ y : Int32, y = a2 + 1 := ⟨_, rfl⟩
        replace hF := lb_use ev7 hF
        refine v_iinc (j := 2) (v := v7) (ls' := [(2, zi v7), (0, zr 12 0), (1, zi a1)]) dX12_seats_81 rfl (by rw [ev7]; rfl) (by decide) rfl ?_
        clear ev7
        refine v_goto (tgt := 6) dX12_seats_84 (by decide) ?_
        refine v_sub [1, 2, 0] rfl ?_
        exact ih a1 v7 h6 _ hF k
      · replace hF := brT (Decidable.not_not.mp q) hF
        refine v_iload_n (j := 2) dX12_seats_29 rfl ?_
        refine v_bipush (v := 32) dX12_seats_30 (by decide) ?_
        refine v_idiv dX12_seats_32 (by decide) ?_
        refine v_aload_n (j := 0) dX12_seats_33 rfl ?_
        refine v_getI (c := 12) rfl (Or.inl rfl) cz12 flX12_248 dX12_seats_34 ?_
        refine v_icmp_ge dX12_seats_37 (by decide : _ = ((79 : Nat) : Int)) (fun q => ?_) (fun q => ?_)
        · replace hF := brT q hF
          refine v_iconst (v := (-1)) dX12_seats_79 (by decide) ?_
          replace hF := gd_use hF
          obtain ⟨q8, hF⟩ := hF
          refine v_iast rfl q8 dX12_seats_80 ?_
          refine v_toph fun h9 eh9 => ?_
          replace hF := lb_use eh9 hF
          clear eh9
          obtain ⟨v10, ev10⟩ : ∃ y : Int32, y = a2 + 1 := ⟨_, rfl⟩
          replace hF := lb_use ev10 hF
          refine v_iinc (j := 2) (v := v10) (ls' := [(2, zi v10), (0, zr 12 0), (1, zi a1)]) dX12_seats_81 rfl (by rw [ev10]; rfl) (by decide) rfl ?_
          clear ev10
          refine v_goto (tgt := 6) dX12_seats_84 (by decide) ?_
          refine v_sub [1, 2, 0] rfl ?_
          exact ih a1 v10 h9 _ hF k
        · replace hF := brF q hF
          refine v_iload_n (j := 2) dX12_seats_40 rfl ?_
          refine v_bipush (v := 32) dX12_seats_41 (by decide) ?_
          refine v_irem dX12_seats_43 (by decide) ?_
          refine v_aload_n (j := 0) dX12_seats_44 rfl ?_
          refine v_getL (c := 12) rfl rfl rfl ly12_23 cz12 flX12_54 dX12_seats_45 ?_
          refine v_iload_n (j := 2) dX12_seats_48 rfl ?_
          refine v_bipush (v := 32) dX12_seats_49 (by decide) ?_
          refine v_idiv dX12_seats_51 (by decide) ?_
          replace hF := gd_use hF
          obtain ⟨q11, hF⟩ := hF
          refine v_iald rfl q11 dX12_seats_52 ?_
          refine v_icmp_ge dX12_seats_53 (by decide : _ = ((79 : Nat) : Int)) (fun q => ?_) (fun q => ?_)
          · replace hF := brT q hF
            refine v_iconst (v := (-1)) dX12_seats_79 (by decide) ?_
            replace hF := gd_use hF
            obtain ⟨q12, hF⟩ := hF
            refine v_iast rfl q12 dX12_seats_80 ?_
            refine v_toph fun h13 eh13 => ?_
            replace hF := lb_use eh13 hF
            clear eh13
            obtain ⟨v14, ev14⟩ : ∃ y : Int32, y = a2 + 1 := ⟨_, rfl⟩
            replace hF := lb_use ev14 hF
            refine v_iinc (j := 2) (v := v14) (ls' := [(2, zi v14), (0, zr 12 0), (1, zi a1)]) dX12_seats_81 rfl (by rw [ev14]; rfl) (by decide) rfl ?_
            clear ev14
            refine v_goto (tgt := 6) dX12_seats_84 (by decide) ?_
            refine v_sub [1, 2, 0] rfl ?_
            exact ih a1 v14 h13 _ hF k
          · replace hF := brF q hF
            refine v_aload_n (j := 0) dX12_seats_56 rfl ?_
            refine v_iload_n (j := 2) dX12_seats_57 rfl ?_
            refine v_bipush (v := 32) dX12_seats_58 (by decide) ?_
            refine v_idiv dX12_seats_60 (by decide) ?_
            refine v_iload_n (j := 2) dX12_seats_61 rfl ?_
            refine v_bipush (v := 32) dX12_seats_62 (by decide) ?_
            refine v_irem dX12_seats_64 (by decide) ?_
            refine v_aload_n (j := 0) dX12_seats_65 rfl ?_
            refine v_getI (c := 12) rfl (Or.inl rfl) cz12 flX12_251 dX12_seats_66 ?_
            refine v_aload_n (j := 0) dX12_seats_69 rfl ?_
            refine v_getI (c := 12) rfl (Or.inl rfl) cz12 flX12_251 dX12_seats_70 ?_
            replace hF := bd_use hF
            obtain ⟨r15, h16, er15, hF⟩ := hF
            refine v_cV (hm := h16) (av := [zi (a2 / 32), zi (a2 - a2 / 32 * 32), zi (gI h4 12 0 5), zi (gI h4 12 0 5)]) (st := [zi a2, zr 105 0]) (stn := [zi r15, zi a2, zr 105 0]) (tX12_ownerOf er15) lcX12_ownerOf mlX12_348 imX12_ownerOf seX12_ownerOf rfl rfl rfl rfl ⟨by decide, by decide⟩ (Nat.le_of_ble_eq_true rfl) dX12_seats_73 rfl rfl ?_
            clear er15
            refine v_goto (tgt := 80) dX12_seats_76 (by decide) ?_
            replace hF := gd_use hF
            obtain ⟨q17, hF⟩ := hF
            refine v_iast rfl q17 dX12_seats_80 ?_
            refine v_toph fun h18 eh18 => ?_
            replace hF := lb_use eh18 hF
            clear eh18
            obtain ⟨v19, ev19⟩ : ∃ y : Int32, y = a2 + 1 := ⟨_, rfl⟩
            replace hF := lb_use ev19 hF
            refine v_iinc (j := 2) (v := v19) (ls' := [(2, zi v19), (0, zr 12 0), (1, zi a1)]) dX12_seats_81 rfl (by rw [ev19]; rfl) (by decide) rfl ?_
            clear ev19
            refine v_goto (tgt := 6) dX12_seats_84 (by decide) ?_
            refine v_sub [1, 2, 0] rfl ?_
            exact ih a1 v19 h18 _ hF k
set_option maxHeartbeats 4000000 in
set_option maxRecDepth 100000 in
theorem tX12_seats_L121 {X : Cz} {h0 : Hp} {r : Option AV} {hE : Hp} : ∀ (n : Nat) (a2 : Int32) (a3 : Int32) (a4 : Int32) (h : Hp) (z : (Int32) × Hp), fX12_seats_L121 n a2 a3 a4 h = some z → V X mX12_seats true h0 171 [(0, zr 12 0), (2, zi a2), (3, zi a3), (4, zi z.1)] [] z.2 r hE → V X mX12_seats true h0 121 [(0, zr 12 0), (2, zi a2), (3, zi a3), (4, zi a4)] [] h r hE := by
  intro n
  induction n with
  | zero => intro a2 a3 a4 h z hF k; cases hF
  | succ n ih =>
    intro a2 a3 a4 h z hF k
    rw [fX12_seats_L121] at hF
    refine v_iload (j := 3) dX12_seats_121 rfl ?_
    refine v_if_le dX12_seats_123 (by decide : _ = ((171 : Nat) : Int)) (fun q => ?_) (fun q => ?_)
    · replace hF := brT q hF
      cases hF
      exact k
    · replace hF := brF q hF
      refine v_aload_n (j := 0) dX12_seats_126 rfl ?_
      refine v_getL (c := 12) rfl rfl rfl ly12_25 cz12 flX12_61 dX12_seats_127 ?_
      refine v_aload_n (j := 0) dX12_seats_130 rfl ?_
      refine v_getL (c := 12) rfl rfl rfl ly12_65 cz12 flX12_172 dX12_seats_131 ?_
      refine v_iload (j := 3) dX12_seats_134 rfl ?_
      refine v_iconst (v := 1) dX12_seats_136 (by decide) ?_
      refine v_isub dX12_seats_137 ?_
      replace hF := gd_use hF
      obtain ⟨q26, hF⟩ := hF
      refine v_iald rfl q26 dX12_seats_138 ?_
      replace hF := gd_use hF
      obtain ⟨q27, hF⟩ := hF
      refine v_iald rfl q27 dX12_seats_139 ?_
      refine v_aload_n (j := 0) dX12_seats_140 rfl ?_
      refine v_getL (c := 12) rfl rfl rfl ly12_25 cz12 flX12_61 dX12_seats_141 ?_
      refine v_iload_n (j := 2) dX12_seats_144 rfl ?_
      replace hF := gd_use hF
      obtain ⟨q28, hF⟩ := hF
      refine v_iald rfl q28 dX12_seats_145 ?_
      refine v_icmp_ge dX12_seats_146 (by decide : _ = ((171 : Nat) : Int)) (fun q => ?_) (fun q => ?_)
      · replace hF := brT q hF
        cases hF
        exact k
      · replace hF := brF q hF
        refine v_aload_n (j := 0) dX12_seats_149 rfl ?_
        refine v_getL (c := 12) rfl rfl rfl ly12_65 cz12 flX12_172 dX12_seats_150 ?_
        refine v_iload (j := 3) dX12_seats_153 rfl ?_
        refine v_aload_n (j := 0) dX12_seats_155 rfl ?_
        refine v_getL (c := 12) rfl rfl rfl ly12_65 cz12 flX12_172 dX12_seats_156 ?_
        refine v_iload (j := 3) dX12_seats_159 rfl ?_
        refine v_iconst (v := 1) dX12_seats_161 (by decide) ?_
        refine v_isub dX12_seats_162 ?_
        replace hF := gd_use hF
        obtain ⟨q29, hF⟩ := hF
        refine v_iald rfl q29 dX12_seats_163 ?_
        replace hF := gd_use hF
        obtain ⟨q30, hF⟩ := hF
        refine v_iast rfl q30 dX12_seats_164 ?_
        refine v_toph fun h31 eh31 => ?_
        replace hF := lb_use eh31 hF
        clear eh31
        obtain ⟨v32, ev32⟩ : ∃ y : Int32, y = a4 + (-1) := ⟨_, rfl⟩
        replace hF := lb_use ev32 hF
        refine v_iinc (j := 3) (v := v32) (ls' := [(4, zi v32), (0, zr 12 0), (2, zi a2), (3, zi a3)]) dX12_seats_165 rfl (by rw [ev32]; rfl) (by decide) rfl ?_
        clear ev32
        refine v_goto (tgt := 121) dX12_seats_168 (by decide) ?_
        refine v_sub [1, 2, 3, 0] rfl ?_
        exact ih a2 a3 v32 h31 _ hF k
set_option maxHeartbeats 4000000 in
set_option maxRecDepth 100000 in
theorem tX12_seats_L91 {X : Cz} {h0 : Hp} {r : Option AV} {hE : Hp} : ∀ (n : Nat) (a2 : Int32) (a3 : Int32) (h : Hp) (z : (Int32 × Int32) × Hp), fX12_seats_L91 n a2 a3 h = some z → V X mX12_seats true h0 188 [(0, zr 12 0), (2, zi z.1.1), (3, zi z.1.2)] [] z.2 r hE → V X mX12_seats true h0 91 [(0, zr 12 0), (2, zi a2), (3, zi a3)] [] h r hE := by
  intro n
  induction n with
  | zero => intro a2 a3 h z hF k; cases hF
  | succ n ih =>
    intro a2 a3 h z hF k
    rw [fX12_seats_L91] at hF
    refine v_iload_n (j := 2) dX12_seats_91 rfl ?_
    refine v_aload_n (j := 0) dX12_seats_92 rfl ?_
    refine v_getI (c := 12) rfl (Or.inl rfl) cz12 flX12_295 dX12_seats_93 ?_
    refine v_icmp_ge dX12_seats_96 (by decide : _ = ((188 : Nat) : Int)) (fun q => ?_) (fun q => ?_)
    · replace hF := brT q hF
      cases hF
      exact k
    · replace hF := brF q hF
      refine v_aload_n (j := 0) dX12_seats_99 rfl ?_
      refine v_getL (c := 12) rfl rfl rfl ly12_62 cz12 flX12_163 dX12_seats_100 ?_
      refine v_iload_n (j := 2) dX12_seats_103 rfl ?_
      refine v_iconst (v := (-1)) dX12_seats_104 (by decide) ?_
      replace hF := gd_use hF
      obtain ⟨q23, hF⟩ := hF
      refine v_iast rfl q23 dX12_seats_105 ?_
      refine v_toph fun h24 eh24 => ?_
      replace hF := lb_use eh24 hF
      clear eh24
      refine v_aload_n (j := 0) dX12_seats_106 rfl ?_
      refine v_getL (c := 12) rfl rfl rfl ly12_28 cz12 flX12_70 dX12_seats_107 ?_
      refine v_iload_n (j := 2) dX12_seats_110 rfl ?_
      replace hF := gd_use hF
      obtain ⟨q25, hF⟩ := hF
      refine v_zald rfl q25 dX12_seats_111 ?_
      refine v_if_eq dX12_seats_112 (by decide : _ = ((118 : Nat) : Int)) (fun q => ?_) (fun q => ?_)
      · replace hF := brT q hF
        refine v_iload_n (j := 1) dX12_seats_118 rfl ?_
        refine v_istore (ls' := [(4, zi a2), (0, zr 12 0), (2, zi a2), (3, zi a3)]) dX12_seats_119 (by decide) rfl ?_
        refine v_sub [1, 2, 3, 0] rfl ?_
        replace hF := bd_use hF
        obtain ⟨v35, h33, ev35, hF⟩ := hF
        refine tX12_seats_L121 _ a2 a3 a2 h24 _ ev35 ?_
        clear ev35
        refine v_aload_n (j := 0) dX12_seats_171 rfl ?_
        refine v_getL (c := 12) rfl rfl rfl ly12_65 cz12 flX12_172 dX12_seats_172 ?_
        refine v_iload (j := 3) dX12_seats_175 rfl ?_
        refine v_iload_n (j := 2) dX12_seats_177 rfl ?_
        replace hF := gd_use hF
        obtain ⟨q36, hF⟩ := hF
        refine v_iast rfl q36 dX12_seats_178 ?_
        refine v_toph fun h37 eh37 => ?_
        replace hF := lb_use eh37 hF
        clear eh37
        obtain ⟨v38, ev38⟩ : ∃ y : Int32, y = a2 + 1 := ⟨_, rfl⟩
        replace hF := lb_use ev38 hF
        refine v_iinc (j := 1) (v := v38) (ls' := [(2, zi v38), (0, zr 12 0), (3, zi a3), (4, zi v35)]) dX12_seats_179 rfl (by rw [ev38]; rfl) (by decide) rfl ?_
        clear ev38
        obtain ⟨v39, ev39⟩ : ∃ y : Int32, y = a3 + 1 := ⟨_, rfl⟩
        replace hF := lb_use ev39 hF
        refine v_iinc (j := 2) (v := v39) (ls' := [(3, zi v39), (2, zi v38), (0, zr 12 0), (4, zi v35)]) dX12_seats_182 rfl (by rw [ev39]; rfl) (by decide) rfl ?_
        clear ev39
        refine v_goto (tgt := 91) dX12_seats_185 (by decide) ?_
        refine v_sub [2, 1, 0] rfl ?_
        exact ih v38 v39 h37 _ hF k
      · replace hF := brF q hF
        refine v_goto (tgt := 182) dX12_seats_115 (by decide) ?_
        obtain ⟨v40, ev40⟩ : ∃ y : Int32, y = a3 + 1 := ⟨_, rfl⟩
        replace hF := lb_use ev40 hF
        refine v_iinc (j := 2) (v := v40) (ls' := [(3, zi v40), (0, zr 12 0), (2, zi a2)]) dX12_seats_182 rfl (by rw [ev40]; rfl) (by decide) rfl ?_
        clear ev40
        refine v_goto (tgt := 91) dX12_seats_185 (by decide) ?_
        refine v_sub [1, 2, 0] rfl ?_
        exact ih a2 v40 h24 _ hF k
set_option maxHeartbeats 4000000 in
set_option maxRecDepth 100000 in
theorem tX12_seats_L190 {X : Cz} {h0 : Hp} {r : Option AV} {hE : Hp} : ∀ (n : Nat) (a2 : Int32) (a3 : Int32) (h : Hp) (z : (Int32) × Hp), fX12_seats_L190 n a2 a3 h = some z → V X mX12_seats true h0 211 [(0, zr 12 0), (2, zi a2), (3, zi z.1)] [] z.2 r hE → V X mX12_seats true h0 190 [(0, zr 12 0), (2, zi a2), (3, zi a3)] [] h r hE := by
  intro n
  induction n with
  | zero => intro a2 a3 h z hF k; cases hF
  | succ n ih =>
    intro a2 a3 h z hF k
    rw [fX12_seats_L190] at hF
    refine v_iload_n (j := 2) dX12_seats_190 rfl ?_
    refine v_iload_n (j := 1) dX12_seats_191 rfl ?_
    refine v_icmp_ge dX12_seats_192 (by decide : _ = ((211 : Nat) : Int)) (fun q => ?_) (fun q => ?_)
    · replace hF := brT q hF
      cases hF
      exact k
    · replace hF := brF q hF
      refine v_aload_n (j := 0) dX12_seats_195 rfl ?_
      refine v_aload_n (j := 0) dX12_seats_196 rfl ?_
      refine v_getL (c := 12) rfl rfl rfl ly12_65 cz12 flX12_172 dX12_seats_197 ?_
      refine v_iload_n (j := 2) dX12_seats_200 rfl ?_
      replace hF := gd_use hF
      obtain ⟨q45, hF⟩ := hF
      refine v_iald rfl q45 dX12_seats_201 ?_
      replace hF := bd_use hF
      obtain ⟨r46, h47, er46, hF⟩ := hF
      refine v_cV (hm := h47) (av := [zi (gI h 102 0 (ix a3))]) (st := []) (stn := []) (tX12_byRights er46) lcX12_byRights mlX12_402 imX12_byRights seX12_byRights rfl rfl rfl rfl ⟨by decide, by decide⟩ (Nat.le_of_ble_eq_true rfl) dX12_seats_202 rfl rfl ?_
      clear er46
      obtain ⟨v48, ev48⟩ : ∃ y : Int32, y = a3 + 1 := ⟨_, rfl⟩
      replace hF := lb_use ev48 hF
      refine v_iinc (j := 2) (v := v48) (ls' := [(3, zi v48), (0, zr 12 0), (2, zi a2)]) dX12_seats_205 rfl (by rw [ev48]; rfl) (by decide) rfl ?_
      clear ev48
      refine v_goto (tgt := 190) dX12_seats_208 (by decide) ?_
      refine v_sub [1, 2, 0] rfl ?_
      exact ih a2 v48 h47 _ hF k
set_option maxHeartbeats 4000000 in
set_option maxRecDepth 100000 in
theorem tX12_seats_L216 {X : Cz} {h0 : Hp} {r : Option AV} {hE : Hp} : ∀ (n : Nat) (a2 : Int32) (a3 : Int32) (a4 : Int32) (h : Hp) (z : (Int32 × Int32) × Hp), fX12_seats_L216 n a2 a3 a4 h = some z → V X mX12_seats true h0 263 [(0, zr 12 0), (2, zi a2), (3, zi z.1.1), (4, zi z.1.2)] [] z.2 r hE → V X mX12_seats true h0 216 [(0, zr 12 0), (2, zi a2), (3, zi a3), (4, zi a4)] [] h r hE := by
  intro n
  induction n with
  | zero => intro a2 a3 a4 h z hF k; cases hF
  | succ n ih =>
    intro a2 a3 a4 h z hF k
    rw [fX12_seats_L216] at hF
    refine v_iload (j := 3) dX12_seats_216 rfl ?_
    refine v_iload_n (j := 1) dX12_seats_218 rfl ?_
    refine v_icmp_ge dX12_seats_219 (by decide : _ = ((263 : Nat) : Int)) (fun q => ?_) (fun q => ?_)
    · replace hF := brT q hF
      cases hF
      exact k
    · replace hF := brF q hF
      refine v_aload_n (j := 0) dX12_seats_222 rfl ?_
      refine v_getL (c := 12) rfl rfl rfl ly12_62 cz12 flX12_163 dX12_seats_223 ?_
      refine v_aload_n (j := 0) dX12_seats_226 rfl ?_
      refine v_getL (c := 12) rfl rfl rfl ly12_65 cz12 flX12_172 dX12_seats_227 ?_
      refine v_iload (j := 3) dX12_seats_230 rfl ?_
      replace hF := gd_use hF
      obtain ⟨q52, hF⟩ := hF
      refine v_iald rfl q52 dX12_seats_232 ?_
      replace hF := gd_use hF
      obtain ⟨q53, hF⟩ := hF
      refine v_iald rfl q53 dX12_seats_233 ?_
      refine v_iconst (v := (-1)) dX12_seats_234 (by decide) ?_
      refine v_icmp_eq dX12_seats_235 (by decide : _ = ((241 : Nat) : Int)) (fun q => ?_) (fun q => ?_)
      · replace hF := brT q hF
        refine v_aload_n (j := 0) dX12_seats_241 rfl ?_
        refine v_getL (c := 12) rfl rfl rfl ly12_66 cz12 flX12_175 dX12_seats_242 ?_
        refine v_iload_n (j := 2) dX12_seats_245 rfl ?_
        refine v_aload_n (j := 0) dX12_seats_246 rfl ?_
        refine v_getL (c := 12) rfl rfl rfl ly12_65 cz12 flX12_172 dX12_seats_247 ?_
        refine v_iload (j := 3) dX12_seats_250 rfl ?_
        replace hF := gd_use hF
        obtain ⟨q54, hF⟩ := hF
        refine v_iald rfl q54 dX12_seats_252 ?_
        replace hF := gd_use hF
        obtain ⟨q55, hF⟩ := hF
        refine v_iast rfl q55 dX12_seats_253 ?_
        refine v_toph fun h56 eh56 => ?_
        replace hF := lb_use eh56 hF
        clear eh56
        obtain ⟨v57, ev57⟩ : ∃ y : Int32, y = a3 + 1 := ⟨_, rfl⟩
        replace hF := lb_use ev57 hF
        refine v_iinc (j := 2) (v := v57) (ls' := [(3, zi v57), (0, zr 12 0), (2, zi a2), (4, zi a4)]) dX12_seats_254 rfl (by rw [ev57]; rfl) (by decide) rfl ?_
        clear ev57
        obtain ⟨v58, ev58⟩ : ∃ y : Int32, y = a4 + 1 := ⟨_, rfl⟩
        replace hF := lb_use ev58 hF
        refine v_iinc (j := 3) (v := v58) (ls' := [(4, zi v58), (3, zi v57), (0, zr 12 0), (2, zi a2)]) dX12_seats_257 rfl (by rw [ev58]; rfl) (by decide) rfl ?_
        clear ev58
        refine v_goto (tgt := 216) dX12_seats_260 (by decide) ?_
        refine v_sub [2, 3, 1, 0] rfl ?_
        exact ih a2 v57 v58 h56 _ hF k
      · replace hF := brF q hF
        refine v_goto (tgt := 257) dX12_seats_238 (by decide) ?_
        obtain ⟨v59, ev59⟩ : ∃ y : Int32, y = a4 + 1 := ⟨_, rfl⟩
        replace hF := lb_use ev59 hF
        refine v_iinc (j := 3) (v := v59) (ls' := [(4, zi v59), (0, zr 12 0), (2, zi a2), (3, zi a3)]) dX12_seats_257 rfl (by rw [ev59]; rfl) (by decide) rfl ?_
        clear ev59
        refine v_goto (tgt := 216) dX12_seats_260 (by decide) ?_
        refine v_sub [1, 2, 3, 0] rfl ?_
        exact ih a2 a3 v59 h _ hF k
set_option maxHeartbeats 4000000 in
set_option maxRecDepth 100000 in
theorem tX12_seats_L266 {X : Cz} {h0 : Hp} {r : Option AV} {hE : Hp} : ∀ (n : Nat) (a3 : Int32) (a4 : Int32) (h : Hp) (z : (Int32) × Hp), fX12_seats_L266 n a3 a4 h = some z → V X mX12_seats true h0 294 [(0, zr 12 0), (3, zi a3), (4, zi z.1)] [] z.2 r hE → V X mX12_seats true h0 266 [(0, zr 12 0), (3, zi a3), (4, zi a4)] [] h r hE := by
  intro n
  induction n with
  | zero => intro a3 a4 h z hF k; cases hF
  | succ n ih =>
    intro a3 a4 h z hF k
    rw [fX12_seats_L266] at hF
    refine v_iload (j := 2) dX12_seats_266 rfl ?_
    refine v_sipush (v := 256) dX12_seats_268 (by decide) ?_
    refine v_icmp_gt dX12_seats_271 (by decide : _ = ((294 : Nat) : Int)) (fun q => ?_) (fun q => ?_)
    · replace hF := brT q hF
      cases hF
      exact k
    · replace hF := brF q hF
      refine v_aload_n (j := 0) dX12_seats_274 rfl ?_
      refine v_getL (c := 12) rfl rfl rfl ly12_70 cz12 flX12_187 dX12_seats_275 ?_
      refine v_sipush (v := 257) dX12_seats_278 (by decide) ?_
      refine v_iload_n (j := 1) dX12_seats_281 rfl ?_
      refine v_imul dX12_seats_282 ?_
      refine v_iload (j := 2) dX12_seats_283 rfl ?_
      refine v_iadd dX12_seats_285 ?_
      refine v_lconst (v := 0) dX12_seats_286 (by decide) ?_
      replace hF := gd_use hF
      obtain ⟨q64, hF⟩ := hF
      refine v_last rfl q64 dX12_seats_287 ?_
      refine v_toph fun h65 eh65 => ?_
      replace hF := lb_use eh65 hF
      clear eh65
      obtain ⟨v66, ev66⟩ : ∃ y : Int32, y = a4 + 1 := ⟨_, rfl⟩
      replace hF := lb_use ev66 hF
      refine v_iinc (j := 2) (v := v66) (ls' := [(4, zi v66), (0, zr 12 0), (3, zi a3)]) dX12_seats_288 rfl (by rw [ev66]; rfl) (by decide) rfl ?_
      clear ev66
      refine v_goto (tgt := 266) dX12_seats_291 (by decide) ?_
      refine v_sub [1, 2, 0] rfl ?_
      exact ih a3 v66 h65 _ hF k
set_option maxHeartbeats 4000000 in
set_option maxRecDepth 100000 in
theorem tX12_seats_L325 {X : Cz} {h0 : Hp} {r : Option AV} {hE : Hp} : ∀ (n : Nat) (a3 : Int32) (a4 : Int32) (a5 : Int32) (h : Hp) (z : (Int32) × Hp), fX12_seats_L325 n a3 a4 a5 h = some z → V X mX12_seats true h0 455 [(0, zr 12 0), (3, zi a3), (4, zi a4), (5, zi z.1)] [] z.2 r hE → V X mX12_seats true h0 325 [(0, zr 12 0), (3, zi a3), (4, zi a4), (5, zi a5)] [] h r hE := by
  intro n
  induction n with
  | zero => intro a3 a4 a5 h z hF k; cases hF
  | succ n ih =>
    intro a3 a4 a5 h z hF k
    rw [fX12_seats_L325] at hF
    refine v_iload (j := 3) dX12_seats_325 rfl ?_
    refine v_if_lt dX12_seats_327 (by decide : _ = ((455 : Nat) : Int)) (fun q => ?_) (fun q => ?_)
    · replace hF := brT q hF
      cases hF
      exact k
    · replace hF := brF q hF
      refine v_aload_n (j := 0) dX12_seats_330 rfl ?_
      refine v_getL (c := 12) rfl rfl rfl ly12_70 cz12 flX12_187 dX12_seats_331 ?_
      refine v_sipush (v := 257) dX12_seats_334 (by decide) ?_
      refine v_iload (j := 2) dX12_seats_337 rfl ?_
      refine v_imul dX12_seats_339 ?_
      refine v_iload (j := 3) dX12_seats_340 rfl ?_
      refine v_iadd dX12_seats_342 ?_
      refine v_iconst (v := 1) dX12_seats_343 (by decide) ?_
      refine v_iadd dX12_seats_344 ?_
      replace hF := gd_use hF
      obtain ⟨q73, hF⟩ := hF
      refine v_lald rfl q73 dX12_seats_345 ?_
      refine v_aload_n (j := 0) dX12_seats_346 rfl ?_
      refine v_getL (c := 12) rfl rfl rfl ly12_70 cz12 flX12_187 dX12_seats_347 ?_
      refine v_sipush (v := 257) dX12_seats_350 (by decide) ?_
      refine v_iload (j := 2) dX12_seats_353 rfl ?_
      refine v_iconst (v := 1) dX12_seats_355 (by decide) ?_
      refine v_iadd dX12_seats_356 ?_
      refine v_imul dX12_seats_357 ?_
      refine v_iload (j := 3) dX12_seats_358 rfl ?_
      refine v_iadd dX12_seats_360 ?_
      replace hF := gd_use hF
      obtain ⟨q74, hF⟩ := hF
      refine v_lald rfl q74 dX12_seats_361 ?_
      refine v_J9_max_f86c9 mlX12_367 (by decide) (Nat.le_of_ble_eq_true rfl) dX12_seats_362 ?_
      refine v_topj fun v75 ev75 => ?_
      replace hF := lb_use ev75 hF
      clear ev75
      refine v_lstore (ls' := [(6, zj v75), (0, zr 12 0), (3, zi a3), (4, zi a4), (5, zi a5)]) dX12_seats_365 (by decide) rfl ?_
      refine v_aload_n (j := 1) dX12_seats_367 rfl ?_
      refine v_aload_n (j := 1) dX12_seats_368 rfl ?_
      refine v_getL (c := 12) rfl rfl rfl ly12_66 cz12 flX12_175 dX12_seats_369 ?_
      refine v_iload (j := 3) dX12_seats_372 rfl ?_
      replace hF := gd_use hF
      obtain ⟨q76, hF⟩ := hF
      refine v_iald rfl q76 dX12_seats_374 ?_
      refine v_iload (j := 4) dX12_seats_375 rfl ?_
      replace hF := bd_use hF
      obtain ⟨r77, h78, er77, hF⟩ := hF
      refine v_cV (hm := h78) (av := [zi (gI h 103 0 (ix a4)), zi a5]) (st := []) (stn := [zi r77]) (tX12_canByRank er77) lcX12_canByRank mlX12_405 imX12_canByRank seX12_canByRank rfl rfl rfl rfl ⟨by decide, by decide⟩ (Nat.le_of_ble_eq_true rfl) dX12_seats_377 rfl rfl ?_
      clear er77
      replace hF := lb_ex hF
      obtain ⟨j79, ej79, hF⟩ := hF
      have j79V : ∀ (x80 : Int64) (h81 : Hp), j79 x80 h81 = some z → V X mX12_seats true h0 433 [(0, zr 12 0), (3, zi a3), (4, zi a4), (5, zi a5), (6, zj x80)] [] h81 r hE := by
        intro x80 h81 hF
        subst ej79
        refine v_aload_n (j := 0) dX12_seats_433 rfl ?_
        refine v_getL (c := 12) rfl rfl rfl ly12_70 cz12 flX12_187 dX12_seats_434 ?_
        refine v_sipush (v := 257) dX12_seats_437 (by decide) ?_
        refine v_iload (j := 2) dX12_seats_440 rfl ?_
        refine v_imul dX12_seats_442 ?_
        refine v_iload (j := 3) dX12_seats_443 rfl ?_
        refine v_iadd dX12_seats_445 ?_
        refine v_lload (j := 4) dX12_seats_446 rfl ?_
        replace hF := gd_use hF
        obtain ⟨q82, hF⟩ := hF
        refine v_last rfl q82 dX12_seats_448 ?_
        refine v_toph fun h83 eh83 => ?_
        replace hF := lb_use eh83 hF
        clear eh83
        obtain ⟨v84, ev84⟩ : ∃ y : Int32, y = a5 + (-1) := ⟨_, rfl⟩
        replace hF := lb_use ev84 hF
        refine v_iinc (j := 3) (v := v84) (ls' := [(5, zi v84), (0, zr 12 0), (3, zi a3), (4, zi a4), (6, zj x80)]) dX12_seats_449 rfl (by rw [ev84]; rfl) (by decide) rfl ?_
        clear ev84
        refine v_goto (tgt := 325) dX12_seats_452 (by decide) ?_
        refine v_sub [1, 2, 3, 0] rfl ?_
        exact ih a3 a4 v84 h83 _ hF k
      clear ej79
      refine v_if_eq dX12_seats_380 (by decide : _ = ((433 : Nat) : Int)) (fun q => ?_) (fun q => ?_)
      · replace hF := brT q hF
        refine v_sub [1, 2, 3, 4, 0] rfl ?_
        exact j79V v75 h78 hF
      · replace hF := brF q hF
        refine v_lload (j := 0) dX12_seats_383 rfl ?_
        refine v_aload_n (j := 1) dX12_seats_385 rfl ?_
        refine v_aload_n (j := 1) dX12_seats_386 rfl ?_
        refine v_getL (c := 12) rfl rfl rfl ly12_66 cz12 flX12_175 dX12_seats_387 ?_
        refine v_iload (j := 3) dX12_seats_390 rfl ?_
        replace hF := gd_use hF
        obtain ⟨q85, hF⟩ := hF
        refine v_iald rfl q85 dX12_seats_392 ?_
        refine v_iload (j := 4) dX12_seats_393 rfl ?_
        replace hF := bd_use hF
        obtain ⟨r86, h87, er86, hF⟩ := hF
        refine v_cV (hm := h87) (av := [zi (gI h78 103 0 (ix a4)), zi a5]) (st := [zj v75]) (stn := [zj r86, zj v75]) (tX12_gains er86) lcX12_gains mlX12_408 imX12_gains seX12_gains rfl rfl rfl rfl ⟨by decide, by decide⟩ (Nat.le_of_ble_eq_true rfl) dX12_seats_395 rfl rfl ?_
        clear er86
        refine v_aload_n (j := 1) dX12_seats_398 rfl ?_
        refine v_getL (c := 12) rfl rfl rfl ly12_70 cz12 flX12_187 dX12_seats_399 ?_
        refine v_sipush (v := 257) dX12_seats_402 (by decide) ?_
        refine v_iload (j := 3) dX12_seats_405 rfl ?_
        refine v_iconst (v := 1) dX12_seats_407 (by decide) ?_
        refine v_iadd dX12_seats_408 ?_
        refine v_imul dX12_seats_409 ?_
        refine v_iload (j := 4) dX12_seats_410 rfl ?_
        refine v_iadd dX12_seats_412 ?_
        refine v_aload_n (j := 1) dX12_seats_413 rfl ?_
        refine v_getL (c := 12) rfl rfl rfl ly12_26 cz12 flX12_64 dX12_seats_414 ?_
        refine v_aload_n (j := 1) dX12_seats_417 rfl ?_
        refine v_getL (c := 12) rfl rfl rfl ly12_66 cz12 flX12_175 dX12_seats_418 ?_
        refine v_iload (j := 3) dX12_seats_421 rfl ?_
        replace hF := gd_use hF
        obtain ⟨q88, hF⟩ := hF
        refine v_iald rfl q88 dX12_seats_423 ?_
        replace hF := gd_use hF
        obtain ⟨q89, hF⟩ := hF
        refine v_iald rfl q89 dX12_seats_424 ?_
        refine v_iadd dX12_seats_425 ?_
        replace hF := gd_use hF
        obtain ⟨q90, hF⟩ := hF
        refine v_lald rfl q90 dX12_seats_426 ?_
        refine v_ladd dX12_seats_427 ?_
        refine v_J9_max_f86c9 mlX12_367 (by decide) (Nat.le_of_ble_eq_true rfl) dX12_seats_428 ?_
        refine v_topj fun v91 ev91 => ?_
        replace hF := lb_use ev91 hF
        clear ev91
        refine v_lstore (ls' := [(6, zj v91), (0, zr 12 0), (3, zi a3), (4, zi a4), (5, zi a5)]) dX12_seats_431 (by decide) rfl ?_
        refine v_sub [1, 2, 3, 4, 0] rfl ?_
        exact j79V v91 h87 hF
set_option maxHeartbeats 4000000 in
set_option maxRecDepth 100000 in
theorem tX12_seats_L299 {X : Cz} {h0 : Hp} {r : Option AV} {hE : Hp} : ∀ (n : Nat) (a3 : Int32) (a4 : Int32) (h : Hp) (z : (Int32) × Hp), fX12_seats_L299 n a3 a4 h = some z → V X mX12_seats true h0 461 [(0, zr 12 0), (3, zi a3), (4, zi z.1)] [] z.2 r hE → V X mX12_seats true h0 299 [(0, zr 12 0), (3, zi a3), (4, zi a4)] [] h r hE := by
  intro n
  induction n with
  | zero => intro a3 a4 h z hF k; cases hF
  | succ n ih =>
    intro a3 a4 h z hF k
    rw [fX12_seats_L299] at hF
    refine v_iload (j := 2) dX12_seats_299 rfl ?_
    refine v_if_lt dX12_seats_301 (by decide : _ = ((461 : Nat) : Int)) (fun q => ?_) (fun q => ?_)
    · replace hF := brT q hF
      cases hF
      exact k
    · replace hF := brF q hF
      refine v_aload_n (j := 0) dX12_seats_304 rfl ?_
      refine v_getL (c := 12) rfl rfl rfl ly12_70 cz12 flX12_187 dX12_seats_305 ?_
      refine v_sipush (v := 257) dX12_seats_308 (by decide) ?_
      refine v_iload (j := 2) dX12_seats_311 rfl ?_
      refine v_imul dX12_seats_313 ?_
      refine v_sipush (v := 256) dX12_seats_314 (by decide) ?_
      refine v_iadd dX12_seats_317 ?_
      refine v_lconst (v := 0) dX12_seats_318 (by decide) ?_
      replace hF := gd_use hF
      obtain ⟨q71, hF⟩ := hF
      refine v_last rfl q71 dX12_seats_319 ?_
      refine v_toph fun h72 eh72 => ?_
      replace hF := lb_use eh72 hF
      clear eh72
      refine v_sipush (v := 255) dX12_seats_320 (by decide) ?_
      refine v_istore (ls' := [(5, zi 255), (0, zr 12 0), (3, zi a3), (4, zi a4)]) dX12_seats_323 (by decide) rfl ?_
      refine v_sub [1, 2, 3, 0] rfl ?_
      replace hF := bd_use hF
      obtain ⟨v94, h92, ev94, hF⟩ := hF
      refine tX12_seats_L325 _ a3 a4 255 h72 _ ev94 ?_
      clear ev94
      obtain ⟨v95, ev95⟩ : ∃ y : Int32, y = a4 + (-1) := ⟨_, rfl⟩
      replace hF := lb_use ev95 hF
      refine v_iinc (j := 2) (v := v95) (ls' := [(4, zi v95), (0, zr 12 0), (3, zi a3), (5, zi v94)]) dX12_seats_455 rfl (by rw [ev95]; rfl) (by decide) rfl ?_
      clear ev95
      refine v_goto (tgt := 299) dX12_seats_458 (by decide) ?_
      refine v_sub [1, 2, 0] rfl ?_
      exact ih a3 v95 h92 _ hF k
set_option maxHeartbeats 4000000 in
set_option maxRecDepth 100000 in
theorem tX12_seats_L505 {X : Cz} {h0 : Hp} {r : Option AV} {hE : Hp} : ∀ (n : Nat) (a3 : Int32) (a4 : Int32) (a5 : Int32) (a6 : Int32) (a7 : Int64) (a9 : Int32) (a10 : Int32) (h : Hp) (z : (Int32 × Int32) × Hp), fX12_seats_L505 n a3 a4 a5 a6 a7 a9 a10 h = some z → V X mX12_seats true h0 579 [(0, zr 12 0), (3, zi a3), (4, zi a4), (5, zi a5), (6, zi a6), (7, zj a7), (9, zi z.1.1), (10, zi z.1.2)] [] z.2 r hE → V X mX12_seats true h0 505 [(0, zr 12 0), (3, zi a3), (4, zi a4), (5, zi a5), (6, zi a6), (7, zj a7), (9, zi a9), (10, zi a10)] [] h r hE := by
  intro n
  induction n with
  | zero => intro a3 a4 a5 a6 a7 a9 a10 h z hF k; cases hF
  | succ n ih =>
    intro a3 a4 a5 a6 a7 a9 a10 h z hF k
    rw [fX12_seats_L505] at hF
    refine v_iload (j := 7) dX12_seats_505 rfl ?_
    refine v_sipush (v := 256) dX12_seats_507 (by decide) ?_
    refine v_icmp_ge dX12_seats_510 (by decide : _ = ((579 : Nat) : Int)) (fun q => ?_) (fun q => ?_)
    · replace hF := brT q hF
      cases hF
      exact k
    · replace hF := brF q hF
      refine v_iload (j := 6) dX12_seats_513 rfl ?_
      refine v_iconst (v := (-1)) dX12_seats_515 (by decide) ?_
      refine v_icmp_ne dX12_seats_516 (by decide : _ = ((579 : Nat) : Int)) (fun q => ?_) (fun q => ?_)
      · replace hF := brF q hF
        cases hF
        exact k
      · replace hF := brT (Decidable.not_not.mp q) hF
        refine v_aload_n (j := 0) dX12_seats_519 rfl ?_
        refine v_iload (j := 4) dX12_seats_520 rfl ?_
        refine v_iload (j := 7) dX12_seats_522 rfl ?_
        replace hF := bd_use hF
        obtain ⟨r103, h104, er103, hF⟩ := hF
        refine v_cV (hm := h104) (av := [zi a6, zi a10]) (st := []) (stn := [zi r103]) (tX12_canByRank er103) lcX12_canByRank mlX12_405 imX12_canByRank seX12_canByRank rfl rfl rfl rfl ⟨by decide, by decide⟩ (Nat.le_of_ble_eq_true rfl) dX12_seats_524 rfl rfl ?_
        clear er103
        refine v_if_eq dX12_seats_527 (by decide : _ = ((573 : Nat) : Int)) (fun q => ?_) (fun q => ?_)
        · replace hF := brT q hF
          obtain ⟨v105, ev105⟩ : ∃ y : Int32, y = a10 + 1 := ⟨_, rfl⟩
          replace hF := lb_use ev105 hF
          refine v_iinc (j := 7) (v := v105) (ls' := [(10, zi v105), (0, zr 12 0), (3, zi a3), (4, zi a4), (5, zi a5), (6, zi a6), (7, zj a7), (9, zi a9)]) dX12_seats_573 rfl (by rw [ev105]; rfl) (by decide) rfl ?_
          clear ev105
          refine v_goto (tgt := 505) dX12_seats_576 (by decide) ?_
          refine v_sub [1, 2, 3, 4, 5, 6, 7, 0] rfl ?_
          exact ih a3 a4 a5 a6 a7 a9 v105 h104 _ hF k
        · replace hF := brF q hF
          refine v_aload_n (j := 0) dX12_seats_530 rfl ?_
          refine v_iload (j := 4) dX12_seats_531 rfl ?_
          refine v_iload (j := 7) dX12_seats_533 rfl ?_
          replace hF := bd_use hF
          obtain ⟨r106, h107, er106, hF⟩ := hF
          refine v_cV (hm := h107) (av := [zi a6, zi a10]) (st := []) (stn := [zj r106]) (tX12_gains er106) lcX12_gains mlX12_408 imX12_gains seX12_gains rfl rfl rfl rfl ⟨by decide, by decide⟩ (Nat.le_of_ble_eq_true rfl) dX12_seats_535 rfl rfl ?_
          clear er106
          refine v_aload_n (j := 0) dX12_seats_538 rfl ?_
          refine v_getL (c := 12) rfl rfl rfl ly12_70 cz12 flX12_187 dX12_seats_539 ?_
          refine v_sipush (v := 257) dX12_seats_542 (by decide) ?_
          refine v_iload (j := 3) dX12_seats_545 rfl ?_
          refine v_iconst (v := 1) dX12_seats_547 (by decide) ?_
          refine v_iadd dX12_seats_548 ?_
          refine v_imul dX12_seats_549 ?_
          refine v_iload (j := 7) dX12_seats_550 rfl ?_
          refine v_iadd dX12_seats_552 ?_
          refine v_aload_n (j := 0) dX12_seats_553 rfl ?_
          refine v_getL (c := 12) rfl rfl rfl ly12_26 cz12 flX12_64 dX12_seats_554 ?_
          refine v_iload (j := 4) dX12_seats_557 rfl ?_
          replace hF := gd_use hF
          obtain ⟨q108, hF⟩ := hF
          refine v_iald rfl q108 dX12_seats_559 ?_
          refine v_iadd dX12_seats_560 ?_
          replace hF := gd_use hF
          obtain ⟨q109, hF⟩ := hF
          refine v_lald rfl q109 dX12_seats_561 ?_
          refine v_ladd dX12_seats_562 ?_
          refine v_lload (j := 5) dX12_seats_563 rfl ?_
          refine v_lif_ne (x := (r106 + (gJ h107 107 0 (ix ((((257 : Int32) * (a5 + 1)) + a10) + (gI h107 66 0 (ix a6))))))) (y := a7) dX12_seats_565 dX12_seats_566 (by decide : _ = ((573 : Nat) : Int)) (fun q => ?_) (fun q => ?_)
          · replace hF := brF q hF
            obtain ⟨v110, ev110⟩ : ∃ y : Int32, y = a10 + 1 := ⟨_, rfl⟩
            replace hF := lb_use ev110 hF
            refine v_iinc (j := 7) (v := v110) (ls' := [(10, zi v110), (0, zr 12 0), (3, zi a3), (4, zi a4), (5, zi a5), (6, zi a6), (7, zj a7), (9, zi a9)]) dX12_seats_573 rfl (by rw [ev110]; rfl) (by decide) rfl ?_
            clear ev110
            refine v_goto (tgt := 505) dX12_seats_576 (by decide) ?_
            refine v_sub [1, 2, 3, 4, 5, 6, 7, 0] rfl ?_
            exact ih a3 a4 a5 a6 a7 a9 v110 h107 _ hF k
          · replace hF := brT (Decidable.not_not.mp q) hF
            refine v_iload (j := 7) dX12_seats_569 rfl ?_
            refine v_istore (ls' := [(9, zi a10), (0, zr 12 0), (3, zi a3), (4, zi a4), (5, zi a5), (6, zi a6), (7, zj a7), (10, zi a10)]) dX12_seats_571 (by decide) rfl ?_
            obtain ⟨v111, ev111⟩ : ∃ y : Int32, y = a10 + 1 := ⟨_, rfl⟩
            replace hF := lb_use ev111 hF
            refine v_iinc (j := 7) (v := v111) (ls' := [(10, zi v111), (9, zi a10), (0, zr 12 0), (3, zi a3), (4, zi a4), (5, zi a5), (6, zi a6), (7, zj a7)]) dX12_seats_573 rfl (by rw [ev111]; rfl) (by decide) rfl ?_
            clear ev111
            refine v_goto (tgt := 505) dX12_seats_576 (by decide) ?_
            refine v_sub [2, 3, 4, 5, 6, 7, 1, 0] rfl ?_
            exact ih a3 a4 a5 a6 a7 a10 v111 h107 _ hF k
set_option maxHeartbeats 4000000 in
set_option maxRecDepth 100000 in
theorem tX12_seats_L467 {X : Cz} {h0 : Hp} {r : Option AV} {hE : Hp} : ∀ (n : Nat) (a3 : Int32) (a4 : Int32) (a5 : Int32) (h : Hp) (z : (Int32 × Int32) × Hp), fX12_seats_L467 n a3 a4 a5 h = some z → V X mX12_seats true h0 623 [(0, zr 12 0), (3, zi a3), (4, zi z.1.1), (5, zi z.1.2)] [] z.2 r hE → V X mX12_seats true h0 467 [(0, zr 12 0), (3, zi a3), (4, zi a4), (5, zi a5)] [] h r hE := by
  intro n
  induction n with
  | zero => intro a3 a4 a5 h z hF k; cases hF
  | succ n ih =>
    intro a3 a4 a5 h z hF k
    rw [fX12_seats_L467] at hF
    refine v_iload (j := 3) dX12_seats_467 rfl ?_
    refine v_iload_n (j := 1) dX12_seats_469 rfl ?_
    refine v_icmp_ge dX12_seats_470 (by decide : _ = ((623 : Nat) : Int)) (fun q => ?_) (fun q => ?_)
    · replace hF := brT q hF
      cases hF
      exact k
    · replace hF := brF q hF
      refine v_aload_n (j := 0) dX12_seats_473 rfl ?_
      refine v_getL (c := 12) rfl rfl rfl ly12_66 cz12 flX12_175 dX12_seats_474 ?_
      refine v_iload (j := 3) dX12_seats_477 rfl ?_
      replace hF := gd_use hF
      obtain ⟨q99, hF⟩ := hF
      refine v_iald rfl q99 dX12_seats_479 ?_
      refine v_topi fun v100 ev100 => ?_
      replace hF := lb_use ev100 hF
      clear ev100
      refine v_istore (ls' := [(6, zi v100), (0, zr 12 0), (3, zi a3), (4, zi a4), (5, zi a5)]) dX12_seats_480 (by decide) rfl ?_
      refine v_aload_n (j := 1) dX12_seats_482 rfl ?_
      refine v_getL (c := 12) rfl rfl rfl ly12_70 cz12 flX12_187 dX12_seats_483 ?_
      refine v_sipush (v := 257) dX12_seats_486 (by decide) ?_
      refine v_iload (j := 4) dX12_seats_489 rfl ?_
      refine v_imul dX12_seats_491 ?_
      refine v_iload (j := 3) dX12_seats_492 rfl ?_
      refine v_iadd dX12_seats_494 ?_
      replace hF := gd_use hF
      obtain ⟨q101, hF⟩ := hF
      refine v_lald rfl q101 dX12_seats_495 ?_
      refine v_topj fun v102 ev102 => ?_
      replace hF := lb_use ev102 hF
      clear ev102
      refine v_lstore (ls' := [(7, zj v102), (6, zi v100), (0, zr 12 0), (3, zi a3), (4, zi a4), (5, zi a5)]) dX12_seats_496 (by decide) rfl ?_
      refine v_iconst (v := (-1)) dX12_seats_498 (by decide) ?_
      refine v_istore (ls' := [(9, zi (-1)), (7, zj v102), (6, zi v100), (0, zr 12 0), (3, zi a3), (4, zi a4), (5, zi a5)]) dX12_seats_499 (by decide) rfl ?_
      refine v_iload (j := 5) dX12_seats_501 rfl ?_
      refine v_istore (ls' := [(10, zi a4), (9, zi (-1)), (7, zj v102), (6, zi v100), (0, zr 12 0), (3, zi a3), (4, zi a4), (5, zi a5)]) dX12_seats_503 (by decide) rfl ?_
      refine v_sub [4, 5, 6, 7, 3, 2, 1, 0] rfl ?_
      replace hF := bd_use hF
      obtain ⟨t113, h112, et113, hF⟩ := hF
      refine tX12_seats_L505 _ a3 a4 a5 v100 v102 (-1) a4 h _ et113 ?_
      clear et113
      obtain ⟨v114, v115⟩ := t113
      replace hF := lb_use (x := v114) rfl hF
      replace hF := lb_use (x := v115) rfl hF
      refine v_iload (j := 6) dX12_seats_579 rfl ?_
      refine v_iconst (v := (-1)) dX12_seats_581 (by decide) ?_
      refine v_icmp_ne dX12_seats_582 (by decide : _ = ((588 : Nat) : Int)) (fun q => ?_) (fun q => ?_)
      · replace hF := brF q hF
        refine v_iload (j := 6) dX12_seats_588 rfl ?_
        refine v_aload_n (j := 0) dX12_seats_590 rfl ?_
        refine v_getL (c := 12) rfl rfl rfl ly12_26 cz12 flX12_64 dX12_seats_591 ?_
        refine v_iload (j := 4) dX12_seats_594 rfl ?_
        replace hF := gd_use hF
        obtain ⟨q116, hF⟩ := hF
        refine v_iald rfl q116 dX12_seats_596 ?_
        refine v_iadd dX12_seats_597 ?_
        refine v_topi fun v117 ev117 => ?_
        replace hF := lb_use ev117 hF
        clear ev117
        refine v_istore (ls' := [(4, zi v117), (0, zr 12 0), (3, zi a3), (5, zi a5), (6, zi v100), (7, zj v102), (9, zi v114), (10, zi v115)]) dX12_seats_598 (by decide) rfl ?_
        refine v_aload_n (j := 1) dX12_seats_600 rfl ?_
        refine v_iload (j := 4) dX12_seats_601 rfl ?_
        refine v_iload (j := 6) dX12_seats_603 rfl ?_
        refine v_bipush (v := 32) dX12_seats_605 (by decide) ?_
        refine v_idiv dX12_seats_607 (by decide) ?_
        refine v_iload (j := 6) dX12_seats_608 rfl ?_
        refine v_bipush (v := 32) dX12_seats_610 (by decide) ?_
        refine v_irem dX12_seats_612 (by decide) ?_
        refine v_iconst (v := 0) dX12_seats_613 (by decide) ?_
        replace hF := bd_use hF
        obtain ⟨r118, h119, er118, hF⟩ := hF
        refine v_cV (hm := h119) (av := [zi v100, zi (v114 / 32), zi (v114 - v114 / 32 * 32), zi 0]) (st := []) (stn := []) (tX12_takes er118) lcX12_takes mlX12_398 imX12_takes seX12_takes rfl rfl rfl rfl ⟨by decide, by decide⟩ (Nat.le_of_ble_eq_true rfl) dX12_seats_614 rfl rfl ?_
        clear er118
        obtain ⟨v120, ev120⟩ : ∃ y : Int32, y = a5 + 1 := ⟨_, rfl⟩
        replace hF := lb_use ev120 hF
        refine v_iinc (j := 3) (v := v120) (ls' := [(5, zi v120), (4, zi v117), (0, zr 12 0), (3, zi a3), (6, zi v100), (7, zj v102), (9, zi v114), (10, zi v115)]) dX12_seats_617 rfl (by rw [ev120]; rfl) (by decide) rfl ?_
        clear ev120
        refine v_goto (tgt := 467) dX12_seats_620 (by decide) ?_
        refine v_sub [2, 3, 1, 0] rfl ?_
        exact ih a3 v117 v120 h119 _ hF k
      · replace hF := brT (Decidable.not_not.mp q) hF
        refine v_goto (tgt := 617) dX12_seats_585 (by decide) ?_
        obtain ⟨v121, ev121⟩ : ∃ y : Int32, y = a5 + 1 := ⟨_, rfl⟩
        replace hF := lb_use ev121 hF
        refine v_iinc (j := 3) (v := v121) (ls' := [(5, zi v121), (0, zr 12 0), (3, zi a3), (4, zi a4), (6, zi v100), (7, zj v102), (9, zi v114), (10, zi v115)]) dX12_seats_617 rfl (by rw [ev121]; rfl) (by decide) rfl ?_
        clear ev121
        refine v_goto (tgt := 467) dX12_seats_620 (by decide) ?_
        refine v_sub [1, 2, 3, 0] rfl ?_
        exact ih a3 a4 v121 h112 _ hF k
set_option maxHeartbeats 4000000 in
set_option maxRecDepth 100000 in
theorem tX12_seats {X : Cz} {a1 : Int32} {h hE : Hp} {rE : Unit} (hF : fX12_seats a1 h = some (rE, hE)) : Ct X mX12_seats true [zr 12 0, zi a1] h (none) hE := by
  refine Ct_of (by decide) (Nat.le_of_ble_eq_true rfl) (ls := [(0, zr 12 0), (1, zi a1)]) rfl ?_
  unfold fX12_seats at hF
  refine v_aload_n (j := 0) dX12_seats_0 rfl ?_
  replace hF := bd_use hF
  obtain ⟨r1, h2, er1, hF⟩ := hF
  refine v_cV (hm := h2) (av := []) (st := []) (stn := []) (tX12_listens er1) lcX12_listens mlX12_310 imX12_listens seX12_listens rfl rfl rfl rfl ⟨by decide, by decide⟩ (Nat.le_of_ble_eq_true rfl) dX12_seats_1 rfl rfl ?_
  clear er1
  refine v_iconst (v := 0) dX12_seats_4 (by decide) ?_
  refine v_istore_n (ls' := [(2, zi 0), (0, zr 12 0), (1, zi a1)]) dX12_seats_5 (by decide) rfl ?_
  refine v_sub [1, 2, 0] rfl ?_
  replace hF := bd_use hF
  obtain ⟨v22, h20, ev22, hF⟩ := hF
  refine tX12_seats_L6 _ a1 0 h2 _ ev22 ?_
  clear ev22
  refine v_iconst (v := 0) dX12_seats_87 (by decide) ?_
  refine v_istore_n (ls' := [(2, zi 0), (0, zr 12 0), (1, zi a1)]) dX12_seats_88 (by decide) rfl ?_
  refine v_iconst (v := 0) dX12_seats_89 (by decide) ?_
  refine v_istore_n (ls' := [(3, zi 0), (2, zi 0), (0, zr 12 0), (1, zi a1)]) dX12_seats_90 (by decide) rfl ?_
  refine v_sub [2, 1, 0] rfl ?_
  replace hF := bd_use hF
  obtain ⟨t42, h41, et42, hF⟩ := hF
  refine tX12_seats_L91 _ 0 0 h20 _ et42 ?_
  clear et42
  obtain ⟨v43, v44⟩ := t42
  replace hF := lb_use (x := v43) rfl hF
  replace hF := lb_use (x := v44) rfl hF
  refine v_iconst (v := 0) dX12_seats_188 (by decide) ?_
  refine v_istore_n (ls' := [(3, zi 0), (0, zr 12 0), (2, zi v43)]) dX12_seats_189 (by decide) rfl ?_
  refine v_sub [1, 2, 0] rfl ?_
  replace hF := bd_use hF
  obtain ⟨v51, h49, ev51, hF⟩ := hF
  refine tX12_seats_L190 _ v43 0 h41 _ ev51 ?_
  clear ev51
  refine v_iconst (v := 0) dX12_seats_211 (by decide) ?_
  refine v_istore_n (ls' := [(3, zi 0), (0, zr 12 0), (2, zi v43)]) dX12_seats_212 (by decide) rfl ?_
  refine v_iconst (v := 0) dX12_seats_213 (by decide) ?_
  refine v_istore (ls' := [(4, zi 0), (3, zi 0), (0, zr 12 0), (2, zi v43)]) dX12_seats_214 (by decide) rfl ?_
  refine v_sub [2, 3, 1, 0] rfl ?_
  replace hF := bd_use hF
  obtain ⟨t61, h60, et61, hF⟩ := hF
  refine tX12_seats_L216 _ v43 0 0 h49 _ et61 ?_
  clear et61
  obtain ⟨v62, v63⟩ := t61
  replace hF := lb_use (x := v62) rfl hF
  replace hF := lb_use (x := v63) rfl hF
  refine v_iconst (v := 0) dX12_seats_263 (by decide) ?_
  refine v_istore (ls' := [(4, zi 0), (0, zr 12 0), (2, zi v43), (3, zi v62)]) dX12_seats_264 (by decide) rfl ?_
  refine v_sub [1, 3, 0] rfl ?_
  replace hF := bd_use hF
  obtain ⟨v69, h67, ev69, hF⟩ := hF
  refine tX12_seats_L266 _ v62 0 h60 _ ev69 ?_
  clear ev69
  refine v_iload_n (j := 1) dX12_seats_294 rfl ?_
  refine v_iconst (v := 1) dX12_seats_295 (by decide) ?_
  refine v_isub dX12_seats_296 ?_
  refine v_topi fun v70 ev70 => ?_
  replace hF := lb_use ev70 hF
  clear ev70
  refine v_istore (ls' := [(4, zi v70), (0, zr 12 0), (3, zi v62)]) dX12_seats_297 (by decide) rfl ?_
  refine v_sub [1, 2, 0] rfl ?_
  replace hF := bd_use hF
  obtain ⟨v98, h96, ev98, hF⟩ := hF
  refine tX12_seats_L299 _ v62 v70 h67 _ ev98 ?_
  clear ev98
  refine v_iconst (v := 0) dX12_seats_461 (by decide) ?_
  refine v_istore (ls' := [(4, zi 0), (0, zr 12 0), (3, zi v62)]) dX12_seats_462 (by decide) rfl ?_
  refine v_iconst (v := 0) dX12_seats_464 (by decide) ?_
  refine v_istore (ls' := [(5, zi 0), (4, zi 0), (0, zr 12 0), (3, zi v62)]) dX12_seats_465 (by decide) rfl ?_
  refine v_sub [2, 3, 1, 0] rfl ?_
  replace hF := bd_use hF
  obtain ⟨t123, h122, et123, hF⟩ := hF
  refine tX12_seats_L467 _ v62 0 0 h96 _ et123 ?_
  clear et123
  obtain ⟨v124, v125⟩ := t123
  replace hF := lb_use (x := v124) rfl hF
  replace hF := lb_use (x := v125) rfl hF
  cases hF
  exact v_vret rfl dX12_seats_623
