/-! functions and ties, printed by program (wip/gen/dec.py) -/
theorem dX12_hasUse_0 : decode cX12_hasUse 0 = .ok (.sipush 200, 3) := by decide +kernel
theorem dX12_hasUse_3 : decode cX12_hasUse 3 = .ok (.iload_n 1, 1) := by decide +kernel
theorem dX12_hasUse_4 : decode cX12_hasUse 4 = .ok (.imul, 1) := by decide +kernel
theorem dX12_hasUse_5 : decode cX12_hasUse 5 = .ok (.aload_n 0, 1) := by decide +kernel
theorem dX12_hasUse_6 : decode cX12_hasUse 6 = .ok (.getfield 251, 3) := by decide +kernel
theorem dX12_hasUse_9 : decode cX12_hasUse 9 = .ok (.iadd, 1) := by decide +kernel
theorem dX12_hasUse_10 : decode cX12_hasUse 10 = .ok (.iconst 1, 1) := by decide +kernel
theorem dX12_hasUse_11 : decode cX12_hasUse 11 = .ok (.isub, 1) := by decide +kernel
theorem dX12_hasUse_12 : decode cX12_hasUse 12 = .ok (.istore_n 2, 1) := by decide +kernel
theorem dX12_hasUse_13 : decode cX12_hasUse 13 = .ok (.aload_n 0, 1) := by decide +kernel
theorem dX12_hasUse_14 : decode cX12_hasUse 14 = .ok (.getfield 251, 3) := by decide +kernel
theorem dX12_hasUse_17 : decode cX12_hasUse 17 = .ok (.aload_n 0, 1) := by decide +kernel
theorem dX12_hasUse_18 : decode cX12_hasUse 18 = .ok (.getfield 33, 3) := by decide +kernel
theorem dX12_hasUse_21 : decode cX12_hasUse 21 = .ok (.if_icmp .ge 5, 3) := by decide +kernel
theorem dX12_hasUse_24 : decode cX12_hasUse 24 = .ok (.iconst 0, 1) := by decide +kernel
theorem dX12_hasUse_25 : decode cX12_hasUse 25 = .ok (.ireturn, 1) := by decide +kernel
theorem dX12_hasUse_26 : decode cX12_hasUse 26 = .ok (.iconst 0, 1) := by decide +kernel
theorem dX12_hasUse_27 : decode cX12_hasUse 27 = .ok (.istore_n 3, 1) := by decide +kernel
theorem dX12_hasUse_28 : decode cX12_hasUse 28 = .ok (.iload_n 3, 1) := by decide +kernel
theorem dX12_hasUse_29 : decode cX12_hasUse 29 = .ok (.aload_n 0, 1) := by decide +kernel
theorem dX12_hasUse_30 : decode cX12_hasUse 30 = .ok (.getfield 33, 3) := by decide +kernel
theorem dX12_hasUse_33 : decode cX12_hasUse 33 = .ok (.if_icmp .ge 85, 3) := by decide +kernel
theorem dX12_hasUse_36 : decode cX12_hasUse 36 = .ok (.iload_n 2, 1) := by decide +kernel
theorem dX12_hasUse_37 : decode cX12_hasUse 37 = .ok (.iload_n 3, 1) := by decide +kernel
theorem dX12_hasUse_38 : decode cX12_hasUse 38 = .ok (.isub, 1) := by decide +kernel
theorem dX12_hasUse_39 : decode cX12_hasUse 39 = .ok (.istore 4, 2) := by decide +kernel
theorem dX12_hasUse_41 : decode cX12_hasUse 41 = .ok (.aload_n 0, 1) := by decide +kernel
theorem dX12_hasUse_42 : decode cX12_hasUse 42 = .ok (.getfield 130, 3) := by decide +kernel
theorem dX12_hasUse_45 : decode cX12_hasUse 45 = .ok (.iload 4, 2) := by decide +kernel
theorem dX12_hasUse_47 : decode cX12_hasUse 47 = .ok (.iaload, 1) := by decide +kernel
theorem dX12_hasUse_48 : decode cX12_hasUse 48 = .ok (.iconst (-1), 1) := by decide +kernel
theorem dX12_hasUse_49 : decode cX12_hasUse 49 = .ok (.if_icmp .eq 61, 3) := by decide +kernel
theorem dX12_hasUse_52 : decode cX12_hasUse 52 = .ok (.aload_n 0, 1) := by decide +kernel
theorem dX12_hasUse_53 : decode cX12_hasUse 53 = .ok (.getfield 142, 3) := by decide +kernel
theorem dX12_hasUse_56 : decode cX12_hasUse 56 = .ok (.iload 4, 2) := by decide +kernel
theorem dX12_hasUse_58 : decode cX12_hasUse 58 = .ok (.baload, 1) := by decide +kernel
theorem dX12_hasUse_59 : decode cX12_hasUse 59 = .ok (.ifCond .ne 51, 3) := by decide +kernel
theorem dX12_hasUse_62 : decode cX12_hasUse 62 = .ok (.aload_n 0, 1) := by decide +kernel
theorem dX12_hasUse_63 : decode cX12_hasUse 63 = .ok (.getfield 130, 3) := by decide +kernel
theorem dX12_hasUse_66 : decode cX12_hasUse 66 = .ok (.iload 4, 2) := by decide +kernel
theorem dX12_hasUse_68 : decode cX12_hasUse 68 = .ok (.iaload, 1) := by decide +kernel
theorem dX12_hasUse_69 : decode cX12_hasUse 69 = .ok (.aload_n 0, 1) := by decide +kernel
theorem dX12_hasUse_70 : decode cX12_hasUse 70 = .ok (.getfield 130, 3) := by decide +kernel
theorem dX12_hasUse_73 : decode cX12_hasUse 73 = .ok (.iload_n 2, 1) := by decide +kernel
theorem dX12_hasUse_74 : decode cX12_hasUse 74 = .ok (.iaload, 1) := by decide +kernel
theorem dX12_hasUse_75 : decode cX12_hasUse 75 = .ok (.if_icmp .ne 35, 3) := by decide +kernel
theorem dX12_hasUse_78 : decode cX12_hasUse 78 = .ok (.aload_n 0, 1) := by decide +kernel
theorem dX12_hasUse_79 : decode cX12_hasUse 79 = .ok (.getfield 133, 3) := by decide +kernel
theorem dX12_hasUse_82 : decode cX12_hasUse 82 = .ok (.iload 4, 2) := by decide +kernel
theorem dX12_hasUse_84 : decode cX12_hasUse 84 = .ok (.iaload, 1) := by decide +kernel
theorem dX12_hasUse_85 : decode cX12_hasUse 85 = .ok (.aload_n 0, 1) := by decide +kernel
theorem dX12_hasUse_86 : decode cX12_hasUse 86 = .ok (.getfield 133, 3) := by decide +kernel
theorem dX12_hasUse_89 : decode cX12_hasUse 89 = .ok (.iload_n 2, 1) := by decide +kernel
theorem dX12_hasUse_90 : decode cX12_hasUse 90 = .ok (.iaload, 1) := by decide +kernel
theorem dX12_hasUse_91 : decode cX12_hasUse 91 = .ok (.if_icmp .ne 19, 3) := by decide +kernel
theorem dX12_hasUse_94 : decode cX12_hasUse 94 = .ok (.aload_n 0, 1) := by decide +kernel
theorem dX12_hasUse_95 : decode cX12_hasUse 95 = .ok (.getfield 136, 3) := by decide +kernel
theorem dX12_hasUse_98 : decode cX12_hasUse 98 = .ok (.iload 4, 2) := by decide +kernel
theorem dX12_hasUse_100 : decode cX12_hasUse 100 = .ok (.iaload, 1) := by decide +kernel
theorem dX12_hasUse_101 : decode cX12_hasUse 101 = .ok (.aload_n 0, 1) := by decide +kernel
theorem dX12_hasUse_102 : decode cX12_hasUse 102 = .ok (.getfield 136, 3) := by decide +kernel
theorem dX12_hasUse_105 : decode cX12_hasUse 105 = .ok (.iload_n 2, 1) := by decide +kernel
theorem dX12_hasUse_106 : decode cX12_hasUse 106 = .ok (.iaload, 1) := by decide +kernel
theorem dX12_hasUse_107 : decode cX12_hasUse 107 = .ok (.if_icmp .eq 5, 3) := by decide +kernel
theorem dX12_hasUse_110 : decode cX12_hasUse 110 = .ok (.iconst 0, 1) := by decide +kernel
theorem dX12_hasUse_111 : decode cX12_hasUse 111 = .ok (.ireturn, 1) := by decide +kernel
theorem dX12_hasUse_112 : decode cX12_hasUse 112 = .ok (.iinc 3 1, 3) := by decide +kernel
theorem dX12_hasUse_115 : decode cX12_hasUse 115 = .ok (.goto (-87), 3) := by decide +kernel
theorem dX12_hasUse_118 : decode cX12_hasUse 118 = .ok (.iconst 1, 1) := by decide +kernel
theorem dX12_hasUse_119 : decode cX12_hasUse 119 = .ok (.ireturn, 1) := by decide +kernel
def fX12_hasUse_L28 : Nat → Int32 → Int32 → Hp → Option ((Int32 ⊕ Int32) × Hp)
  | 0, _, _, _ => none
  | n + 1, a2, a3, h => br ((gI h 12 0 16) ≤ a3) (some (.inr (a3), h)) (lb (a2 - a3) (fun v2 => gd (ib v2 2400) (br ((gI h 88 0 (ix v2)) = (-1)) (some (.inl 0, h)) (gd (ib v2 2400) (br ((gI h 92 0 (ix v2)) = 0) (gd (ib v2 2400) (gd (ib a2 2400) (br ((gI h 88 0 (ix v2)) = (gI h 88 0 (ix a2))) (gd (ib v2 2400) (gd (ib a2 2400) (br ((gI h 89 0 (ix v2)) = (gI h 89 0 (ix a2))) (gd (ib v2 2400) (gd (ib a2 2400) (br ((gI h 90 0 (ix v2)) = (gI h 90 0 (ix a2))) (lb (a3 + 1) (fun v11 => fX12_hasUse_L28 n a2 v11 h)) (some (.inl 0, h))))) (some (.inl 0, h))))) (some (.inl 0, h))))) (some (.inl 0, h)))))))
def fX12_hasUse (a1 : Int32) (h : Hp) : Option (Int32 × Hp) := lb ((((200 : Int32) * a1) + (gI h 12 0 5)) - 1) (fun v1 => br ((gI h 12 0 16) ≤ (gI h 12 0 5)) (bd (fX12_hasUse_L28 FU v1 0 h) (fun u15 h12 => ms u15 (fun r16 => some (r16, h12)) (fun v14 => some (1, h12)))) (some (0, h)))
set_option maxRecDepth 20000 in
theorem tX12_hasUse_L28 {X : Cz} {h0 : Hp} {r : Option AV} {hE : Hp} : ∀ (n : Nat) (a2 : Int32) (a3 : Int32) (h : Hp) (z : (Int32 ⊕ Int32) × Hp), fX12_hasUse_L28 n a2 a3 h = some z → lk z r hE (fun v => some (zi v)) (fun t hx => V X mX12_hasUse true h0 118 [(0, zr 12 0), (2, zi a2), (3, zi t)] [] hx r hE) → V X mX12_hasUse true h0 28 [(0, zr 12 0), (2, zi a2), (3, zi a3)] [] h r hE := by
  intro n
  induction n with
  | zero => intro a2 a3 h z hF k; cases hF
  | succ n ih =>
    intro a2 a3 h z hF k
    rw [fX12_hasUse_L28] at hF
    refine v_iload_n (j := 2) dX12_hasUse_28 rfl ?_
    refine v_aload_n (j := 0) dX12_hasUse_29 rfl ?_
    refine v_getI (c := 12) rfl (Or.inl rfl) cz12 flX12_33 dX12_hasUse_30 ?_
    refine v_icmp_ge dX12_hasUse_33 (by decide : _ = ((118 : Nat) : Int)) (fun q => ?_) (fun q => ?_)
    · replace hF := brT q hF
      cases hF
      exact k
    · replace hF := brF q hF
      refine v_iload_n (j := 1) dX12_hasUse_36 rfl ?_
      refine v_iload_n (j := 2) dX12_hasUse_37 rfl ?_
      refine v_isub dX12_hasUse_38 ?_
      refine v_topi fun v2 ev2 => ?_
      replace hF := lb_use ev2 hF
      clear ev2
      refine v_istore (ls' := [(4, zi v2), (0, zr 12 0), (2, zi a2), (3, zi a3)]) dX12_hasUse_39 (by decide) rfl ?_
      refine v_aload_n (j := 1) dX12_hasUse_41 rfl ?_
      refine v_getL (c := 12) rfl rfl rfl ly12_48 cz12 flX12_130 dX12_hasUse_42 ?_
      refine v_iload (j := 0) dX12_hasUse_45 rfl ?_
      replace hF := gd_use hF
      obtain ⟨q3, hF⟩ := hF
      refine v_iald rfl q3 dX12_hasUse_47 ?_
      refine v_iconst (v := (-1)) dX12_hasUse_48 (by decide) ?_
      refine v_icmp_eq dX12_hasUse_49 (by decide : _ = ((110 : Nat) : Int)) (fun q => ?_) (fun q => ?_)
      · replace hF := brT q hF
        refine v_iconst (v := 0) dX12_hasUse_110 (by decide) ?_
        cases hF
        obtain ⟨rfl, rfl⟩ := (k : _ ∧ _)
        exact v_zret rfl (Or.inl rfl) dX12_hasUse_111
      · replace hF := brF q hF
        refine v_aload_n (j := 1) dX12_hasUse_52 rfl ?_
        refine v_getL (c := 12) rfl rfl rfl ly12_52 cz12 flX12_142 dX12_hasUse_53 ?_
        refine v_iload (j := 0) dX12_hasUse_56 rfl ?_
        replace hF := gd_use hF
        obtain ⟨q4, hF⟩ := hF
        refine v_zald rfl q4 dX12_hasUse_58 ?_
        refine v_if_ne dX12_hasUse_59 (by decide : _ = ((110 : Nat) : Int)) (fun q => ?_) (fun q => ?_)
        · replace hF := brF q hF
          refine v_iconst (v := 0) dX12_hasUse_110 (by decide) ?_
          cases hF
          obtain ⟨rfl, rfl⟩ := (k : _ ∧ _)
          exact v_zret rfl (Or.inl rfl) dX12_hasUse_111
        · replace hF := brT (Decidable.not_not.mp q) hF
          refine v_aload_n (j := 1) dX12_hasUse_62 rfl ?_
          refine v_getL (c := 12) rfl rfl rfl ly12_48 cz12 flX12_130 dX12_hasUse_63 ?_
          refine v_iload (j := 0) dX12_hasUse_66 rfl ?_
          replace hF := gd_use hF
          obtain ⟨q5, hF⟩ := hF
          refine v_iald rfl q5 dX12_hasUse_68 ?_
          refine v_aload_n (j := 1) dX12_hasUse_69 rfl ?_
          refine v_getL (c := 12) rfl rfl rfl ly12_48 cz12 flX12_130 dX12_hasUse_70 ?_
          refine v_iload_n (j := 2) dX12_hasUse_73 rfl ?_
          replace hF := gd_use hF
          obtain ⟨q6, hF⟩ := hF
          refine v_iald rfl q6 dX12_hasUse_74 ?_
          refine v_icmp_ne dX12_hasUse_75 (by decide : _ = ((110 : Nat) : Int)) (fun q => ?_) (fun q => ?_)
          · replace hF := brF q hF
            refine v_iconst (v := 0) dX12_hasUse_110 (by decide) ?_
            cases hF
            obtain ⟨rfl, rfl⟩ := (k : _ ∧ _)
            exact v_zret rfl (Or.inl rfl) dX12_hasUse_111
          · replace hF := brT (Decidable.not_not.mp q) hF
            refine v_aload_n (j := 1) dX12_hasUse_78 rfl ?_
            refine v_getL (c := 12) rfl rfl rfl ly12_49 cz12 flX12_133 dX12_hasUse_79 ?_
            refine v_iload (j := 0) dX12_hasUse_82 rfl ?_
            replace hF := gd_use hF
            obtain ⟨q7, hF⟩ := hF
            refine v_iald rfl q7 dX12_hasUse_84 ?_
            refine v_aload_n (j := 1) dX12_hasUse_85 rfl ?_
            refine v_getL (c := 12) rfl rfl rfl ly12_49 cz12 flX12_133 dX12_hasUse_86 ?_
            refine v_iload_n (j := 2) dX12_hasUse_89 rfl ?_
            replace hF := gd_use hF
            obtain ⟨q8, hF⟩ := hF
            refine v_iald rfl q8 dX12_hasUse_90 ?_
            refine v_icmp_ne dX12_hasUse_91 (by decide : _ = ((110 : Nat) : Int)) (fun q => ?_) (fun q => ?_)
            · replace hF := brF q hF
              refine v_iconst (v := 0) dX12_hasUse_110 (by decide) ?_
              cases hF
              obtain ⟨rfl, rfl⟩ := (k : _ ∧ _)
              exact v_zret rfl (Or.inl rfl) dX12_hasUse_111
            · replace hF := brT (Decidable.not_not.mp q) hF
              refine v_aload_n (j := 1) dX12_hasUse_94 rfl ?_
              refine v_getL (c := 12) rfl rfl rfl ly12_50 cz12 flX12_136 dX12_hasUse_95 ?_
              refine v_iload (j := 0) dX12_hasUse_98 rfl ?_
              replace hF := gd_use hF
              obtain ⟨q9, hF⟩ := hF
              refine v_iald rfl q9 dX12_hasUse_100 ?_
              refine v_aload_n (j := 1) dX12_hasUse_101 rfl ?_
              refine v_getL (c := 12) rfl rfl rfl ly12_50 cz12 flX12_136 dX12_hasUse_102 ?_
              refine v_iload_n (j := 2) dX12_hasUse_105 rfl ?_
              replace hF := gd_use hF
              obtain ⟨q10, hF⟩ := hF
              refine v_iald rfl q10 dX12_hasUse_106 ?_
              refine v_icmp_eq dX12_hasUse_107 (by decide : _ = ((112 : Nat) : Int)) (fun q => ?_) (fun q => ?_)
              · replace hF := brT q hF
                obtain ⟨v11, ev11⟩ : ∃ y : Int32, y = a3 + 1 := ⟨_, rfl⟩
                replace hF := lb_use ev11 hF
                refine v_iinc (j := 3) (v := v11) (ls' := [(3, zi v11), (4, zi v2), (0, zr 12 0), (2, zi a2)]) dX12_hasUse_112 rfl (by rw [ev11]; rfl) (by decide) rfl ?_
                clear ev11
                refine v_goto (tgt := 28) dX12_hasUse_115 (by decide) ?_
                refine v_sub [2, 3, 0] rfl ?_
                exact ih a2 v11 h _ hF k
              · replace hF := brF q hF
                refine v_iconst (v := 0) dX12_hasUse_110 (by decide) ?_
                cases hF
                obtain ⟨rfl, rfl⟩ := (k : _ ∧ _)
                exact v_zret rfl (Or.inl rfl) dX12_hasUse_111
set_option maxRecDepth 20000 in
theorem tX12_hasUse {X : Cz} {a1 : Int32} {h hE : Hp} {rE : Int32} (hF : fX12_hasUse a1 h = some (rE, hE)) : Ct X mX12_hasUse true [zr 12 0, zi a1] h (some (zi rE)) hE := by
  refine Ct_of (by decide) (Nat.le_of_ble_eq_true rfl) (ls := [(0, zr 12 0), (1, zi a1)]) rfl ?_
  unfold fX12_hasUse at hF
  refine v_sipush (v := 200) dX12_hasUse_0 (by decide) ?_
  refine v_iload_n (j := 1) dX12_hasUse_3 rfl ?_
  refine v_imul dX12_hasUse_4 ?_
  refine v_aload_n (j := 0) dX12_hasUse_5 rfl ?_
  refine v_getI (c := 12) rfl (Or.inl rfl) cz12 flX12_251 dX12_hasUse_6 ?_
  refine v_iadd dX12_hasUse_9 ?_
  refine v_iconst (v := 1) dX12_hasUse_10 (by decide) ?_
  refine v_isub dX12_hasUse_11 ?_
  refine v_topi fun v1 ev1 => ?_
  replace hF := lb_use ev1 hF
  clear ev1
  refine v_istore_n (ls' := [(2, zi v1), (0, zr 12 0), (1, zi a1)]) dX12_hasUse_12 (by decide) rfl ?_
  refine v_aload_n (j := 1) dX12_hasUse_13 rfl ?_
  refine v_getI (c := 12) rfl (Or.inl rfl) cz12 flX12_251 dX12_hasUse_14 ?_
  refine v_aload_n (j := 1) dX12_hasUse_17 rfl ?_
  refine v_getI (c := 12) rfl (Or.inl rfl) cz12 flX12_33 dX12_hasUse_18 ?_
  refine v_icmp_ge dX12_hasUse_21 (by decide : _ = ((26 : Nat) : Int)) (fun q => ?_) (fun q => ?_)
  · replace hF := brT q hF
    refine v_iconst (v := 0) dX12_hasUse_26 (by decide) ?_
    refine v_istore_n (ls' := [(3, zi 0), (2, zi v1), (0, zr 12 0), (1, zi a1)]) dX12_hasUse_27 (by decide) rfl ?_
    refine v_sub [2, 1, 0] rfl ?_
    replace hF := bd_use hF
    obtain ⟨u15, h12, ev14, hF⟩ := hF
    rcases u15 with r16 | v14
    · obtain ⟨rfl, rfl⟩ := ret_use hF
      exact tX12_hasUse_L28 _ v1 0 h _ ev14 ⟨rfl, rfl⟩
    replace hF := msR hF
    refine tX12_hasUse_L28 _ v1 0 h _ ev14 ?_
    clear ev14
    refine v_iconst (v := 1) dX12_hasUse_118 (by decide) ?_
    obtain ⟨rfl, rfl⟩ := ret_use hF
    exact v_zret rfl (Or.inr rfl) dX12_hasUse_119
  · replace hF := brF q hF
    refine v_iconst (v := 0) dX12_hasUse_24 (by decide) ?_
    obtain ⟨rfl, rfl⟩ := ret_use hF
    exact v_zret rfl (Or.inl rfl) dX12_hasUse_25
theorem dX12_customs_0 : decode cX12_customs 0 = .ok (.sipush 200, 3) := by decide +kernel
theorem dX12_customs_3 : decode cX12_customs 3 = .ok (.iload_n 1, 1) := by decide +kernel
theorem dX12_customs_4 : decode cX12_customs 4 = .ok (.imul, 1) := by decide +kernel
theorem dX12_customs_5 : decode cX12_customs 5 = .ok (.aload_n 0, 1) := by decide +kernel
theorem dX12_customs_6 : decode cX12_customs 6 = .ok (.getfield 251, 3) := by decide +kernel
theorem dX12_customs_9 : decode cX12_customs 9 = .ok (.iadd, 1) := by decide +kernel
theorem dX12_customs_10 : decode cX12_customs 10 = .ok (.iconst 1, 1) := by decide +kernel
theorem dX12_customs_11 : decode cX12_customs 11 = .ok (.isub, 1) := by decide +kernel
theorem dX12_customs_12 : decode cX12_customs 12 = .ok (.istore_n 2, 1) := by decide +kernel
theorem dX12_customs_13 : decode cX12_customs 13 = .ok (.aload_n 0, 1) := by decide +kernel
theorem dX12_customs_14 : decode cX12_customs 14 = .ok (.iconst 2, 1) := by decide +kernel
theorem dX12_customs_15 : decode cX12_customs 15 = .ok (.iload_n 1, 1) := by decide +kernel
theorem dX12_customs_16 : decode cX12_customs 16 = .ok (.aload_n 0, 1) := by decide +kernel
theorem dX12_customs_17 : decode cX12_customs 17 = .ok (.getfield 130, 3) := by decide +kernel
theorem dX12_customs_20 : decode cX12_customs 20 = .ok (.iload_n 2, 1) := by decide +kernel
theorem dX12_customs_21 : decode cX12_customs 21 = .ok (.iaload, 1) := by decide +kernel
theorem dX12_customs_22 : decode cX12_customs 22 = .ok (.aload_n 0, 1) := by decide +kernel
theorem dX12_customs_23 : decode cX12_customs 23 = .ok (.getfield 133, 3) := by decide +kernel
theorem dX12_customs_26 : decode cX12_customs 26 = .ok (.iload_n 2, 1) := by decide +kernel
theorem dX12_customs_27 : decode cX12_customs 27 = .ok (.iaload, 1) := by decide +kernel
theorem dX12_customs_28 : decode cX12_customs 28 = .ok (.aload_n 0, 1) := by decide +kernel
theorem dX12_customs_29 : decode cX12_customs 29 = .ok (.getfield 136, 3) := by decide +kernel
theorem dX12_customs_32 : decode cX12_customs 32 = .ok (.iload_n 2, 1) := by decide +kernel
theorem dX12_customs_33 : decode cX12_customs 33 = .ok (.iaload, 1) := by decide +kernel
theorem dX12_customs_34 : decode cX12_customs 34 = .ok (.aload_n 0, 1) := by decide +kernel
theorem dX12_customs_35 : decode cX12_customs 35 = .ok (.getfield 251, 3) := by decide +kernel
theorem dX12_customs_38 : decode cX12_customs 38 = .ok (.aload_n 0, 1) := by decide +kernel
theorem dX12_customs_39 : decode cX12_customs 39 = .ok (.getfield 251, 3) := by decide +kernel
theorem dX12_customs_42 : decode cX12_customs 42 = .ok (.sipush 199, 3) := by decide +kernel
theorem dX12_customs_45 : decode cX12_customs 45 = .ok (.iconst 0, 1) := by decide +kernel
theorem dX12_customs_46 : decode cX12_customs 46 = .ok (.lconst 0, 1) := by decide +kernel
theorem dX12_customs_47 : decode cX12_customs 47 = .ok (.invokevirtual 323, 3) := by decide +kernel
theorem dX12_customs_50 : decode cX12_customs 50 = .ok (.istore_n 3, 1) := by decide +kernel
theorem dX12_customs_51 : decode cX12_customs 51 = .ok (.return_, 1) := by decide +kernel
def fX12_customs (a1 : Int32) (h : Hp) : Option (Unit × Hp) := lb ((((200 : Int32) * a1) + (gI h 12 0 5)) - 1) (fun v1 => gd (ib v1 2400) (gd (ib v1 2400) (gd (ib v1 2400) (bd (fX12_adds 2 a1 (gI h 88 0 (ix v1)) (gI h 89 0 (ix v1)) (gI h 90 0 (ix v1)) (gI h 12 0 5) (gI h 12 0 5) 199 0 0 h) (fun r5 h6 => some ((), h6))))))
set_option maxRecDepth 20000 in
theorem tX12_customs {X : Cz} {a1 : Int32} {h hE : Hp} {rE : Unit} (hF : fX12_customs a1 h = some (rE, hE)) : Ct X mX12_customs true [zr 12 0, zi a1] h (none) hE := by
  refine Ct_of (by decide) (Nat.le_of_ble_eq_true rfl) (ls := [(0, zr 12 0), (1, zi a1)]) rfl ?_
  unfold fX12_customs at hF
  refine v_sipush (v := 200) dX12_customs_0 (by decide) ?_
  refine v_iload_n (j := 1) dX12_customs_3 rfl ?_
  refine v_imul dX12_customs_4 ?_
  refine v_aload_n (j := 0) dX12_customs_5 rfl ?_
  refine v_getI (c := 12) rfl (Or.inl rfl) cz12 flX12_251 dX12_customs_6 ?_
  refine v_iadd dX12_customs_9 ?_
  refine v_iconst (v := 1) dX12_customs_10 (by decide) ?_
  refine v_isub dX12_customs_11 ?_
  refine v_topi fun v1 ev1 => ?_
  replace hF := lb_use ev1 hF
  clear ev1
  refine v_istore_n (ls' := [(2, zi v1), (0, zr 12 0), (1, zi a1)]) dX12_customs_12 (by decide) rfl ?_
  refine v_aload_n (j := 1) dX12_customs_13 rfl ?_
  refine v_iconst (v := 2) dX12_customs_14 (by decide) ?_
  refine v_iload_n (j := 2) dX12_customs_15 rfl ?_
  refine v_aload_n (j := 1) dX12_customs_16 rfl ?_
  refine v_getL (c := 12) rfl rfl rfl ly12_48 cz12 flX12_130 dX12_customs_17 ?_
  refine v_iload_n (j := 0) dX12_customs_20 rfl ?_
  replace hF := gd_use hF
  obtain ⟨q2, hF⟩ := hF
  refine v_iald rfl q2 dX12_customs_21 ?_
  refine v_aload_n (j := 1) dX12_customs_22 rfl ?_
  refine v_getL (c := 12) rfl rfl rfl ly12_49 cz12 flX12_133 dX12_customs_23 ?_
  refine v_iload_n (j := 0) dX12_customs_26 rfl ?_
  replace hF := gd_use hF
  obtain ⟨q3, hF⟩ := hF
  refine v_iald rfl q3 dX12_customs_27 ?_
  refine v_aload_n (j := 1) dX12_customs_28 rfl ?_
  refine v_getL (c := 12) rfl rfl rfl ly12_50 cz12 flX12_136 dX12_customs_29 ?_
  refine v_iload_n (j := 0) dX12_customs_32 rfl ?_
  replace hF := gd_use hF
  obtain ⟨q4, hF⟩ := hF
  refine v_iald rfl q4 dX12_customs_33 ?_
  refine v_aload_n (j := 1) dX12_customs_34 rfl ?_
  refine v_getI (c := 12) rfl (Or.inl rfl) cz12 flX12_251 dX12_customs_35 ?_
  refine v_aload_n (j := 1) dX12_customs_38 rfl ?_
  refine v_getI (c := 12) rfl (Or.inl rfl) cz12 flX12_251 dX12_customs_39 ?_
  refine v_sipush (v := 199) dX12_customs_42 (by decide) ?_
  refine v_iconst (v := 0) dX12_customs_45 (by decide) ?_
  refine v_lconst (v := 0) dX12_customs_46 (by decide) ?_
  replace hF := bd_use hF
  obtain ⟨r5, h6, er5, hF⟩ := hF
  refine v_cV (hm := h6) (av := [zi 2, zi a1, zi (gI h 88 0 (ix v1)), zi (gI h 89 0 (ix v1)), zi (gI h 90 0 (ix v1)), zi (gI h 12 0 5), zi (gI h 12 0 5), zi 199, zi 0, zj 0]) (st := []) (stn := [zi r5]) (tX12_adds er5) lcX12_adds mlX12_323 imX12_adds seX12_adds rfl rfl rfl rfl ⟨by decide, by decide⟩ (Nat.le_of_ble_eq_true rfl) dX12_customs_47 rfl rfl ?_
  clear er5
  refine v_istore_n (ls' := [(3, zi r5), (2, zi v1), (0, zr 12 0), (1, zi a1)]) dX12_customs_50 (by decide) rfl ?_
  cases hF
  exact v_vret rfl dX12_customs_51
theorem dX12_go_0 : decode cX12_go 0 = .ok (.aload_n 0, 1) := by decide +kernel
theorem dX12_go_1 : decode cX12_go 1 = .ok (.iconst 0, 1) := by decide +kernel
theorem dX12_go_2 : decode cX12_go 2 = .ok (.putfield 208, 3) := by decide +kernel
theorem dX12_go_5 : decode cX12_go 5 = .ok (.aload_n 0, 1) := by decide +kernel
theorem dX12_go_6 : decode cX12_go 6 = .ok (.getfield 251, 3) := by decide +kernel
theorem dX12_go_9 : decode cX12_go 9 = .ok (.sipush 199, 3) := by decide +kernel
theorem dX12_go_12 : decode cX12_go 12 = .ok (.if_icmp .ne 6, 3) := by decide +kernel
theorem dX12_go_15 : decode cX12_go 15 = .ok (.bipush (-9), 2) := by decide +kernel
theorem dX12_go_17 : decode cX12_go 17 = .ok (.ireturn, 1) := by decide +kernel
theorem dX12_go_18 : decode cX12_go 18 = .ok (.aload_n 0, 1) := by decide +kernel
theorem dX12_go_19 : decode cX12_go 19 = .ok (.iconst 0, 1) := by decide +kernel
theorem dX12_go_20 : decode cX12_go 20 = .ok (.invokevirtual 411, 3) := by decide +kernel
theorem dX12_go_23 : decode cX12_go 23 = .ok (.iconst 0, 1) := by decide +kernel
theorem dX12_go_24 : decode cX12_go 24 = .ok (.istore_n 1, 1) := by decide +kernel
theorem dX12_go_25 : decode cX12_go 25 = .ok (.iconst 0, 1) := by decide +kernel
theorem dX12_go_26 : decode cX12_go 26 = .ok (.istore_n 2, 1) := by decide +kernel
theorem dX12_go_27 : decode cX12_go 27 = .ok (.iload_n 2, 1) := by decide +kernel
theorem dX12_go_28 : decode cX12_go 28 = .ok (.aload_n 0, 1) := by decide +kernel
theorem dX12_go_29 : decode cX12_go 29 = .ok (.getfield 295, 3) := by decide +kernel
theorem dX12_go_32 : decode cX12_go 32 = .ok (.if_icmp .ge 96, 3) := by decide +kernel
theorem dX12_go_35 : decode cX12_go 35 = .ok (.sipush 200, 3) := by decide +kernel
theorem dX12_go_38 : decode cX12_go 38 = .ok (.iload_n 2, 1) := by decide +kernel
theorem dX12_go_39 : decode cX12_go 39 = .ok (.imul, 1) := by decide +kernel
theorem dX12_go_40 : decode cX12_go 40 = .ok (.aload_n 0, 1) := by decide +kernel
theorem dX12_go_41 : decode cX12_go 41 = .ok (.getfield 251, 3) := by decide +kernel
theorem dX12_go_44 : decode cX12_go 44 = .ok (.iadd, 1) := by decide +kernel
theorem dX12_go_45 : decode cX12_go 45 = .ok (.istore_n 3, 1) := by decide +kernel
theorem dX12_go_46 : decode cX12_go 46 = .ok (.aload_n 0, 1) := by decide +kernel
theorem dX12_go_47 : decode cX12_go 47 = .ok (.getfield 130, 3) := by decide +kernel
theorem dX12_go_50 : decode cX12_go 50 = .ok (.iload_n 3, 1) := by decide +kernel
theorem dX12_go_51 : decode cX12_go 51 = .ok (.aload_n 0, 1) := by decide +kernel
theorem dX12_go_52 : decode cX12_go 52 = .ok (.getfield 163, 3) := by decide +kernel
theorem dX12_go_55 : decode cX12_go 55 = .ok (.iload_n 2, 1) := by decide +kernel
theorem dX12_go_56 : decode cX12_go 56 = .ok (.iaload, 1) := by decide +kernel
theorem dX12_go_57 : decode cX12_go 57 = .ok (.iastore, 1) := by decide +kernel
theorem dX12_go_58 : decode cX12_go 58 = .ok (.aload_n 0, 1) := by decide +kernel
theorem dX12_go_59 : decode cX12_go 59 = .ok (.getfield 163, 3) := by decide +kernel
theorem dX12_go_62 : decode cX12_go 62 = .ok (.iload_n 2, 1) := by decide +kernel
theorem dX12_go_63 : decode cX12_go 63 = .ok (.iaload, 1) := by decide +kernel
theorem dX12_go_64 : decode cX12_go 64 = .ok (.iconst (-1), 1) := by decide +kernel
theorem dX12_go_65 : decode cX12_go 65 = .ok (.if_icmp .ne 6, 3) := by decide +kernel
theorem dX12_go_68 : decode cX12_go 68 = .ok (.goto 54, 3) := by decide +kernel
theorem dX12_go_71 : decode cX12_go 71 = .ok (.aload_n 0, 1) := by decide +kernel
theorem dX12_go_72 : decode cX12_go 72 = .ok (.getfield 133, 3) := by decide +kernel
theorem dX12_go_75 : decode cX12_go 75 = .ok (.iload_n 3, 1) := by decide +kernel
theorem dX12_go_76 : decode cX12_go 76 = .ok (.aload_n 0, 1) := by decide +kernel
theorem dX12_go_77 : decode cX12_go 77 = .ok (.getfield 166, 3) := by decide +kernel
theorem dX12_go_80 : decode cX12_go 80 = .ok (.iload_n 2, 1) := by decide +kernel
theorem dX12_go_81 : decode cX12_go 81 = .ok (.iaload, 1) := by decide +kernel
theorem dX12_go_82 : decode cX12_go 82 = .ok (.iastore, 1) := by decide +kernel
theorem dX12_go_83 : decode cX12_go 83 = .ok (.aload_n 0, 1) := by decide +kernel
theorem dX12_go_84 : decode cX12_go 84 = .ok (.getfield 136, 3) := by decide +kernel
theorem dX12_go_87 : decode cX12_go 87 = .ok (.iload_n 3, 1) := by decide +kernel
theorem dX12_go_88 : decode cX12_go 88 = .ok (.aload_n 0, 1) := by decide +kernel
theorem dX12_go_89 : decode cX12_go 89 = .ok (.getfield 64, 3) := by decide +kernel
theorem dX12_go_92 : decode cX12_go 92 = .ok (.iload_n 2, 1) := by decide +kernel
theorem dX12_go_93 : decode cX12_go 93 = .ok (.iaload, 1) := by decide +kernel
theorem dX12_go_94 : decode cX12_go 94 = .ok (.iastore, 1) := by decide +kernel
theorem dX12_go_95 : decode cX12_go 95 = .ok (.aload_n 0, 1) := by decide +kernel
theorem dX12_go_96 : decode cX12_go 96 = .ok (.getfield 139, 3) := by decide +kernel
theorem dX12_go_99 : decode cX12_go 99 = .ok (.iload_n 3, 1) := by decide +kernel
theorem dX12_go_100 : decode cX12_go 100 = .ok (.aload_n 0, 1) := by decide +kernel
theorem dX12_go_101 : decode cX12_go 101 = .ok (.getfield 169, 3) := by decide +kernel
theorem dX12_go_104 : decode cX12_go 104 = .ok (.iload_n 2, 1) := by decide +kernel
theorem dX12_go_105 : decode cX12_go 105 = .ok (.iaload, 1) := by decide +kernel
theorem dX12_go_106 : decode cX12_go 106 = .ok (.iastore, 1) := by decide +kernel
theorem dX12_go_107 : decode cX12_go 107 = .ok (.aload_n 0, 1) := by decide +kernel
theorem dX12_go_108 : decode cX12_go 108 = .ok (.getfield 142, 3) := by decide +kernel
theorem dX12_go_111 : decode cX12_go 111 = .ok (.iload_n 3, 1) := by decide +kernel
theorem dX12_go_112 : decode cX12_go 112 = .ok (.aload_n 0, 1) := by decide +kernel
theorem dX12_go_113 : decode cX12_go 113 = .ok (.getfield 178, 3) := by decide +kernel
theorem dX12_go_116 : decode cX12_go 116 = .ok (.iload_n 2, 1) := by decide +kernel
theorem dX12_go_117 : decode cX12_go 117 = .ok (.baload, 1) := by decide +kernel
theorem dX12_go_118 : decode cX12_go 118 = .ok (.bastore, 1) := by decide +kernel
theorem dX12_go_119 : decode cX12_go 119 = .ok (.iinc 1 1, 3) := by decide +kernel
theorem dX12_go_122 : decode cX12_go 122 = .ok (.iinc 2 1, 3) := by decide +kernel
theorem dX12_go_125 : decode cX12_go 125 = .ok (.goto (-98), 3) := by decide +kernel
theorem dX12_go_128 : decode cX12_go 128 = .ok (.aload_n 0, 1) := by decide +kernel
theorem dX12_go_129 : decode cX12_go 129 = .ok (.dup, 1) := by decide +kernel
theorem dX12_go_130 : decode cX12_go 130 = .ok (.getfield 251, 3) := by decide +kernel
theorem dX12_go_133 : decode cX12_go 133 = .ok (.iconst 1, 1) := by decide +kernel
theorem dX12_go_134 : decode cX12_go 134 = .ok (.iadd, 1) := by decide +kernel
theorem dX12_go_135 : decode cX12_go 135 = .ok (.putfield 251, 3) := by decide +kernel
theorem dX12_go_138 : decode cX12_go 138 = .ok (.iconst 0, 1) := by decide +kernel
theorem dX12_go_139 : decode cX12_go 139 = .ok (.istore_n 2, 1) := by decide +kernel
theorem dX12_go_140 : decode cX12_go 140 = .ok (.iload_n 2, 1) := by decide +kernel
theorem dX12_go_141 : decode cX12_go 141 = .ok (.aload_n 0, 1) := by decide +kernel
theorem dX12_go_142 : decode cX12_go 142 = .ok (.getfield 295, 3) := by decide +kernel
theorem dX12_go_145 : decode cX12_go 145 = .ok (.if_icmp .ge 31, 3) := by decide +kernel
theorem dX12_go_148 : decode cX12_go 148 = .ok (.aload_n 0, 1) := by decide +kernel
theorem dX12_go_149 : decode cX12_go 149 = .ok (.getfield 316, 3) := by decide +kernel
theorem dX12_go_152 : decode cX12_go 152 = .ok (.bipush 100, 2) := by decide +kernel
theorem dX12_go_154 : decode cX12_go 154 = .ok (.if_icmp .ge 16, 3) := by decide +kernel
theorem dX12_go_157 : decode cX12_go 157 = .ok (.aload_n 0, 1) := by decide +kernel
theorem dX12_go_158 : decode cX12_go 158 = .ok (.iload_n 2, 1) := by decide +kernel
theorem dX12_go_159 : decode cX12_go 159 = .ok (.invokevirtual 415, 3) := by decide +kernel
theorem dX12_go_162 : decode cX12_go 162 = .ok (.ifCond .eq 8, 3) := by decide +kernel
theorem dX12_go_165 : decode cX12_go 165 = .ok (.aload_n 0, 1) := by decide +kernel
theorem dX12_go_166 : decode cX12_go 166 = .ok (.iload_n 2, 1) := by decide +kernel
theorem dX12_go_167 : decode cX12_go 167 = .ok (.invokevirtual 418, 3) := by decide +kernel
theorem dX12_go_170 : decode cX12_go 170 = .ok (.iinc 2 1, 3) := by decide +kernel
theorem dX12_go_173 : decode cX12_go 173 = .ok (.goto (-33), 3) := by decide +kernel
theorem dX12_go_176 : decode cX12_go 176 = .ok (.iload_n 1, 1) := by decide +kernel
theorem dX12_go_177 : decode cX12_go 177 = .ok (.ireturn, 1) := by decide +kernel
def fX12_go_L27 : Nat → Int32 → Int32 → Hp → Option ((Int32 × Int32) × Hp)
  | 0, _, _, _ => none
  | n + 1, a1, a2, h => br ((gI h 12 0 8) ≤ a2) (some ((a1, a2), h)) (lb (((200 : Int32) * a2) + (gI h 12 0 5)) (fun v4 => gd (ib a2 12) (gd (ib v4 2400) (lb (sI h 88 0 (ix v4) (gI h 99 0 (ix a2))) (fun h7 => gd (ib a2 12) (br ((gI h7 99 0 (ix a2)) = (-1)) (lb (a2 + 1) (fun v23 => fX12_go_L27 n a1 v23 h7)) (gd (ib a2 12) (gd (ib v4 2400) (lb (sI h7 89 0 (ix v4) (gI h7 100 0 (ix a2))) (fun h11 => gd (ib a2 12) (gd (ib v4 2400) (lb (sI h11 90 0 (ix v4) (gI h11 66 0 (ix a2))) (fun h14 => gd (ib a2 12) (gd (ib v4 2400) (lb (sI h14 91 0 (ix v4) (gI h14 101 0 (ix a2))) (fun h17 => gd (ib a2 12) (gd (ib v4 2400) (lb (sI h17 92 0 (ix v4) ((gI h17 104 0 (ix a2)) &&& 1)) (fun h20 => lb (a1 + 1) (fun v21 => lb (a2 + 1) (fun v22 => fX12_go_L27 n v21 v22 h20)))))))))))))))))))))
def fX12_go_L140 : Nat → Int32 → Int32 → Hp → Option ((Int32) × Hp)
  | 0, _, _, _ => none
  | n + 1, a1, a2, h => br ((gI h 12 0 8) ≤ a2) (some ((a2), h)) (br (100 ≤ (gI h 12 0 9)) (lb (a2 + 1) (fun v29 => fX12_go_L140 n a1 v29 h)) (bd (fX12_hasUse a2 h) (fun r30 h31 => br (r30 = 0) (lb (a2 + 1) (fun v32 => fX12_go_L140 n a1 v32 h31)) (bd (fX12_customs a2 h31) (fun r33 h34 => lb (a2 + 1) (fun v35 => fX12_go_L140 n a1 v35 h34))))))
def fX12_go (h : Hp) : Option (Int32 × Hp) := lb (sI h 12 0 0 0) (fun h1 => br ((gI h1 12 0 5) = 199) (some ((-9), h1)) (bd (fX12_seats 0 h1) (fun r2 h3 => bd (fX12_go_L27 FU 0 0 h3) (fun t25 h24 => lb t25.1 (fun v26 => lb t25.2 (fun v27 => lb (sI h24 12 0 5 ((gI h24 12 0 5) + 1)) (fun h28 => bd (fX12_go_L140 FU v26 0 h28) (fun v38 h36 => some (v26, h36)))))))))
set_option maxRecDepth 20000 in
theorem tX12_go_L27 {X : Cz} {h0 : Hp} {r : Option AV} {hE : Hp} : ∀ (n : Nat) (a1 : Int32) (a2 : Int32) (h : Hp) (z : (Int32 × Int32) × Hp), fX12_go_L27 n a1 a2 h = some z → V X mX12_go true h0 128 [(0, zr 12 0), (1, zi z.1.1), (2, zi z.1.2)] [] z.2 r hE → V X mX12_go true h0 27 [(0, zr 12 0), (1, zi a1), (2, zi a2)] [] h r hE := by
  intro n
  induction n with
  | zero => intro a1 a2 h z hF k; cases hF
  | succ n ih =>
    intro a1 a2 h z hF k
    rw [fX12_go_L27] at hF
    refine v_iload_n (j := 2) dX12_go_27 rfl ?_
    refine v_aload_n (j := 0) dX12_go_28 rfl ?_
    refine v_getI (c := 12) rfl (Or.inl rfl) cz12 flX12_295 dX12_go_29 ?_
    refine v_icmp_ge dX12_go_32 (by decide : _ = ((128 : Nat) : Int)) (fun q => ?_) (fun q => ?_)
    · replace hF := brT q hF
      cases hF
      exact k
    · replace hF := brF q hF
      refine v_sipush (v := 200) dX12_go_35 (by decide) ?_
      refine v_iload_n (j := 2) dX12_go_38 rfl ?_
      refine v_imul dX12_go_39 ?_
      refine v_aload_n (j := 0) dX12_go_40 rfl ?_
      refine v_getI (c := 12) rfl (Or.inl rfl) cz12 flX12_251 dX12_go_41 ?_
      refine v_iadd dX12_go_44 ?_
      refine v_topi fun v4 ev4 => ?_
      replace hF := lb_use ev4 hF
      clear ev4
      refine v_istore_n (ls' := [(3, zi v4), (0, zr 12 0), (1, zi a1), (2, zi a2)]) dX12_go_45 (by decide) rfl ?_
      refine v_aload_n (j := 1) dX12_go_46 rfl ?_
      refine v_getL (c := 12) rfl rfl rfl ly12_48 cz12 flX12_130 dX12_go_47 ?_
      refine v_iload_n (j := 0) dX12_go_50 rfl ?_
      refine v_aload_n (j := 1) dX12_go_51 rfl ?_
      refine v_getL (c := 12) rfl rfl rfl ly12_62 cz12 flX12_163 dX12_go_52 ?_
      refine v_iload_n (j := 3) dX12_go_55 rfl ?_
      replace hF := gd_use hF
      obtain ⟨q5, hF⟩ := hF
      refine v_iald rfl q5 dX12_go_56 ?_
      replace hF := gd_use hF
      obtain ⟨q6, hF⟩ := hF
      refine v_iast rfl q6 dX12_go_57 ?_
      refine v_toph fun h7 eh7 => ?_
      replace hF := lb_use eh7 hF
      clear eh7
      refine v_aload_n (j := 1) dX12_go_58 rfl ?_
      refine v_getL (c := 12) rfl rfl rfl ly12_62 cz12 flX12_163 dX12_go_59 ?_
      refine v_iload_n (j := 3) dX12_go_62 rfl ?_
      replace hF := gd_use hF
      obtain ⟨q8, hF⟩ := hF
      refine v_iald rfl q8 dX12_go_63 ?_
      refine v_iconst (v := (-1)) dX12_go_64 (by decide) ?_
      refine v_icmp_ne dX12_go_65 (by decide : _ = ((71 : Nat) : Int)) (fun q => ?_) (fun q => ?_)
      · replace hF := brF q hF
        refine v_aload_n (j := 1) dX12_go_71 rfl ?_
        refine v_getL (c := 12) rfl rfl rfl ly12_49 cz12 flX12_133 dX12_go_72 ?_
        refine v_iload_n (j := 0) dX12_go_75 rfl ?_
        refine v_aload_n (j := 1) dX12_go_76 rfl ?_
        refine v_getL (c := 12) rfl rfl rfl ly12_63 cz12 flX12_166 dX12_go_77 ?_
        refine v_iload_n (j := 3) dX12_go_80 rfl ?_
        replace hF := gd_use hF
        obtain ⟨q9, hF⟩ := hF
        refine v_iald rfl q9 dX12_go_81 ?_
        replace hF := gd_use hF
        obtain ⟨q10, hF⟩ := hF
        refine v_iast rfl q10 dX12_go_82 ?_
        refine v_toph fun h11 eh11 => ?_
        replace hF := lb_use eh11 hF
        clear eh11
        refine v_aload_n (j := 1) dX12_go_83 rfl ?_
        refine v_getL (c := 12) rfl rfl rfl ly12_50 cz12 flX12_136 dX12_go_84 ?_
        refine v_iload_n (j := 0) dX12_go_87 rfl ?_
        refine v_aload_n (j := 1) dX12_go_88 rfl ?_
        refine v_getL (c := 12) rfl rfl rfl ly12_26 cz12 flX12_64 dX12_go_89 ?_
        refine v_iload_n (j := 3) dX12_go_92 rfl ?_
        replace hF := gd_use hF
        obtain ⟨q12, hF⟩ := hF
        refine v_iald rfl q12 dX12_go_93 ?_
        replace hF := gd_use hF
        obtain ⟨q13, hF⟩ := hF
        refine v_iast rfl q13 dX12_go_94 ?_
        refine v_toph fun h14 eh14 => ?_
        replace hF := lb_use eh14 hF
        clear eh14
        refine v_aload_n (j := 1) dX12_go_95 rfl ?_
        refine v_getL (c := 12) rfl rfl rfl ly12_51 cz12 flX12_139 dX12_go_96 ?_
        refine v_iload_n (j := 0) dX12_go_99 rfl ?_
        refine v_aload_n (j := 1) dX12_go_100 rfl ?_
        refine v_getL (c := 12) rfl rfl rfl ly12_64 cz12 flX12_169 dX12_go_101 ?_
        refine v_iload_n (j := 3) dX12_go_104 rfl ?_
        replace hF := gd_use hF
        obtain ⟨q15, hF⟩ := hF
        refine v_iald rfl q15 dX12_go_105 ?_
        replace hF := gd_use hF
        obtain ⟨q16, hF⟩ := hF
        refine v_iast rfl q16 dX12_go_106 ?_
        refine v_toph fun h17 eh17 => ?_
        replace hF := lb_use eh17 hF
        clear eh17
        refine v_aload_n (j := 1) dX12_go_107 rfl ?_
        refine v_getL (c := 12) rfl rfl rfl ly12_52 cz12 flX12_142 dX12_go_108 ?_
        refine v_iload_n (j := 0) dX12_go_111 rfl ?_
        refine v_aload_n (j := 1) dX12_go_112 rfl ?_
        refine v_getL (c := 12) rfl rfl rfl ly12_67 cz12 flX12_178 dX12_go_113 ?_
        refine v_iload_n (j := 3) dX12_go_116 rfl ?_
        replace hF := gd_use hF
        obtain ⟨q18, hF⟩ := hF
        refine v_zald rfl q18 dX12_go_117 ?_
        replace hF := gd_use hF
        obtain ⟨q19, hF⟩ := hF
        refine v_zast rfl q19 dX12_go_118 ?_
        refine v_toph fun h20 eh20 => ?_
        replace hF := lb_use eh20 hF
        clear eh20
        obtain ⟨v21, ev21⟩ : ∃ y : Int32, y = a1 + 1 := ⟨_, rfl⟩
        replace hF := lb_use ev21 hF
        refine v_iinc (j := 2) (v := v21) (ls' := [(1, zi v21), (3, zi v4), (0, zr 12 0), (2, zi a2)]) dX12_go_119 rfl (by rw [ev21]; rfl) (by decide) rfl ?_
        clear ev21
        obtain ⟨v22, ev22⟩ : ∃ y : Int32, y = a2 + 1 := ⟨_, rfl⟩
        replace hF := lb_use ev22 hF
        refine v_iinc (j := 3) (v := v22) (ls' := [(2, zi v22), (1, zi v21), (3, zi v4), (0, zr 12 0)]) dX12_go_122 rfl (by rw [ev22]; rfl) (by decide) rfl ?_
        clear ev22
        refine v_goto (tgt := 27) dX12_go_125 (by decide) ?_
        refine v_sub [3, 1, 0] rfl ?_
        exact ih v21 v22 h20 _ hF k
      · replace hF := brT (Decidable.not_not.mp q) hF
        refine v_goto (tgt := 122) dX12_go_68 (by decide) ?_
        obtain ⟨v23, ev23⟩ : ∃ y : Int32, y = a2 + 1 := ⟨_, rfl⟩
        replace hF := lb_use ev23 hF
        refine v_iinc (j := 3) (v := v23) (ls' := [(2, zi v23), (3, zi v4), (0, zr 12 0), (1, zi a1)]) dX12_go_122 rfl (by rw [ev23]; rfl) (by decide) rfl ?_
        clear ev23
        refine v_goto (tgt := 27) dX12_go_125 (by decide) ?_
        refine v_sub [2, 3, 0] rfl ?_
        exact ih a1 v23 h7 _ hF k
set_option maxRecDepth 20000 in
theorem tX12_go_L140 {X : Cz} {h0 : Hp} {r : Option AV} {hE : Hp} : ∀ (n : Nat) (a1 : Int32) (a2 : Int32) (h : Hp) (z : (Int32) × Hp), fX12_go_L140 n a1 a2 h = some z → V X mX12_go true h0 176 [(0, zr 12 0), (1, zi a1), (2, zi z.1)] [] z.2 r hE → V X mX12_go true h0 140 [(0, zr 12 0), (1, zi a1), (2, zi a2)] [] h r hE := by
  intro n
  induction n with
  | zero => intro a1 a2 h z hF k; cases hF
  | succ n ih =>
    intro a1 a2 h z hF k
    rw [fX12_go_L140] at hF
    refine v_iload_n (j := 2) dX12_go_140 rfl ?_
    refine v_aload_n (j := 0) dX12_go_141 rfl ?_
    refine v_getI (c := 12) rfl (Or.inl rfl) cz12 flX12_295 dX12_go_142 ?_
    refine v_icmp_ge dX12_go_145 (by decide : _ = ((176 : Nat) : Int)) (fun q => ?_) (fun q => ?_)
    · replace hF := brT q hF
      cases hF
      exact k
    · replace hF := brF q hF
      refine v_aload_n (j := 0) dX12_go_148 rfl ?_
      refine v_getI (c := 12) rfl (Or.inl rfl) cz12 flX12_316 dX12_go_149 ?_
      refine v_bipush (v := 100) dX12_go_152 (by decide) ?_
      refine v_icmp_ge dX12_go_154 (by decide : _ = ((170 : Nat) : Int)) (fun q => ?_) (fun q => ?_)
      · replace hF := brT q hF
        obtain ⟨v29, ev29⟩ : ∃ y : Int32, y = a2 + 1 := ⟨_, rfl⟩
        replace hF := lb_use ev29 hF
        refine v_iinc (j := 2) (v := v29) (ls' := [(2, zi v29), (0, zr 12 0), (1, zi a1)]) dX12_go_170 rfl (by rw [ev29]; rfl) (by decide) rfl ?_
        clear ev29
        refine v_goto (tgt := 140) dX12_go_173 (by decide) ?_
        refine v_sub [1, 2, 0] rfl ?_
        exact ih a1 v29 h _ hF k
      · replace hF := brF q hF
        refine v_aload_n (j := 0) dX12_go_157 rfl ?_
        refine v_iload_n (j := 2) dX12_go_158 rfl ?_
        replace hF := bd_use hF
        obtain ⟨r30, h31, er30, hF⟩ := hF
        refine v_cV (hm := h31) (av := [zi a2]) (st := []) (stn := [zi r30]) (tX12_hasUse er30) lcX12_hasUse mlX12_415 imX12_hasUse seX12_hasUse rfl rfl rfl rfl ⟨by decide, by decide⟩ (Nat.le_of_ble_eq_true rfl) dX12_go_159 rfl rfl ?_
        clear er30
        refine v_if_eq dX12_go_162 (by decide : _ = ((170 : Nat) : Int)) (fun q => ?_) (fun q => ?_)
        · replace hF := brT q hF
          obtain ⟨v32, ev32⟩ : ∃ y : Int32, y = a2 + 1 := ⟨_, rfl⟩
          replace hF := lb_use ev32 hF
          refine v_iinc (j := 2) (v := v32) (ls' := [(2, zi v32), (0, zr 12 0), (1, zi a1)]) dX12_go_170 rfl (by rw [ev32]; rfl) (by decide) rfl ?_
          clear ev32
          refine v_goto (tgt := 140) dX12_go_173 (by decide) ?_
          refine v_sub [1, 2, 0] rfl ?_
          exact ih a1 v32 h31 _ hF k
        · replace hF := brF q hF
          refine v_aload_n (j := 0) dX12_go_165 rfl ?_
          refine v_iload_n (j := 2) dX12_go_166 rfl ?_
          replace hF := bd_use hF
          obtain ⟨r33, h34, er33, hF⟩ := hF
          refine v_cV (hm := h34) (av := [zi a2]) (st := []) (stn := []) (tX12_customs er33) lcX12_customs mlX12_418 imX12_customs seX12_customs rfl rfl rfl rfl ⟨by decide, by decide⟩ (Nat.le_of_ble_eq_true rfl) dX12_go_167 rfl rfl ?_
          clear er33
          obtain ⟨v35, ev35⟩ : ∃ y : Int32, y = a2 + 1 := ⟨_, rfl⟩
          replace hF := lb_use ev35 hF
          refine v_iinc (j := 2) (v := v35) (ls' := [(2, zi v35), (0, zr 12 0), (1, zi a1)]) dX12_go_170 rfl (by rw [ev35]; rfl) (by decide) rfl ?_
          clear ev35
          refine v_goto (tgt := 140) dX12_go_173 (by decide) ?_
          refine v_sub [1, 2, 0] rfl ?_
          exact ih a1 v35 h34 _ hF k
set_option maxRecDepth 20000 in
theorem tX12_go {X : Cz} {h hE : Hp} {rE : Int32} (hF : fX12_go h = some (rE, hE)) : Ct X mX12_go true [zr 12 0] h (some (zi rE)) hE := by
  refine Ct_of (by decide) (Nat.le_of_ble_eq_true rfl) (ls := [(0, zr 12 0)]) rfl ?_
  unfold fX12_go at hF
  refine v_aload_n (j := 0) dX12_go_0 rfl ?_
  refine v_iconst (v := 0) dX12_go_1 (by decide) ?_
  refine v_putI (c := 12) rfl rfl (Nat.le_of_ble_eq_true rfl) cz12 flX12_208 dX12_go_2 ?_
  refine v_toph fun h1 eh1 => ?_
  replace hF := lb_use eh1 hF
  clear eh1
  refine v_aload_n (j := 0) dX12_go_5 rfl ?_
  refine v_getI (c := 12) rfl (Or.inl rfl) cz12 flX12_251 dX12_go_6 ?_
  refine v_sipush (v := 199) dX12_go_9 (by decide) ?_
  refine v_icmp_ne dX12_go_12 (by decide : _ = ((18 : Nat) : Int)) (fun q => ?_) (fun q => ?_)
  · replace hF := brF q hF
    refine v_aload_n (j := 0) dX12_go_18 rfl ?_
    refine v_iconst (v := 0) dX12_go_19 (by decide) ?_
    replace hF := bd_use hF
    obtain ⟨r2, h3, er2, hF⟩ := hF
    refine v_cV (hm := h3) (av := [zi 0]) (st := []) (stn := []) (tX12_seats er2) lcX12_seats mlX12_411 imX12_seats seX12_seats rfl rfl rfl rfl ⟨by decide, by decide⟩ (Nat.le_of_ble_eq_true rfl) dX12_go_20 rfl rfl ?_
    clear er2
    refine v_iconst (v := 0) dX12_go_23 (by decide) ?_
    refine v_istore_n (ls' := [(1, zi 0), (0, zr 12 0)]) dX12_go_24 (by decide) rfl ?_
    refine v_iconst (v := 0) dX12_go_25 (by decide) ?_
    refine v_istore_n (ls' := [(2, zi 0), (1, zi 0), (0, zr 12 0)]) dX12_go_26 (by decide) rfl ?_
    refine v_sub [2, 1, 0] rfl ?_
    replace hF := bd_use hF
    obtain ⟨t25, h24, et25, hF⟩ := hF
    refine tX12_go_L27 _ 0 0 h3 _ et25 ?_
    clear et25
    obtain ⟨v26, v27⟩ := t25
    replace hF := lb_use (x := v26) rfl hF
    replace hF := lb_use (x := v27) rfl hF
    refine v_aload_n (j := 0) dX12_go_128 rfl ?_
    refine v_dup dX12_go_129 rfl ?_
    refine v_getI (c := 12) rfl (Or.inl rfl) cz12 flX12_251 dX12_go_130 ?_
    refine v_iconst (v := 1) dX12_go_133 (by decide) ?_
    refine v_iadd dX12_go_134 ?_
    refine v_putI (c := 12) rfl rfl (Nat.le_of_ble_eq_true rfl) cz12 flX12_251 dX12_go_135 ?_
    refine v_toph fun h28 eh28 => ?_
    replace hF := lb_use eh28 hF
    clear eh28
    refine v_iconst (v := 0) dX12_go_138 (by decide) ?_
    refine v_istore_n (ls' := [(2, zi 0), (0, zr 12 0), (1, zi v26)]) dX12_go_139 (by decide) rfl ?_
    refine v_sub [1, 2, 0] rfl ?_
    replace hF := bd_use hF
    obtain ⟨v38, h36, ev38, hF⟩ := hF
    refine tX12_go_L140 _ v26 0 h28 _ ev38 ?_
    clear ev38
    refine v_iload_n (j := 1) dX12_go_176 rfl ?_
    obtain ⟨rfl, rfl⟩ := ret_use hF
    exact v_iret rfl dX12_go_177
  · replace hF := brT (Decidable.not_not.mp q) hF
    refine v_bipush (v := (-9)) dX12_go_15 (by decide) ?_
    obtain ⟨rfl, rfl⟩ := ret_use hF
    exact v_iret rfl dX12_go_17
theorem dX12_isPast_0 : decode cX12_isPast 0 = .ok (.iload_n 1, 1) := by decide +kernel
theorem dX12_isPast_1 : decode cX12_isPast 1 = .ok (.i2l, 1) := by decide +kernel
theorem dX12_isPast_2 : decode cX12_isPast 2 = .ok (.lconst 0, 1) := by decide +kernel
theorem dX12_isPast_3 : decode cX12_isPast 3 = .ok (.aload_n 0, 1) := by decide +kernel
theorem dX12_isPast_4 : decode cX12_isPast 4 = .ok (.getfield 251, 3) := by decide +kernel
theorem dX12_isPast_7 : decode cX12_isPast 7 = .ok (.iconst 1, 1) := by decide +kernel
theorem dX12_isPast_8 : decode cX12_isPast 8 = .ok (.isub, 1) := by decide +kernel
theorem dX12_isPast_9 : decode cX12_isPast 9 = .ok (.i2l, 1) := by decide +kernel
theorem dX12_isPast_10 : decode cX12_isPast 10 = .ok (.invokestatic 213, 3) := by decide +kernel
theorem dX12_isPast_13 : decode cX12_isPast 13 = .ok (.ireturn, 1) := by decide +kernel
def fX12_isPast (a1 : Int32) (h : Hp) : Int32 := fX12_in a1.toInt64 0 (((gI h 12 0 5) - 1).toInt64) h
set_option maxRecDepth 20000 in
theorem tX12_isPast {X : Cz} (a1 : Int32) (h : Hp) : Ct X mX12_isPast true [zr 12 0, zi a1] h (some (zi (fX12_isPast a1 h))) h := by
  refine Ct_of (by decide) (Nat.le_of_ble_eq_true rfl) (ls := [(0, zr 12 0), (1, zi a1)]) rfl ?_
  obtain ⟨rE, hF⟩ : ∃ z, fX12_isPast a1 h = z := ⟨_, rfl⟩
  rw [hF]
  unfold fX12_isPast at hF
  refine v_iload_n (j := 1) dX12_isPast_0 rfl ?_
  refine v_i2l dX12_isPast_1 ?_
  refine v_lconst (v := 0) dX12_isPast_2 (by decide) ?_
  refine v_aload_n (j := 0) dX12_isPast_3 rfl ?_
  refine v_getI (c := 12) rfl (Or.inl rfl) cz12 flX12_251 dX12_isPast_4 ?_
  refine v_iconst (v := 1) dX12_isPast_7 (by decide) ?_
  refine v_isub dX12_isPast_8 ?_
  refine v_i2l dX12_isPast_9 ?_
  refine v_cS (hm := h) (av := [zj a1.toInt64, zj 0, zj (((gI h 12 0 5) - 1).toInt64)]) (st := []) (stn := [zi (fX12_in a1.toInt64 0 (((gI h 12 0 5) - 1).toInt64) h)]) (tX12_in a1.toInt64 0 (((gI h 12 0 5) - 1).toInt64) h) lcX12_in mlX12_213 sxX12_in rfl ⟨by decide, by decide⟩ (Nat.le_of_ble_eq_true rfl) dX12_isPast_10 rfl rfl ?_
  subst hF
  exact v_zret rfl (zX12_in a1.toInt64 0 (((gI h 12 0 5) - 1).toInt64) h) dX12_isPast_13
theorem zX12_isPast (a1 : Int32) (h : Hp) : fX12_isPast a1 h = 0 ∨ fX12_isPast a1 h = 1 := by
  unfold fX12_isPast
  try unfold br
  try unfold lb
  try dsimp only
  repeat' split
  all_goals first | exact Or.inl rfl | exact Or.inr rfl | exact zX12_in _ _ _ _ 
theorem dX12_seat_0 : decode cX12_seat 0 = .ok (.aload_n 0, 1) := by decide +kernel
theorem dX12_seat_1 : decode cX12_seat 1 = .ok (.iconst 0, 1) := by decide +kernel
theorem dX12_seat_2 : decode cX12_seat 2 = .ok (.putfield 208, 3) := by decide +kernel
theorem dX12_seat_5 : decode cX12_seat 5 = .ok (.aload_n 0, 1) := by decide +kernel
theorem dX12_seat_6 : decode cX12_seat 6 = .ok (.iload_n 1, 1) := by decide +kernel
theorem dX12_seat_7 : decode cX12_seat 7 = .ok (.invokevirtual 298, 3) := by decide +kernel
theorem dX12_seat_10 : decode cX12_seat 10 = .ok (.ifCond .eq 39, 3) := by decide +kernel
theorem dX12_seat_13 : decode cX12_seat 13 = .ok (.aload_n 0, 1) := by decide +kernel
theorem dX12_seat_14 : decode cX12_seat 14 = .ok (.iload_n 2, 1) := by decide +kernel
theorem dX12_seat_15 : decode cX12_seat 15 = .ok (.invokevirtual 421, 3) := by decide +kernel
theorem dX12_seat_18 : decode cX12_seat 18 = .ok (.ifCond .eq 31, 3) := by decide +kernel
theorem dX12_seat_21 : decode cX12_seat 21 = .ok (.iload_n 3, 1) := by decide +kernel
theorem dX12_seat_22 : decode cX12_seat 22 = .ok (.i2l, 1) := by decide +kernel
theorem dX12_seat_23 : decode cX12_seat 23 = .ok (.lconst 0, 1) := by decide +kernel
theorem dX12_seat_24 : decode cX12_seat 24 = .ok (.ldc2_w 244, 3) := by decide +kernel
theorem dX12_seat_27 : decode cX12_seat 27 = .ok (.invokestatic 213, 3) := by decide +kernel
theorem dX12_seat_30 : decode cX12_seat 30 = .ok (.ifCond .eq 19, 3) := by decide +kernel
theorem dX12_seat_33 : decode cX12_seat 33 = .ok (.aload_n 0, 1) := by decide +kernel
theorem dX12_seat_34 : decode cX12_seat 34 = .ok (.getfield 130, 3) := by decide +kernel
theorem dX12_seat_37 : decode cX12_seat 37 = .ok (.sipush 200, 3) := by decide +kernel
theorem dX12_seat_40 : decode cX12_seat 40 = .ok (.iload_n 1, 1) := by decide +kernel
theorem dX12_seat_41 : decode cX12_seat 41 = .ok (.imul, 1) := by decide +kernel
theorem dX12_seat_42 : decode cX12_seat 42 = .ok (.iload_n 2, 1) := by decide +kernel
theorem dX12_seat_43 : decode cX12_seat 43 = .ok (.iadd, 1) := by decide +kernel
theorem dX12_seat_44 : decode cX12_seat 44 = .ok (.iaload, 1) := by decide +kernel
theorem dX12_seat_45 : decode cX12_seat 45 = .ok (.iconst (-1), 1) := by decide +kernel
theorem dX12_seat_46 : decode cX12_seat 46 = .ok (.if_icmp .ne 5, 3) := by decide +kernel
theorem dX12_seat_49 : decode cX12_seat 49 = .ok (.iconst (-1), 1) := by decide +kernel
theorem dX12_seat_50 : decode cX12_seat 50 = .ok (.ireturn, 1) := by decide +kernel
theorem dX12_seat_51 : decode cX12_seat 51 = .ok (.sipush 200, 3) := by decide +kernel
theorem dX12_seat_54 : decode cX12_seat 54 = .ok (.iload_n 1, 1) := by decide +kernel
theorem dX12_seat_55 : decode cX12_seat 55 = .ok (.imul, 1) := by decide +kernel
theorem dX12_seat_56 : decode cX12_seat 56 = .ok (.iload_n 2, 1) := by decide +kernel
theorem dX12_seat_57 : decode cX12_seat 57 = .ok (.iadd, 1) := by decide +kernel
theorem dX12_seat_58 : decode cX12_seat 58 = .ok (.istore 4, 2) := by decide +kernel
theorem dX12_seat_60 : decode cX12_seat 60 = .ok (.iload_n 3, 1) := by decide +kernel
theorem dX12_seat_61 : decode cX12_seat 61 = .ok (.ifCond .ne 13, 3) := by decide +kernel
theorem dX12_seat_64 : decode cX12_seat 64 = .ok (.aload_n 0, 1) := by decide +kernel
theorem dX12_seat_65 : decode cX12_seat 65 = .ok (.getfield 130, 3) := by decide +kernel
theorem dX12_seat_68 : decode cX12_seat 68 = .ok (.iload 4, 2) := by decide +kernel
theorem dX12_seat_70 : decode cX12_seat 70 = .ok (.iaload, 1) := by decide +kernel
theorem dX12_seat_71 : decode cX12_seat 71 = .ok (.goto 63, 3) := by decide +kernel
theorem dX12_seat_74 : decode cX12_seat 74 = .ok (.iload_n 3, 1) := by decide +kernel
theorem dX12_seat_75 : decode cX12_seat 75 = .ok (.iconst 1, 1) := by decide +kernel
theorem dX12_seat_76 : decode cX12_seat 76 = .ok (.if_icmp .ne 13, 3) := by decide +kernel
theorem dX12_seat_79 : decode cX12_seat 79 = .ok (.aload_n 0, 1) := by decide +kernel
theorem dX12_seat_80 : decode cX12_seat 80 = .ok (.getfield 133, 3) := by decide +kernel
theorem dX12_seat_83 : decode cX12_seat 83 = .ok (.iload 4, 2) := by decide +kernel
theorem dX12_seat_85 : decode cX12_seat 85 = .ok (.iaload, 1) := by decide +kernel
theorem dX12_seat_86 : decode cX12_seat 86 = .ok (.goto 48, 3) := by decide +kernel
theorem dX12_seat_89 : decode cX12_seat 89 = .ok (.iload_n 3, 1) := by decide +kernel
theorem dX12_seat_90 : decode cX12_seat 90 = .ok (.iconst 2, 1) := by decide +kernel
theorem dX12_seat_91 : decode cX12_seat 91 = .ok (.if_icmp .ne 13, 3) := by decide +kernel
theorem dX12_seat_94 : decode cX12_seat 94 = .ok (.aload_n 0, 1) := by decide +kernel
theorem dX12_seat_95 : decode cX12_seat 95 = .ok (.getfield 136, 3) := by decide +kernel
theorem dX12_seat_98 : decode cX12_seat 98 = .ok (.iload 4, 2) := by decide +kernel
theorem dX12_seat_100 : decode cX12_seat 100 = .ok (.iaload, 1) := by decide +kernel
theorem dX12_seat_101 : decode cX12_seat 101 = .ok (.goto 33, 3) := by decide +kernel
theorem dX12_seat_104 : decode cX12_seat 104 = .ok (.iload_n 3, 1) := by decide +kernel
theorem dX12_seat_105 : decode cX12_seat 105 = .ok (.iconst 3, 1) := by decide +kernel
theorem dX12_seat_106 : decode cX12_seat 106 = .ok (.if_icmp .ne 21, 3) := by decide +kernel
theorem dX12_seat_109 : decode cX12_seat 109 = .ok (.aload_n 0, 1) := by decide +kernel
theorem dX12_seat_110 : decode cX12_seat 110 = .ok (.getfield 142, 3) := by decide +kernel
theorem dX12_seat_113 : decode cX12_seat 113 = .ok (.iload 4, 2) := by decide +kernel
theorem dX12_seat_115 : decode cX12_seat 115 = .ok (.baload, 1) := by decide +kernel
theorem dX12_seat_116 : decode cX12_seat 116 = .ok (.ifCond .eq 7, 3) := by decide +kernel
theorem dX12_seat_119 : decode cX12_seat 119 = .ok (.iconst 1, 1) := by decide +kernel
theorem dX12_seat_120 : decode cX12_seat 120 = .ok (.goto 14, 3) := by decide +kernel
theorem dX12_seat_123 : decode cX12_seat 123 = .ok (.iconst 0, 1) := by decide +kernel
theorem dX12_seat_124 : decode cX12_seat 124 = .ok (.goto 10, 3) := by decide +kernel
theorem dX12_seat_127 : decode cX12_seat 127 = .ok (.aload_n 0, 1) := by decide +kernel
theorem dX12_seat_128 : decode cX12_seat 128 = .ok (.getfield 139, 3) := by decide +kernel
theorem dX12_seat_131 : decode cX12_seat 131 = .ok (.iload 4, 2) := by decide +kernel
theorem dX12_seat_133 : decode cX12_seat 133 = .ok (.iaload, 1) := by decide +kernel
theorem dX12_seat_134 : decode cX12_seat 134 = .ok (.ireturn, 1) := by decide +kernel
def fX12_seat (a1 : Int32) (a2 : Int32) (a3 : Int32) (h : Hp) : Option (Int32 × Hp) := lb (sI h 12 0 0 0) (fun h1 => br ((fX12_isHouse a1 h1) = 0) (some ((-1), h1)) (br ((fX12_isPast a2 h1) = 0) (some ((-1), h1)) (br ((fX12_in a3.toInt64 0 4 h1) = 0) (some ((-1), h1)) (gd (ib (((200 : Int32) * a1) + a2) 2400) (br ((gI h1 88 0 (ix (((200 : Int32) * a1) + a2))) = (-1)) (some ((-1), h1)) (lb (((200 : Int32) * a1) + a2) (fun v3 => br (a3 = 0) (gd (ib v3 2400) (some (gI h1 88 0 (ix v3), h1))) (br (a3 = 1) (gd (ib v3 2400) (some (gI h1 89 0 (ix v3), h1))) (br (a3 = 2) (gd (ib v3 2400) (some (gI h1 90 0 (ix v3), h1))) (br (a3 = 3) (gd (ib v3 2400) (br ((gI h1 92 0 (ix v3)) = 0) (some (0, h1)) (some (1, h1)))) (gd (ib v3 2400) (some (gI h1 91 0 (ix v3), h1)))))))))))))
set_option maxRecDepth 20000 in
theorem tX12_seat {X : Cz} {a1 : Int32} {a2 : Int32} {a3 : Int32} {h hE : Hp} {rE : Int32} (hF : fX12_seat a1 a2 a3 h = some (rE, hE)) : Ct X mX12_seat true [zr 12 0, zi a1, zi a2, zi a3] h (some (zi rE)) hE := by
  refine Ct_of (by decide) (Nat.le_of_ble_eq_true rfl) (ls := [(0, zr 12 0), (1, zi a1), (2, zi a2), (3, zi a3)]) rfl ?_
  unfold fX12_seat at hF
  refine v_aload_n (j := 0) dX12_seat_0 rfl ?_
  refine v_iconst (v := 0) dX12_seat_1 (by decide) ?_
  refine v_putI (c := 12) rfl rfl (Nat.le_of_ble_eq_true rfl) cz12 flX12_208 dX12_seat_2 ?_
  refine v_toph fun h1 eh1 => ?_
  replace hF := lb_use eh1 hF
  clear eh1
  refine v_aload_n (j := 0) dX12_seat_5 rfl ?_
  refine v_iload_n (j := 1) dX12_seat_6 rfl ?_
  refine v_cV (hm := h1) (av := [zi a1]) (st := []) (stn := [zi (fX12_isHouse a1 h1)]) (tX12_isHouse a1 h1) lcX12_isHouse mlX12_298 imX12_isHouse seX12_isHouse rfl rfl rfl rfl ⟨by decide, by decide⟩ (Nat.le_of_ble_eq_true rfl) dX12_seat_7 rfl rfl ?_
  refine v_if_eq dX12_seat_10 (by decide : _ = ((49 : Nat) : Int)) (fun q => ?_) (fun q => ?_)
  · replace hF := brT q hF
    refine v_iconst (v := (-1)) dX12_seat_49 (by decide) ?_
    obtain ⟨rfl, rfl⟩ := ret_use hF
    exact v_iret rfl dX12_seat_50
  · replace hF := brF q hF
    refine v_aload_n (j := 0) dX12_seat_13 rfl ?_
    refine v_iload_n (j := 2) dX12_seat_14 rfl ?_
    refine v_cV (hm := h1) (av := [zi a2]) (st := []) (stn := [zi (fX12_isPast a2 h1)]) (tX12_isPast a2 h1) lcX12_isPast mlX12_421 imX12_isPast seX12_isPast rfl rfl rfl rfl ⟨by decide, by decide⟩ (Nat.le_of_ble_eq_true rfl) dX12_seat_15 rfl rfl ?_
    refine v_if_eq dX12_seat_18 (by decide : _ = ((49 : Nat) : Int)) (fun q => ?_) (fun q => ?_)
    · replace hF := brT q hF
      refine v_iconst (v := (-1)) dX12_seat_49 (by decide) ?_
      obtain ⟨rfl, rfl⟩ := ret_use hF
      exact v_iret rfl dX12_seat_50
    · replace hF := brF q hF
      refine v_iload_n (j := 3) dX12_seat_21 rfl ?_
      refine v_i2l dX12_seat_22 ?_
      refine v_lconst (v := 0) dX12_seat_23 (by decide) ?_
      refine v_ldc2 dX12_seat_24 kcX12_244 ?_
      refine v_cS (hm := h1) (av := [zj a3.toInt64, zj 0, zj 4]) (st := []) (stn := [zi (fX12_in a3.toInt64 0 4 h1)]) (tX12_in a3.toInt64 0 4 h1) lcX12_in mlX12_213 sxX12_in rfl ⟨by decide, by decide⟩ (Nat.le_of_ble_eq_true rfl) dX12_seat_27 rfl rfl ?_
      refine v_if_eq dX12_seat_30 (by decide : _ = ((49 : Nat) : Int)) (fun q => ?_) (fun q => ?_)
      · replace hF := brT q hF
        refine v_iconst (v := (-1)) dX12_seat_49 (by decide) ?_
        obtain ⟨rfl, rfl⟩ := ret_use hF
        exact v_iret rfl dX12_seat_50
      · replace hF := brF q hF
        refine v_aload_n (j := 0) dX12_seat_33 rfl ?_
        refine v_getL (c := 12) rfl rfl rfl ly12_48 cz12 flX12_130 dX12_seat_34 ?_
        refine v_sipush (v := 200) dX12_seat_37 (by decide) ?_
        refine v_iload_n (j := 1) dX12_seat_40 rfl ?_
        refine v_imul dX12_seat_41 ?_
        refine v_iload_n (j := 2) dX12_seat_42 rfl ?_
        refine v_iadd dX12_seat_43 ?_
        replace hF := gd_use hF
        obtain ⟨q2, hF⟩ := hF
        refine v_iald rfl q2 dX12_seat_44 ?_
        refine v_iconst (v := (-1)) dX12_seat_45 (by decide) ?_
        refine v_icmp_ne dX12_seat_46 (by decide : _ = ((51 : Nat) : Int)) (fun q => ?_) (fun q => ?_)
        · replace hF := brF q hF
          refine v_sipush (v := 200) dX12_seat_51 (by decide) ?_
          refine v_iload_n (j := 1) dX12_seat_54 rfl ?_
          refine v_imul dX12_seat_55 ?_
          refine v_iload_n (j := 2) dX12_seat_56 rfl ?_
          refine v_iadd dX12_seat_57 ?_
          refine v_topi fun v3 ev3 => ?_
          replace hF := lb_use ev3 hF
          clear ev3
          refine v_istore (ls' := [(4, zi v3), (0, zr 12 0), (1, zi a1), (2, zi a2), (3, zi a3)]) dX12_seat_58 (by decide) rfl ?_
          refine v_iload_n (j := 4) dX12_seat_60 rfl ?_
          refine v_if_ne dX12_seat_61 (by decide : _ = ((74 : Nat) : Int)) (fun q => ?_) (fun q => ?_)
          · replace hF := brF q hF
            refine v_iload_n (j := 4) dX12_seat_74 rfl ?_
            refine v_iconst (v := 1) dX12_seat_75 (by decide) ?_
            refine v_icmp_ne dX12_seat_76 (by decide : _ = ((89 : Nat) : Int)) (fun q => ?_) (fun q => ?_)
            · replace hF := brF q hF
              refine v_iload_n (j := 4) dX12_seat_89 rfl ?_
              refine v_iconst (v := 2) dX12_seat_90 (by decide) ?_
              refine v_icmp_ne dX12_seat_91 (by decide : _ = ((104 : Nat) : Int)) (fun q => ?_) (fun q => ?_)
              · replace hF := brF q hF
                refine v_iload_n (j := 4) dX12_seat_104 rfl ?_
                refine v_iconst (v := 3) dX12_seat_105 (by decide) ?_
                refine v_icmp_ne dX12_seat_106 (by decide : _ = ((127 : Nat) : Int)) (fun q => ?_) (fun q => ?_)
                · replace hF := brF q hF
                  refine v_aload_n (j := 1) dX12_seat_127 rfl ?_
                  refine v_getL (c := 12) rfl rfl rfl ly12_51 cz12 flX12_139 dX12_seat_128 ?_
                  refine v_iload (j := 0) dX12_seat_131 rfl ?_
                  replace hF := gd_use hF
                  obtain ⟨q4, hF⟩ := hF
                  refine v_iald rfl q4 dX12_seat_133 ?_
                  obtain ⟨rfl, rfl⟩ := ret_use hF
                  exact v_iret rfl dX12_seat_134
                · replace hF := brT (Decidable.not_not.mp q) hF
                  refine v_aload_n (j := 1) dX12_seat_109 rfl ?_
                  refine v_getL (c := 12) rfl rfl rfl ly12_52 cz12 flX12_142 dX12_seat_110 ?_
                  refine v_iload (j := 0) dX12_seat_113 rfl ?_
                  replace hF := gd_use hF
                  obtain ⟨q5, hF⟩ := hF
                  refine v_zald rfl q5 dX12_seat_115 ?_
                  refine v_if_eq dX12_seat_116 (by decide : _ = ((123 : Nat) : Int)) (fun q => ?_) (fun q => ?_)
                  · replace hF := brT q hF
                    refine v_iconst (v := 0) dX12_seat_123 (by decide) ?_
                    refine v_goto (tgt := 134) dX12_seat_124 (by decide) ?_
                    obtain ⟨rfl, rfl⟩ := ret_use hF
                    exact v_iret rfl dX12_seat_134
                  · replace hF := brF q hF
                    refine v_iconst (v := 1) dX12_seat_119 (by decide) ?_
                    refine v_goto (tgt := 134) dX12_seat_120 (by decide) ?_
                    obtain ⟨rfl, rfl⟩ := ret_use hF
                    exact v_iret rfl dX12_seat_134
              · replace hF := brT (Decidable.not_not.mp q) hF
                refine v_aload_n (j := 1) dX12_seat_94 rfl ?_
                refine v_getL (c := 12) rfl rfl rfl ly12_50 cz12 flX12_136 dX12_seat_95 ?_
                refine v_iload (j := 0) dX12_seat_98 rfl ?_
                replace hF := gd_use hF
                obtain ⟨q6, hF⟩ := hF
                refine v_iald rfl q6 dX12_seat_100 ?_
                refine v_goto (tgt := 134) dX12_seat_101 (by decide) ?_
                obtain ⟨rfl, rfl⟩ := ret_use hF
                exact v_iret rfl dX12_seat_134
            · replace hF := brT (Decidable.not_not.mp q) hF
              refine v_aload_n (j := 1) dX12_seat_79 rfl ?_
              refine v_getL (c := 12) rfl rfl rfl ly12_49 cz12 flX12_133 dX12_seat_80 ?_
              refine v_iload (j := 0) dX12_seat_83 rfl ?_
              replace hF := gd_use hF
              obtain ⟨q7, hF⟩ := hF
              refine v_iald rfl q7 dX12_seat_85 ?_
              refine v_goto (tgt := 134) dX12_seat_86 (by decide) ?_
              obtain ⟨rfl, rfl⟩ := ret_use hF
              exact v_iret rfl dX12_seat_134
          · replace hF := brT (Decidable.not_not.mp q) hF
            refine v_aload_n (j := 1) dX12_seat_64 rfl ?_
            refine v_getL (c := 12) rfl rfl rfl ly12_48 cz12 flX12_130 dX12_seat_65 ?_
            refine v_iload (j := 0) dX12_seat_68 rfl ?_
            replace hF := gd_use hF
            obtain ⟨q8, hF⟩ := hF
            refine v_iald rfl q8 dX12_seat_70 ?_
            refine v_goto (tgt := 134) dX12_seat_71 (by decide) ?_
            obtain ⟨rfl, rfl⟩ := ret_use hF
            exact v_iret rfl dX12_seat_134
        · replace hF := brT (Decidable.not_not.mp q) hF
          refine v_iconst (v := (-1)) dX12_seat_49 (by decide) ?_
          obtain ⟨rfl, rfl⟩ := ret_use hF
          exact v_iret rfl dX12_seat_50
theorem dX12_moved_0 : decode cX12_moved 0 = .ok (.aload_n 0, 1) := by decide +kernel
theorem dX12_moved_1 : decode cX12_moved 1 = .ok (.iconst 0, 1) := by decide +kernel
theorem dX12_moved_2 : decode cX12_moved 2 = .ok (.putfield 208, 3) := by decide +kernel
theorem dX12_moved_5 : decode cX12_moved 5 = .ok (.aload_n 0, 1) := by decide +kernel
theorem dX12_moved_6 : decode cX12_moved 6 = .ok (.iload_n 1, 1) := by decide +kernel
theorem dX12_moved_7 : decode cX12_moved 7 = .ok (.invokevirtual 421, 3) := by decide +kernel
theorem dX12_moved_10 : decode cX12_moved 10 = .ok (.ifCond .eq 11, 3) := by decide +kernel
theorem dX12_moved_13 : decode cX12_moved 13 = .ok (.aload_n 0, 1) := by decide +kernel
theorem dX12_moved_14 : decode cX12_moved 14 = .ok (.iload_n 2, 1) := by decide +kernel
theorem dX12_moved_15 : decode cX12_moved 15 = .ok (.invokevirtual 421, 3) := by decide +kernel
theorem dX12_moved_18 : decode cX12_moved 18 = .ok (.ifCond .ne 6, 3) := by decide +kernel
theorem dX12_moved_21 : decode cX12_moved 21 = .ok (.bipush (-2), 2) := by decide +kernel
theorem dX12_moved_23 : decode cX12_moved 23 = .ok (.ireturn, 1) := by decide +kernel
theorem dX12_moved_24 : decode cX12_moved 24 = .ok (.iconst 0, 1) := by decide +kernel
theorem dX12_moved_25 : decode cX12_moved 25 = .ok (.istore_n 3, 1) := by decide +kernel
theorem dX12_moved_26 : decode cX12_moved 26 = .ok (.iconst 0, 1) := by decide +kernel
theorem dX12_moved_27 : decode cX12_moved 27 = .ok (.istore 4, 2) := by decide +kernel
theorem dX12_moved_29 : decode cX12_moved 29 = .ok (.iload 4, 2) := by decide +kernel
theorem dX12_moved_31 : decode cX12_moved 31 = .ok (.aload_n 0, 1) := by decide +kernel
theorem dX12_moved_32 : decode cX12_moved 32 = .ok (.getfield 295, 3) := by decide +kernel
theorem dX12_moved_35 : decode cX12_moved 35 = .ok (.if_icmp .ge 113, 3) := by decide +kernel
theorem dX12_moved_38 : decode cX12_moved 38 = .ok (.sipush 200, 3) := by decide +kernel
theorem dX12_moved_41 : decode cX12_moved 41 = .ok (.iload 4, 2) := by decide +kernel
theorem dX12_moved_43 : decode cX12_moved 43 = .ok (.imul, 1) := by decide +kernel
theorem dX12_moved_44 : decode cX12_moved 44 = .ok (.iload_n 1, 1) := by decide +kernel
theorem dX12_moved_45 : decode cX12_moved 45 = .ok (.iadd, 1) := by decide +kernel
theorem dX12_moved_46 : decode cX12_moved 46 = .ok (.istore 5, 2) := by decide +kernel
theorem dX12_moved_48 : decode cX12_moved 48 = .ok (.sipush 200, 3) := by decide +kernel
theorem dX12_moved_51 : decode cX12_moved 51 = .ok (.iload 4, 2) := by decide +kernel
theorem dX12_moved_53 : decode cX12_moved 53 = .ok (.imul, 1) := by decide +kernel
theorem dX12_moved_54 : decode cX12_moved 54 = .ok (.iload_n 2, 1) := by decide +kernel
theorem dX12_moved_55 : decode cX12_moved 55 = .ok (.iadd, 1) := by decide +kernel
theorem dX12_moved_56 : decode cX12_moved 56 = .ok (.istore 6, 2) := by decide +kernel
theorem dX12_moved_58 : decode cX12_moved 58 = .ok (.aload_n 0, 1) := by decide +kernel
theorem dX12_moved_59 : decode cX12_moved 59 = .ok (.getfield 130, 3) := by decide +kernel
theorem dX12_moved_62 : decode cX12_moved 62 = .ok (.iload 5, 2) := by decide +kernel
theorem dX12_moved_64 : decode cX12_moved 64 = .ok (.iaload, 1) := by decide +kernel
theorem dX12_moved_65 : decode cX12_moved 65 = .ok (.iconst (-1), 1) := by decide +kernel
theorem dX12_moved_66 : decode cX12_moved 66 = .ok (.if_icmp .eq 76, 3) := by decide +kernel
theorem dX12_moved_69 : decode cX12_moved 69 = .ok (.aload_n 0, 1) := by decide +kernel
theorem dX12_moved_70 : decode cX12_moved 70 = .ok (.getfield 130, 3) := by decide +kernel
theorem dX12_moved_73 : decode cX12_moved 73 = .ok (.iload 6, 2) := by decide +kernel
theorem dX12_moved_75 : decode cX12_moved 75 = .ok (.iaload, 1) := by decide +kernel
theorem dX12_moved_76 : decode cX12_moved 76 = .ok (.iconst (-1), 1) := by decide +kernel
theorem dX12_moved_77 : decode cX12_moved 77 = .ok (.if_icmp .ne 6, 3) := by decide +kernel
theorem dX12_moved_80 : decode cX12_moved 80 = .ok (.goto 62, 3) := by decide +kernel
theorem dX12_moved_83 : decode cX12_moved 83 = .ok (.iload_n 3, 1) := by decide +kernel
theorem dX12_moved_84 : decode cX12_moved 84 = .ok (.aload_n 0, 1) := by decide +kernel
theorem dX12_moved_85 : decode cX12_moved 85 = .ok (.getfield 130, 3) := by decide +kernel
theorem dX12_moved_88 : decode cX12_moved 88 = .ok (.iload 5, 2) := by decide +kernel
theorem dX12_moved_90 : decode cX12_moved 90 = .ok (.iaload, 1) := by decide +kernel
theorem dX12_moved_91 : decode cX12_moved 91 = .ok (.aload_n 0, 1) := by decide +kernel
theorem dX12_moved_92 : decode cX12_moved 92 = .ok (.getfield 130, 3) := by decide +kernel
theorem dX12_moved_95 : decode cX12_moved 95 = .ok (.iload 6, 2) := by decide +kernel
theorem dX12_moved_97 : decode cX12_moved 97 = .ok (.iaload, 1) := by decide +kernel
theorem dX12_moved_98 : decode cX12_moved 98 = .ok (.if_icmp .ne 41, 3) := by decide +kernel
theorem dX12_moved_101 : decode cX12_moved 101 = .ok (.aload_n 0, 1) := by decide +kernel
theorem dX12_moved_102 : decode cX12_moved 102 = .ok (.getfield 133, 3) := by decide +kernel
theorem dX12_moved_105 : decode cX12_moved 105 = .ok (.iload 5, 2) := by decide +kernel
theorem dX12_moved_107 : decode cX12_moved 107 = .ok (.iaload, 1) := by decide +kernel
theorem dX12_moved_108 : decode cX12_moved 108 = .ok (.aload_n 0, 1) := by decide +kernel
theorem dX12_moved_109 : decode cX12_moved 109 = .ok (.getfield 133, 3) := by decide +kernel
theorem dX12_moved_112 : decode cX12_moved 112 = .ok (.iload 6, 2) := by decide +kernel
theorem dX12_moved_114 : decode cX12_moved 114 = .ok (.iaload, 1) := by decide +kernel
theorem dX12_moved_115 : decode cX12_moved 115 = .ok (.if_icmp .ne 24, 3) := by decide +kernel
theorem dX12_moved_118 : decode cX12_moved 118 = .ok (.aload_n 0, 1) := by decide +kernel
theorem dX12_moved_119 : decode cX12_moved 119 = .ok (.getfield 136, 3) := by decide +kernel
theorem dX12_moved_122 : decode cX12_moved 122 = .ok (.iload 5, 2) := by decide +kernel
theorem dX12_moved_124 : decode cX12_moved 124 = .ok (.iaload, 1) := by decide +kernel
theorem dX12_moved_125 : decode cX12_moved 125 = .ok (.aload_n 0, 1) := by decide +kernel
theorem dX12_moved_126 : decode cX12_moved 126 = .ok (.getfield 136, 3) := by decide +kernel
theorem dX12_moved_129 : decode cX12_moved 129 = .ok (.iload 6, 2) := by decide +kernel
theorem dX12_moved_131 : decode cX12_moved 131 = .ok (.iaload, 1) := by decide +kernel
theorem dX12_moved_132 : decode cX12_moved 132 = .ok (.if_icmp .ne 7, 3) := by decide +kernel
theorem dX12_moved_135 : decode cX12_moved 135 = .ok (.iconst 0, 1) := by decide +kernel
theorem dX12_moved_136 : decode cX12_moved 136 = .ok (.goto 4, 3) := by decide +kernel
theorem dX12_moved_139 : decode cX12_moved 139 = .ok (.iconst 1, 1) := by decide +kernel
theorem dX12_moved_140 : decode cX12_moved 140 = .ok (.iadd, 1) := by decide +kernel
theorem dX12_moved_141 : decode cX12_moved 141 = .ok (.istore_n 3, 1) := by decide +kernel
theorem dX12_moved_142 : decode cX12_moved 142 = .ok (.iinc 4 1, 3) := by decide +kernel
theorem dX12_moved_145 : decode cX12_moved 145 = .ok (.goto (-116), 3) := by decide +kernel
theorem dX12_moved_148 : decode cX12_moved 148 = .ok (.iload_n 3, 1) := by decide +kernel
theorem dX12_moved_149 : decode cX12_moved 149 = .ok (.ireturn, 1) := by decide +kernel
def fX12_moved_L29 : Nat → Int32 → Int32 → Int32 → Int32 → Hp → Option ((Int32 × Int32) × Hp)
  | 0, _, _, _, _, _ => none
  | n + 1, a1, a2, a3, a4, h => br ((gI h 12 0 8) ≤ a4) (some ((a3, a4), h)) (lb (((200 : Int32) * a4) + a1) (fun v2 => lb (((200 : Int32) * a4) + a2) (fun v3 => gd (ib v2 2400) (br ((gI h 88 0 (ix v2)) = (-1)) (lb (a4 + 1) (fun v5 => fX12_moved_L29 n a1 a2 a3 v5 h)) (gd (ib v3 2400) (br ((gI h 88 0 (ix v3)) = (-1)) (lb (a4 + 1) (fun v20 => fX12_moved_L29 n a1 a2 a3 v20 h)) (gd (ib v2 2400) (gd (ib v3 2400) (lb (fun (x10 : Int32) (h11 : Hp) => lb (x10 + 1) (fun v12 => lb (a4 + 1) (fun v13 => fX12_moved_L29 n a1 a2 v12 v13 h11))) (fun j9 => br ((gI h 88 0 (ix v2)) = (gI h 88 0 (ix v3))) (gd (ib v2 2400) (gd (ib v3 2400) (br ((gI h 89 0 (ix v2)) = (gI h 89 0 (ix v3))) (gd (ib v2 2400) (gd (ib v3 2400) (br ((gI h 90 0 (ix v2)) = (gI h 90 0 (ix v3))) (lb (a3 + 0) (fun v18 => lb (a4 + 1) (fun v19 => fX12_moved_L29 n a1 a2 v18 v19 h))) (j9 a3 h)))) (j9 a3 h)))) (j9 a3 h)))))))))))
def fX12_moved (a1 : Int32) (a2 : Int32) (h : Hp) : Option (Int32 × Hp) := lb (sI h 12 0 0 0) (fun h1 => br ((fX12_isPast a1 h1) = 0) (some ((-2), h1)) (br ((fX12_isPast a2 h1) = 0) (some ((-2), h1)) (bd (fX12_moved_L29 FU a1 a2 0 0 h1) (fun t22 h21 => lb t22.1 (fun v23 => lb t22.2 (fun v24 => some (v23, h21)))))))
set_option maxRecDepth 20000 in
theorem tX12_moved_L29 {X : Cz} {h0 : Hp} {r : Option AV} {hE : Hp} : ∀ (n : Nat) (a1 : Int32) (a2 : Int32) (a3 : Int32) (a4 : Int32) (h : Hp) (z : (Int32 × Int32) × Hp), fX12_moved_L29 n a1 a2 a3 a4 h = some z → V X mX12_moved true h0 148 [(0, zr 12 0), (1, zi a1), (2, zi a2), (3, zi z.1.1), (4, zi z.1.2)] [] z.2 r hE → V X mX12_moved true h0 29 [(0, zr 12 0), (1, zi a1), (2, zi a2), (3, zi a3), (4, zi a4)] [] h r hE := by
  intro n
  induction n with
  | zero => intro a1 a2 a3 a4 h z hF k; cases hF
  | succ n ih =>
    intro a1 a2 a3 a4 h z hF k
    rw [fX12_moved_L29] at hF
    refine v_iload (j := 4) dX12_moved_29 rfl ?_
    refine v_aload_n (j := 0) dX12_moved_31 rfl ?_
    refine v_getI (c := 12) rfl (Or.inl rfl) cz12 flX12_295 dX12_moved_32 ?_
    refine v_icmp_ge dX12_moved_35 (by decide : _ = ((148 : Nat) : Int)) (fun q => ?_) (fun q => ?_)
    · replace hF := brT q hF
      cases hF
      exact k
    · replace hF := brF q hF
      refine v_sipush (v := 200) dX12_moved_38 (by decide) ?_
      refine v_iload (j := 4) dX12_moved_41 rfl ?_
      refine v_imul dX12_moved_43 ?_
      refine v_iload_n (j := 1) dX12_moved_44 rfl ?_
      refine v_iadd dX12_moved_45 ?_
      refine v_topi fun v2 ev2 => ?_
      replace hF := lb_use ev2 hF
      clear ev2
      refine v_istore (ls' := [(5, zi v2), (0, zr 12 0), (1, zi a1), (2, zi a2), (3, zi a3), (4, zi a4)]) dX12_moved_46 (by decide) rfl ?_
      refine v_sipush (v := 200) dX12_moved_48 (by decide) ?_
      refine v_iload (j := 5) dX12_moved_51 rfl ?_
      refine v_imul dX12_moved_53 ?_
      refine v_iload_n (j := 3) dX12_moved_54 rfl ?_
      refine v_iadd dX12_moved_55 ?_
      refine v_topi fun v3 ev3 => ?_
      replace hF := lb_use ev3 hF
      clear ev3
      refine v_istore (ls' := [(6, zi v3), (5, zi v2), (0, zr 12 0), (1, zi a1), (2, zi a2), (3, zi a3), (4, zi a4)]) dX12_moved_56 (by decide) rfl ?_
      refine v_aload_n (j := 2) dX12_moved_58 rfl ?_
      refine v_getL (c := 12) rfl rfl rfl ly12_48 cz12 flX12_130 dX12_moved_59 ?_
      refine v_iload (j := 1) dX12_moved_62 rfl ?_
      replace hF := gd_use hF
      obtain ⟨q4, hF⟩ := hF
      refine v_iald rfl q4 dX12_moved_64 ?_
      refine v_iconst (v := (-1)) dX12_moved_65 (by decide) ?_
      refine v_icmp_eq dX12_moved_66 (by decide : _ = ((142 : Nat) : Int)) (fun q => ?_) (fun q => ?_)
      · replace hF := brT q hF
        obtain ⟨v5, ev5⟩ : ∃ y : Int32, y = a4 + 1 := ⟨_, rfl⟩
        replace hF := lb_use ev5 hF
        refine v_iinc (j := 6) (v := v5) (ls' := [(4, zi v5), (6, zi v3), (5, zi v2), (0, zr 12 0), (1, zi a1), (2, zi a2), (3, zi a3)]) dX12_moved_142 rfl (by rw [ev5]; rfl) (by decide) rfl ?_
        clear ev5
        refine v_goto (tgt := 29) dX12_moved_145 (by decide) ?_
        refine v_sub [3, 4, 5, 6, 0] rfl ?_
        exact ih a1 a2 a3 v5 h _ hF k
      · replace hF := brF q hF
        refine v_aload_n (j := 2) dX12_moved_69 rfl ?_
        refine v_getL (c := 12) rfl rfl rfl ly12_48 cz12 flX12_130 dX12_moved_70 ?_
        refine v_iload (j := 0) dX12_moved_73 rfl ?_
        replace hF := gd_use hF
        obtain ⟨q6, hF⟩ := hF
        refine v_iald rfl q6 dX12_moved_75 ?_
        refine v_iconst (v := (-1)) dX12_moved_76 (by decide) ?_
        refine v_icmp_ne dX12_moved_77 (by decide : _ = ((83 : Nat) : Int)) (fun q => ?_) (fun q => ?_)
        · replace hF := brF q hF
          refine v_iload_n (j := 5) dX12_moved_83 rfl ?_
          refine v_aload_n (j := 2) dX12_moved_84 rfl ?_
          refine v_getL (c := 12) rfl rfl rfl ly12_48 cz12 flX12_130 dX12_moved_85 ?_
          refine v_iload (j := 1) dX12_moved_88 rfl ?_
          replace hF := gd_use hF
          obtain ⟨q7, hF⟩ := hF
          refine v_iald rfl q7 dX12_moved_90 ?_
          refine v_aload_n (j := 2) dX12_moved_91 rfl ?_
          refine v_getL (c := 12) rfl rfl rfl ly12_48 cz12 flX12_130 dX12_moved_92 ?_
          refine v_iload (j := 0) dX12_moved_95 rfl ?_
          replace hF := gd_use hF
          obtain ⟨q8, hF⟩ := hF
          refine v_iald rfl q8 dX12_moved_97 ?_
          replace hF := lb_ex hF
          obtain ⟨j9, ej9, hF⟩ := hF
          have j9V : ∀ (x10 : Int32) (h11 : Hp), j9 x10 h11 = some z → V X mX12_moved true h0 139 [(0, zr 12 0), (1, zi a1), (2, zi a2), (4, zi a4)] [zi x10] h11 r hE := by
            intro x10 h11 hF
            subst ej9
            refine v_iconst (v := 1) dX12_moved_139 (by decide) ?_
            refine v_iadd dX12_moved_140 ?_
            refine v_topi fun v12 ev12 => ?_
            replace hF := lb_use ev12 hF
            clear ev12
            refine v_istore_n (ls' := [(3, zi v12), (0, zr 12 0), (1, zi a1), (2, zi a2), (4, zi a4)]) dX12_moved_141 (by decide) rfl ?_
            obtain ⟨v13, ev13⟩ : ∃ y : Int32, y = a4 + 1 := ⟨_, rfl⟩
            replace hF := lb_use ev13 hF
            refine v_iinc (j := 4) (v := v13) (ls' := [(4, zi v13), (3, zi v12), (0, zr 12 0), (1, zi a1), (2, zi a2)]) dX12_moved_142 rfl (by rw [ev13]; rfl) (by decide) rfl ?_
            clear ev13
            refine v_goto (tgt := 29) dX12_moved_145 (by decide) ?_
            refine v_sub [2, 3, 4, 1, 0] rfl ?_
            exact ih a1 a2 v12 v13 h11 _ hF k
          clear ej9
          refine v_icmp_ne dX12_moved_98 (by decide : _ = ((139 : Nat) : Int)) (fun q => ?_) (fun q => ?_)
          · replace hF := brF q hF
            refine v_sub [2, 3, 4, 6] rfl ?_
            exact j9V a3 h hF
          · replace hF := brT (Decidable.not_not.mp q) hF
            refine v_aload_n (j := 2) dX12_moved_101 rfl ?_
            refine v_getL (c := 12) rfl rfl rfl ly12_49 cz12 flX12_133 dX12_moved_102 ?_
            refine v_iload (j := 1) dX12_moved_105 rfl ?_
            replace hF := gd_use hF
            obtain ⟨q14, hF⟩ := hF
            refine v_iald rfl q14 dX12_moved_107 ?_
            refine v_aload_n (j := 2) dX12_moved_108 rfl ?_
            refine v_getL (c := 12) rfl rfl rfl ly12_49 cz12 flX12_133 dX12_moved_109 ?_
            refine v_iload (j := 0) dX12_moved_112 rfl ?_
            replace hF := gd_use hF
            obtain ⟨q15, hF⟩ := hF
            refine v_iald rfl q15 dX12_moved_114 ?_
            refine v_icmp_ne dX12_moved_115 (by decide : _ = ((139 : Nat) : Int)) (fun q => ?_) (fun q => ?_)
            · replace hF := brF q hF
              refine v_sub [2, 3, 4, 6] rfl ?_
              exact j9V a3 h hF
            · replace hF := brT (Decidable.not_not.mp q) hF
              refine v_aload_n (j := 2) dX12_moved_118 rfl ?_
              refine v_getL (c := 12) rfl rfl rfl ly12_50 cz12 flX12_136 dX12_moved_119 ?_
              refine v_iload (j := 1) dX12_moved_122 rfl ?_
              replace hF := gd_use hF
              obtain ⟨q16, hF⟩ := hF
              refine v_iald rfl q16 dX12_moved_124 ?_
              refine v_aload_n (j := 2) dX12_moved_125 rfl ?_
              refine v_getL (c := 12) rfl rfl rfl ly12_50 cz12 flX12_136 dX12_moved_126 ?_
              refine v_iload (j := 0) dX12_moved_129 rfl ?_
              replace hF := gd_use hF
              obtain ⟨q17, hF⟩ := hF
              refine v_iald rfl q17 dX12_moved_131 ?_
              refine v_icmp_ne dX12_moved_132 (by decide : _ = ((139 : Nat) : Int)) (fun q => ?_) (fun q => ?_)
              · replace hF := brF q hF
                refine v_sub [2, 3, 4, 6] rfl ?_
                exact j9V a3 h hF
              · replace hF := brT (Decidable.not_not.mp q) hF
                refine v_iconst (v := 0) dX12_moved_135 (by decide) ?_
                refine v_goto (tgt := 140) dX12_moved_136 (by decide) ?_
                refine v_iadd dX12_moved_140 ?_
                refine v_topi fun v18 ev18 => ?_
                replace hF := lb_use ev18 hF
                clear ev18
                refine v_istore_n (ls' := [(3, zi v18), (6, zi v3), (5, zi v2), (0, zr 12 0), (1, zi a1), (2, zi a2), (4, zi a4)]) dX12_moved_141 (by decide) rfl ?_
                obtain ⟨v19, ev19⟩ : ∃ y : Int32, y = a4 + 1 := ⟨_, rfl⟩
                replace hF := lb_use ev19 hF
                refine v_iinc (j := 6) (v := v19) (ls' := [(4, zi v19), (3, zi v18), (6, zi v3), (5, zi v2), (0, zr 12 0), (1, zi a1), (2, zi a2)]) dX12_moved_142 rfl (by rw [ev19]; rfl) (by decide) rfl ?_
                clear ev19
                refine v_goto (tgt := 29) dX12_moved_145 (by decide) ?_
                refine v_sub [4, 5, 6, 1, 0] rfl ?_
                exact ih a1 a2 v18 v19 h _ hF k
        · replace hF := brT (Decidable.not_not.mp q) hF
          refine v_goto (tgt := 142) dX12_moved_80 (by decide) ?_
          obtain ⟨v20, ev20⟩ : ∃ y : Int32, y = a4 + 1 := ⟨_, rfl⟩
          replace hF := lb_use ev20 hF
          refine v_iinc (j := 6) (v := v20) (ls' := [(4, zi v20), (6, zi v3), (5, zi v2), (0, zr 12 0), (1, zi a1), (2, zi a2), (3, zi a3)]) dX12_moved_142 rfl (by rw [ev20]; rfl) (by decide) rfl ?_
          clear ev20
          refine v_goto (tgt := 29) dX12_moved_145 (by decide) ?_
          refine v_sub [3, 4, 5, 6, 0] rfl ?_
          exact ih a1 a2 a3 v20 h _ hF k
set_option maxRecDepth 20000 in
theorem tX12_moved {X : Cz} {a1 : Int32} {a2 : Int32} {h hE : Hp} {rE : Int32} (hF : fX12_moved a1 a2 h = some (rE, hE)) : Ct X mX12_moved true [zr 12 0, zi a1, zi a2] h (some (zi rE)) hE := by
  refine Ct_of (by decide) (Nat.le_of_ble_eq_true rfl) (ls := [(0, zr 12 0), (1, zi a1), (2, zi a2)]) rfl ?_
  unfold fX12_moved at hF
  refine v_aload_n (j := 0) dX12_moved_0 rfl ?_
  refine v_iconst (v := 0) dX12_moved_1 (by decide) ?_
  refine v_putI (c := 12) rfl rfl (Nat.le_of_ble_eq_true rfl) cz12 flX12_208 dX12_moved_2 ?_
  refine v_toph fun h1 eh1 => ?_
  replace hF := lb_use eh1 hF
  clear eh1
  refine v_aload_n (j := 0) dX12_moved_5 rfl ?_
  refine v_iload_n (j := 1) dX12_moved_6 rfl ?_
  refine v_cV (hm := h1) (av := [zi a1]) (st := []) (stn := [zi (fX12_isPast a1 h1)]) (tX12_isPast a1 h1) lcX12_isPast mlX12_421 imX12_isPast seX12_isPast rfl rfl rfl rfl ⟨by decide, by decide⟩ (Nat.le_of_ble_eq_true rfl) dX12_moved_7 rfl rfl ?_
  refine v_if_eq dX12_moved_10 (by decide : _ = ((21 : Nat) : Int)) (fun q => ?_) (fun q => ?_)
  · replace hF := brT q hF
    refine v_bipush (v := (-2)) dX12_moved_21 (by decide) ?_
    obtain ⟨rfl, rfl⟩ := ret_use hF
    exact v_iret rfl dX12_moved_23
  · replace hF := brF q hF
    refine v_aload_n (j := 0) dX12_moved_13 rfl ?_
    refine v_iload_n (j := 2) dX12_moved_14 rfl ?_
    refine v_cV (hm := h1) (av := [zi a2]) (st := []) (stn := [zi (fX12_isPast a2 h1)]) (tX12_isPast a2 h1) lcX12_isPast mlX12_421 imX12_isPast seX12_isPast rfl rfl rfl rfl ⟨by decide, by decide⟩ (Nat.le_of_ble_eq_true rfl) dX12_moved_15 rfl rfl ?_
    refine v_if_ne dX12_moved_18 (by decide : _ = ((24 : Nat) : Int)) (fun q => ?_) (fun q => ?_)
    · replace hF := brF q hF
      refine v_iconst (v := 0) dX12_moved_24 (by decide) ?_
      refine v_istore_n (ls' := [(3, zi 0), (0, zr 12 0), (1, zi a1), (2, zi a2)]) dX12_moved_25 (by decide) rfl ?_
      refine v_iconst (v := 0) dX12_moved_26 (by decide) ?_
      refine v_istore (ls' := [(4, zi 0), (3, zi 0), (0, zr 12 0), (1, zi a1), (2, zi a2)]) dX12_moved_27 (by decide) rfl ?_
      refine v_sub [2, 3, 4, 1, 0] rfl ?_
      replace hF := bd_use hF
      obtain ⟨t22, h21, et22, hF⟩ := hF
      refine tX12_moved_L29 _ a1 a2 0 0 h1 _ et22 ?_
      clear et22
      obtain ⟨v23, v24⟩ := t22
      replace hF := lb_use (x := v23) rfl hF
      replace hF := lb_use (x := v24) rfl hF
      refine v_iload_n (j := 3) dX12_moved_148 rfl ?_
      obtain ⟨rfl, rfl⟩ := ret_use hF
      exact v_iret rfl dX12_moved_149
    · replace hF := brT (Decidable.not_not.mp q) hF
      refine v_bipush (v := (-2)) dX12_moved_21 (by decide) ?_
      obtain ⟨rfl, rfl⟩ := ret_use hF
      exact v_iret rfl dX12_moved_23
theorem dX12_beside_0 : decode cX12_beside 0 = .ok (.aload_n 0, 1) := by decide +kernel
theorem dX12_beside_1 : decode cX12_beside 1 = .ok (.iconst 0, 1) := by decide +kernel
theorem dX12_beside_2 : decode cX12_beside 2 = .ok (.putfield 208, 3) := by decide +kernel
theorem dX12_beside_5 : decode cX12_beside 5 = .ok (.iload_n 1, 1) := by decide +kernel
theorem dX12_beside_6 : decode cX12_beside 6 = .ok (.i2l, 1) := by decide +kernel
theorem dX12_beside_7 : decode cX12_beside 7 = .ok (.lconst 0, 1) := by decide +kernel
theorem dX12_beside_8 : decode cX12_beside 8 = .ok (.ldc2_w 239, 3) := by decide +kernel
theorem dX12_beside_11 : decode cX12_beside 11 = .ok (.invokestatic 213, 3) := by decide +kernel
theorem dX12_beside_14 : decode cX12_beside 14 = .ok (.ifCond .ne 7, 3) := by decide +kernel
theorem dX12_beside_17 : decode cX12_beside 17 = .ok (.ldc2_w 392, 3) := by decide +kernel
theorem dX12_beside_20 : decode cX12_beside 20 = .ok (.lreturn, 1) := by decide +kernel
theorem dX12_beside_21 : decode cX12_beside 21 = .ok (.aload_n 0, 1) := by decide +kernel
theorem dX12_beside_22 : decode cX12_beside 22 = .ok (.iload_n 1, 1) := by decide +kernel
theorem dX12_beside_23 : decode cX12_beside 23 = .ok (.iconst 2, 1) := by decide +kernel
theorem dX12_beside_24 : decode cX12_beside 24 = .ok (.if_icmp .le 7, 3) := by decide +kernel
theorem dX12_beside_27 : decode cX12_beside 27 = .ok (.iconst 1, 1) := by decide +kernel
theorem dX12_beside_28 : decode cX12_beside 28 = .ok (.goto 4, 3) := by decide +kernel
theorem dX12_beside_31 : decode cX12_beside 31 = .ok (.iconst 0, 1) := by decide +kernel
theorem dX12_beside_32 : decode cX12_beside 32 = .ok (.invokevirtual 411, 3) := by decide +kernel
theorem dX12_beside_35 : decode cX12_beside 35 = .ok (.lconst 0, 1) := by decide +kernel
theorem dX12_beside_36 : decode cX12_beside 36 = .ok (.lstore_n 2, 1) := by decide +kernel
theorem dX12_beside_37 : decode cX12_beside 37 = .ok (.iconst 0, 1) := by decide +kernel
theorem dX12_beside_38 : decode cX12_beside 38 = .ok (.istore 4, 2) := by decide +kernel
theorem dX12_beside_40 : decode cX12_beside 40 = .ok (.iconst 0, 1) := by decide +kernel
theorem dX12_beside_41 : decode cX12_beside 41 = .ok (.istore 5, 2) := by decide +kernel
theorem dX12_beside_43 : decode cX12_beside 43 = .ok (.iconst 0, 1) := by decide +kernel
theorem dX12_beside_44 : decode cX12_beside 44 = .ok (.istore 6, 2) := by decide +kernel
theorem dX12_beside_46 : decode cX12_beside 46 = .ok (.iload 6, 2) := by decide +kernel
theorem dX12_beside_48 : decode cX12_beside 48 = .ok (.aload_n 0, 1) := by decide +kernel
theorem dX12_beside_49 : decode cX12_beside 49 = .ok (.getfield 295, 3) := by decide +kernel
theorem dX12_beside_52 : decode cX12_beside 52 = .ok (.if_icmp .ge 60, 3) := by decide +kernel
theorem dX12_beside_55 : decode cX12_beside 55 = .ok (.aload_n 0, 1) := by decide +kernel
theorem dX12_beside_56 : decode cX12_beside 56 = .ok (.getfield 163, 3) := by decide +kernel
theorem dX12_beside_59 : decode cX12_beside 59 = .ok (.iload 6, 2) := by decide +kernel
theorem dX12_beside_61 : decode cX12_beside 61 = .ok (.iaload, 1) := by decide +kernel
theorem dX12_beside_62 : decode cX12_beside 62 = .ok (.iconst (-1), 1) := by decide +kernel
theorem dX12_beside_63 : decode cX12_beside 63 = .ok (.if_icmp .ne 6, 3) := by decide +kernel
theorem dX12_beside_66 : decode cX12_beside 66 = .ok (.goto 40, 3) := by decide +kernel
theorem dX12_beside_69 : decode cX12_beside 69 = .ok (.lload_n 2, 1) := by decide +kernel
theorem dX12_beside_70 : decode cX12_beside 70 = .ok (.aload_n 0, 1) := by decide +kernel
theorem dX12_beside_71 : decode cX12_beside 71 = .ok (.getfield 169, 3) := by decide +kernel
theorem dX12_beside_74 : decode cX12_beside 74 = .ok (.iload 6, 2) := by decide +kernel
theorem dX12_beside_76 : decode cX12_beside 76 = .ok (.iaload, 1) := by decide +kernel
theorem dX12_beside_77 : decode cX12_beside 77 = .ok (.i2l, 1) := by decide +kernel
theorem dX12_beside_78 : decode cX12_beside 78 = .ok (.aload_n 0, 1) := by decide +kernel
theorem dX12_beside_79 : decode cX12_beside 79 = .ok (.getfield 61, 3) := by decide +kernel
theorem dX12_beside_82 : decode cX12_beside 82 = .ok (.iload 6, 2) := by decide +kernel
theorem dX12_beside_84 : decode cX12_beside 84 = .ok (.iaload, 1) := by decide +kernel
theorem dX12_beside_85 : decode cX12_beside 85 = .ok (.iconst 1, 1) := by decide +kernel
theorem dX12_beside_86 : decode cX12_beside 86 = .ok (.iadd, 1) := by decide +kernel
theorem dX12_beside_87 : decode cX12_beside 87 = .ok (.i2l, 1) := by decide +kernel
theorem dX12_beside_88 : decode cX12_beside 88 = .ok (.lmul, 1) := by decide +kernel
theorem dX12_beside_89 : decode cX12_beside 89 = .ok (.ladd, 1) := by decide +kernel
theorem dX12_beside_90 : decode cX12_beside 90 = .ok (.lstore_n 2, 1) := by decide +kernel
theorem dX12_beside_91 : decode cX12_beside 91 = .ok (.iinc 4 1, 3) := by decide +kernel
theorem dX12_beside_94 : decode cX12_beside 94 = .ok (.iload 5, 2) := by decide +kernel
theorem dX12_beside_96 : decode cX12_beside 96 = .ok (.aload_n 0, 1) := by decide +kernel
theorem dX12_beside_97 : decode cX12_beside 97 = .ok (.getfield 64, 3) := by decide +kernel
theorem dX12_beside_100 : decode cX12_beside 100 = .ok (.iload 6, 2) := by decide +kernel
theorem dX12_beside_102 : decode cX12_beside 102 = .ok (.iaload, 1) := by decide +kernel
theorem dX12_beside_103 : decode cX12_beside 103 = .ok (.iadd, 1) := by decide +kernel
theorem dX12_beside_104 : decode cX12_beside 104 = .ok (.istore 5, 2) := by decide +kernel
theorem dX12_beside_106 : decode cX12_beside 106 = .ok (.iinc 6 1, 3) := by decide +kernel
theorem dX12_beside_109 : decode cX12_beside 109 = .ok (.goto (-63), 3) := by decide +kernel
theorem dX12_beside_112 : decode cX12_beside 112 = .ok (.iload_n 1, 1) := by decide +kernel
theorem dX12_beside_113 : decode cX12_beside 113 = .ok (.iconst 3, 1) := by decide +kernel
theorem dX12_beside_114 : decode cX12_beside 114 = .ok (.irem, 1) := by decide +kernel
theorem dX12_beside_115 : decode cX12_beside 115 = .ok (.ifCond .ne 7, 3) := by decide +kernel
theorem dX12_beside_118 : decode cX12_beside 118 = .ok (.lload_n 2, 1) := by decide +kernel
theorem dX12_beside_119 : decode cX12_beside 119 = .ok (.goto 19, 3) := by decide +kernel
theorem dX12_beside_122 : decode cX12_beside 122 = .ok (.iload_n 1, 1) := by decide +kernel
theorem dX12_beside_123 : decode cX12_beside 123 = .ok (.iconst 3, 1) := by decide +kernel
theorem dX12_beside_124 : decode cX12_beside 124 = .ok (.irem, 1) := by decide +kernel
theorem dX12_beside_125 : decode cX12_beside 125 = .ok (.iconst 1, 1) := by decide +kernel
theorem dX12_beside_126 : decode cX12_beside 126 = .ok (.if_icmp .ne 9, 3) := by decide +kernel
theorem dX12_beside_129 : decode cX12_beside 129 = .ok (.iload 4, 2) := by decide +kernel
theorem dX12_beside_131 : decode cX12_beside 131 = .ok (.i2l, 1) := by decide +kernel
theorem dX12_beside_132 : decode cX12_beside 132 = .ok (.goto 6, 3) := by decide +kernel
theorem dX12_beside_135 : decode cX12_beside 135 = .ok (.iload 5, 2) := by decide +kernel
theorem dX12_beside_137 : decode cX12_beside 137 = .ok (.i2l, 1) := by decide +kernel
theorem dX12_beside_138 : decode cX12_beside 138 = .ok (.lreturn, 1) := by decide +kernel
def fX12_beside_L46 : Nat → Int32 → Int64 → Int32 → Int32 → Int32 → Hp → Option ((Int64 × Int32 × Int32 × Int32) × Hp)
  | 0, _, _, _, _, _, _ => none
  | n + 1, a1, a2, a4, a5, a6, h => br ((gI h 12 0 8) ≤ a6) (some ((a2, a4, a5, a6), h)) (gd (ib a6 12) (br ((gI h 99 0 (ix a6)) = (-1)) (lb (a6 + 1) (fun v15 => fX12_beside_L46 n a1 a2 a4 a5 v15 h)) (gd (ib a6 12) (gd (ib a6 12) (lb (a2 + (((gI h 101 0 (ix a6)).toInt64) * (((gI h 65 0 (ix a6)) + 1).toInt64))) (fun v10 => lb (a4 + 1) (fun v11 => gd (ib a6 12) (lb (a5 + (gI h 66 0 (ix a6))) (fun v13 => lb (a6 + 1) (fun v14 => fX12_beside_L46 n a1 v10 v11 v13 v14 h))))))))))
def fX12_beside (a1 : Int32) (h : Hp) : Option (Int64 × Hp) := lb (sI h 12 0 0 0) (fun h1 => br ((fX12_in a1.toInt64 0 5 h1) = 0) (some ((-2), h1)) (lb (fun (x3 : Int32) (h4 : Hp) => bd (fX12_seats x3 h4) (fun r5 h6 => bd (fX12_beside_L46 FU a1 0 0 0 0 h6) (fun t17 h16 => lb t17.1 (fun v18 => lb t17.2.1 (fun v19 => lb t17.2.2.1 (fun v20 => lb t17.2.2.2 (fun v21 => br ((a1 - a1 / 3 * 3) = 0) (some (v18, h16)) (br ((a1 - a1 / 3 * 3) = 1) (some (v19.toInt64, h16)) (some (v20.toInt64, h16)))))))))) (fun j2 => br (a1 ≤ 2) (j2 0 h1) (j2 1 h1))))
set_option maxRecDepth 20000 in
theorem tX12_beside_L46 {X : Cz} {h0 : Hp} {r : Option AV} {hE : Hp} : ∀ (n : Nat) (a1 : Int32) (a2 : Int64) (a4 : Int32) (a5 : Int32) (a6 : Int32) (h : Hp) (z : (Int64 × Int32 × Int32 × Int32) × Hp), fX12_beside_L46 n a1 a2 a4 a5 a6 h = some z → V X mX12_beside true h0 112 [(0, zr 12 0), (1, zi a1), (2, zj z.1.1), (4, zi z.1.2.1), (5, zi z.1.2.2.1), (6, zi z.1.2.2.2)] [] z.2 r hE → V X mX12_beside true h0 46 [(0, zr 12 0), (1, zi a1), (2, zj a2), (4, zi a4), (5, zi a5), (6, zi a6)] [] h r hE := by
  intro n
  induction n with
  | zero => intro a1 a2 a4 a5 a6 h z hF k; cases hF
  | succ n ih =>
    intro a1 a2 a4 a5 a6 h z hF k
    rw [fX12_beside_L46] at hF
    refine v_iload (j := 5) dX12_beside_46 rfl ?_
    refine v_aload_n (j := 0) dX12_beside_48 rfl ?_
    refine v_getI (c := 12) rfl (Or.inl rfl) cz12 flX12_295 dX12_beside_49 ?_
    refine v_icmp_ge dX12_beside_52 (by decide : _ = ((112 : Nat) : Int)) (fun q => ?_) (fun q => ?_)
    · replace hF := brT q hF
      cases hF
      exact k
    · replace hF := brF q hF
      refine v_aload_n (j := 0) dX12_beside_55 rfl ?_
      refine v_getL (c := 12) rfl rfl rfl ly12_62 cz12 flX12_163 dX12_beside_56 ?_
      refine v_iload (j := 5) dX12_beside_59 rfl ?_
      replace hF := gd_use hF
      obtain ⟨q7, hF⟩ := hF
      refine v_iald rfl q7 dX12_beside_61 ?_
      refine v_iconst (v := (-1)) dX12_beside_62 (by decide) ?_
      refine v_icmp_ne dX12_beside_63 (by decide : _ = ((69 : Nat) : Int)) (fun q => ?_) (fun q => ?_)
      · replace hF := brF q hF
        refine v_lload_n (j := 2) dX12_beside_69 rfl ?_
        refine v_aload_n (j := 0) dX12_beside_70 rfl ?_
        refine v_getL (c := 12) rfl rfl rfl ly12_64 cz12 flX12_169 dX12_beside_71 ?_
        refine v_iload (j := 5) dX12_beside_74 rfl ?_
        replace hF := gd_use hF
        obtain ⟨q8, hF⟩ := hF
        refine v_iald rfl q8 dX12_beside_76 ?_
        refine v_i2l dX12_beside_77 ?_
        refine v_aload_n (j := 0) dX12_beside_78 rfl ?_
        refine v_getL (c := 12) rfl rfl rfl ly12_25 cz12 flX12_61 dX12_beside_79 ?_
        refine v_iload (j := 5) dX12_beside_82 rfl ?_
        replace hF := gd_use hF
        obtain ⟨q9, hF⟩ := hF
        refine v_iald rfl q9 dX12_beside_84 ?_
        refine v_iconst (v := 1) dX12_beside_85 (by decide) ?_
        refine v_iadd dX12_beside_86 ?_
        refine v_i2l dX12_beside_87 ?_
        refine v_lmul dX12_beside_88 ?_
        refine v_ladd dX12_beside_89 ?_
        refine v_topj fun v10 ev10 => ?_
        replace hF := lb_use ev10 hF
        clear ev10
        refine v_lstore_n (ls' := [(2, zj v10), (0, zr 12 0), (1, zi a1), (4, zi a4), (5, zi a5), (6, zi a6)]) dX12_beside_90 (by decide) rfl ?_
        obtain ⟨v11, ev11⟩ : ∃ y : Int32, y = a4 + 1 := ⟨_, rfl⟩
        replace hF := lb_use ev11 hF
        refine v_iinc (j := 3) (v := v11) (ls' := [(4, zi v11), (2, zj v10), (0, zr 12 0), (1, zi a1), (5, zi a5), (6, zi a6)]) dX12_beside_91 rfl (by rw [ev11]; rfl) (by decide) rfl ?_
        clear ev11
        refine v_iload (j := 4) dX12_beside_94 rfl ?_
        refine v_aload_n (j := 2) dX12_beside_96 rfl ?_
        refine v_getL (c := 12) rfl rfl rfl ly12_26 cz12 flX12_64 dX12_beside_97 ?_
        refine v_iload (j := 5) dX12_beside_100 rfl ?_
        replace hF := gd_use hF
        obtain ⟨q12, hF⟩ := hF
        refine v_iald rfl q12 dX12_beside_102 ?_
        refine v_iadd dX12_beside_103 ?_
        refine v_topi fun v13 ev13 => ?_
        replace hF := lb_use ev13 hF
        clear ev13
        refine v_istore (ls' := [(5, zi v13), (4, zi v11), (2, zj v10), (0, zr 12 0), (1, zi a1), (6, zi a6)]) dX12_beside_104 (by decide) rfl ?_
        obtain ⟨v14, ev14⟩ : ∃ y : Int32, y = a6 + 1 := ⟨_, rfl⟩
        replace hF := lb_use ev14 hF
        refine v_iinc (j := 5) (v := v14) (ls' := [(6, zi v14), (5, zi v13), (4, zi v11), (2, zj v10), (0, zr 12 0), (1, zi a1)]) dX12_beside_106 rfl (by rw [ev14]; rfl) (by decide) rfl ?_
        clear ev14
        refine v_goto (tgt := 46) dX12_beside_109 (by decide) ?_
        refine v_sub [4, 5, 3, 2, 1, 0] rfl ?_
        exact ih a1 v10 v11 v13 v14 h _ hF k
      · replace hF := brT (Decidable.not_not.mp q) hF
        refine v_goto (tgt := 106) dX12_beside_66 (by decide) ?_
        obtain ⟨v15, ev15⟩ : ∃ y : Int32, y = a6 + 1 := ⟨_, rfl⟩
        replace hF := lb_use ev15 hF
        refine v_iinc (j := 5) (v := v15) (ls' := [(6, zi v15), (0, zr 12 0), (1, zi a1), (2, zj a2), (4, zi a4), (5, zi a5)]) dX12_beside_106 rfl (by rw [ev15]; rfl) (by decide) rfl ?_
        clear ev15
        refine v_goto (tgt := 46) dX12_beside_109 (by decide) ?_
        refine v_sub [1, 2, 3, 4, 5, 0] rfl ?_
        exact ih a1 a2 a4 a5 v15 h _ hF k
set_option maxRecDepth 20000 in
theorem tX12_beside {X : Cz} {a1 : Int32} {h hE : Hp} {rE : Int64} (hF : fX12_beside a1 h = some (rE, hE)) : Ct X mX12_beside true [zr 12 0, zi a1] h (some (zj rE)) hE := by
  refine Ct_of (by decide) (Nat.le_of_ble_eq_true rfl) (ls := [(0, zr 12 0), (1, zi a1)]) rfl ?_
  unfold fX12_beside at hF
  refine v_aload_n (j := 0) dX12_beside_0 rfl ?_
  refine v_iconst (v := 0) dX12_beside_1 (by decide) ?_
  refine v_putI (c := 12) rfl rfl (Nat.le_of_ble_eq_true rfl) cz12 flX12_208 dX12_beside_2 ?_
  refine v_toph fun h1 eh1 => ?_
  replace hF := lb_use eh1 hF
  clear eh1
  refine v_iload_n (j := 1) dX12_beside_5 rfl ?_
  refine v_i2l dX12_beside_6 ?_
  refine v_lconst (v := 0) dX12_beside_7 (by decide) ?_
  refine v_ldc2 dX12_beside_8 kcX12_239 ?_
  refine v_cS (hm := h1) (av := [zj a1.toInt64, zj 0, zj 5]) (st := []) (stn := [zi (fX12_in a1.toInt64 0 5 h1)]) (tX12_in a1.toInt64 0 5 h1) lcX12_in mlX12_213 sxX12_in rfl ⟨by decide, by decide⟩ (Nat.le_of_ble_eq_true rfl) dX12_beside_11 rfl rfl ?_
  refine v_if_ne dX12_beside_14 (by decide : _ = ((21 : Nat) : Int)) (fun q => ?_) (fun q => ?_)
  · replace hF := brF q hF
    refine v_aload_n (j := 0) dX12_beside_21 rfl ?_
    refine v_iload_n (j := 1) dX12_beside_22 rfl ?_
    refine v_iconst (v := 2) dX12_beside_23 (by decide) ?_
    replace hF := lb_ex hF
    obtain ⟨j2, ej2, hF⟩ := hF
    have j2V : ∀ (x3 : Int32) (h4 : Hp), j2 x3 h4 = some (rE, hE) → V X mX12_beside true h 32 [(0, zr 12 0), (1, zi a1)] [zi x3, zr 12 0] h4 (some (zj rE)) hE := by
      intro x3 h4 hF
      subst ej2
      replace hF := bd_use hF
      obtain ⟨r5, h6, er5, hF⟩ := hF
      refine v_cV (hm := h6) (av := [zi x3]) (st := []) (stn := []) (tX12_seats er5) lcX12_seats mlX12_411 imX12_seats seX12_seats rfl rfl rfl rfl ⟨by decide, by decide⟩ (Nat.le_of_ble_eq_true rfl) dX12_beside_32 rfl rfl ?_
      clear er5
      refine v_lconst (v := 0) dX12_beside_35 (by decide) ?_
      refine v_lstore_n (ls' := [(2, zj 0), (0, zr 12 0), (1, zi a1)]) dX12_beside_36 (by decide) rfl ?_
      refine v_iconst (v := 0) dX12_beside_37 (by decide) ?_
      refine v_istore (ls' := [(4, zi 0), (2, zj 0), (0, zr 12 0), (1, zi a1)]) dX12_beside_38 (by decide) rfl ?_
      refine v_iconst (v := 0) dX12_beside_40 (by decide) ?_
      refine v_istore (ls' := [(5, zi 0), (4, zi 0), (2, zj 0), (0, zr 12 0), (1, zi a1)]) dX12_beside_41 (by decide) rfl ?_
      refine v_iconst (v := 0) dX12_beside_43 (by decide) ?_
      refine v_istore (ls' := [(6, zi 0), (5, zi 0), (4, zi 0), (2, zj 0), (0, zr 12 0), (1, zi a1)]) dX12_beside_44 (by decide) rfl ?_
      refine v_sub [4, 5, 3, 2, 1, 0] rfl ?_
      replace hF := bd_use hF
      obtain ⟨t17, h16, et17, hF⟩ := hF
      refine tX12_beside_L46 _ a1 0 0 0 0 h6 _ et17 ?_
      clear et17
      obtain ⟨v18, v19, v20, v21⟩ := t17
      replace hF := lb_use (x := v18) rfl hF
      replace hF := lb_use (x := v19) rfl hF
      replace hF := lb_use (x := v20) rfl hF
      replace hF := lb_use (x := v21) rfl hF
      refine v_iload_n (j := 1) dX12_beside_112 rfl ?_
      refine v_iconst (v := 3) dX12_beside_113 (by decide) ?_
      refine v_irem dX12_beside_114 (by decide) ?_
      refine v_if_ne dX12_beside_115 (by decide : _ = ((122 : Nat) : Int)) (fun q => ?_) (fun q => ?_)
      · replace hF := brF q hF
        refine v_iload_n (j := 1) dX12_beside_122 rfl ?_
        refine v_iconst (v := 3) dX12_beside_123 (by decide) ?_
        refine v_irem dX12_beside_124 (by decide) ?_
        refine v_iconst (v := 1) dX12_beside_125 (by decide) ?_
        refine v_icmp_ne dX12_beside_126 (by decide : _ = ((135 : Nat) : Int)) (fun q => ?_) (fun q => ?_)
        · replace hF := brF q hF
          refine v_iload (j := 4) dX12_beside_135 rfl ?_
          refine v_i2l dX12_beside_137 ?_
          obtain ⟨rfl, rfl⟩ := ret_use hF
          exact v_lret rfl dX12_beside_138
        · replace hF := brT (Decidable.not_not.mp q) hF
          refine v_iload (j := 3) dX12_beside_129 rfl ?_
          refine v_i2l dX12_beside_131 ?_
          refine v_goto (tgt := 138) dX12_beside_132 (by decide) ?_
          obtain ⟨rfl, rfl⟩ := ret_use hF
          exact v_lret rfl dX12_beside_138
      · replace hF := brT (Decidable.not_not.mp q) hF
        refine v_lload_n (j := 2) dX12_beside_118 rfl ?_
        refine v_goto (tgt := 138) dX12_beside_119 (by decide) ?_
        obtain ⟨rfl, rfl⟩ := ret_use hF
        exact v_lret rfl dX12_beside_138
    clear ej2
    refine v_icmp_le dX12_beside_24 (by decide : _ = ((31 : Nat) : Int)) (fun q => ?_) (fun q => ?_)
    · replace hF := brT q hF
      refine v_iconst (v := 0) dX12_beside_31 (by decide) ?_
      exact j2V 0 h1 hF
    · replace hF := brF q hF
      refine v_iconst (v := 1) dX12_beside_27 (by decide) ?_
      refine v_goto (tgt := 32) dX12_beside_28 (by decide) ?_
      exact j2V 1 h1 hF
  · replace hF := brT (Decidable.not_not.mp q) hF
    refine v_ldc2 dX12_beside_17 kcX12_392 ?_
    obtain ⟨rfl, rfl⟩ := ret_use hF
    exact v_lret rfl dX12_beside_20
theorem dX12_likes_0 : decode cX12_likes 0 = .ok (.sipush 200, 3) := by decide +kernel
theorem dX12_likes_3 : decode cX12_likes 3 = .ok (.iload_n 2, 1) := by decide +kernel
theorem dX12_likes_4 : decode cX12_likes 4 = .ok (.imul, 1) := by decide +kernel
theorem dX12_likes_5 : decode cX12_likes 5 = .ok (.aload_n 0, 1) := by decide +kernel
theorem dX12_likes_6 : decode cX12_likes 6 = .ok (.getfield 251, 3) := by decide +kernel
theorem dX12_likes_9 : decode cX12_likes 9 = .ok (.iadd, 1) := by decide +kernel
theorem dX12_likes_10 : decode cX12_likes 10 = .ok (.iconst 1, 1) := by decide +kernel
theorem dX12_likes_11 : decode cX12_likes 11 = .ok (.isub, 1) := by decide +kernel
theorem dX12_likes_12 : decode cX12_likes 12 = .ok (.istore_n 3, 1) := by decide +kernel
theorem dX12_likes_13 : decode cX12_likes 13 = .ok (.aload_n 0, 1) := by decide +kernel
theorem dX12_likes_14 : decode cX12_likes 14 = .ok (.getfield 136, 3) := by decide +kernel
theorem dX12_likes_17 : decode cX12_likes 17 = .ok (.iload_n 3, 1) := by decide +kernel
theorem dX12_likes_18 : decode cX12_likes 18 = .ok (.iaload, 1) := by decide +kernel
theorem dX12_likes_19 : decode cX12_likes 19 = .ok (.aload_n 0, 1) := by decide +kernel
theorem dX12_likes_20 : decode cX12_likes 20 = .ok (.getfield 64, 3) := by decide +kernel
theorem dX12_likes_23 : decode cX12_likes 23 = .ok (.iload_n 1, 1) := by decide +kernel
theorem dX12_likes_24 : decode cX12_likes 24 = .ok (.iaload, 1) := by decide +kernel
theorem dX12_likes_25 : decode cX12_likes 25 = .ok (.if_icmp .ge 7, 3) := by decide +kernel
theorem dX12_likes_28 : decode cX12_likes 28 = .ok (.iconst (-1), 1) := by decide +kernel
theorem dX12_likes_29 : decode cX12_likes 29 = .ok (.goto 31, 3) := by decide +kernel
theorem dX12_likes_32 : decode cX12_likes 32 = .ok (.aload_n 0, 1) := by decide +kernel
theorem dX12_likes_33 : decode cX12_likes 33 = .ok (.aload_n 0, 1) := by decide +kernel
theorem dX12_likes_34 : decode cX12_likes 34 = .ok (.getfield 130, 3) := by decide +kernel
theorem dX12_likes_37 : decode cX12_likes 37 = .ok (.iload_n 3, 1) := by decide +kernel
theorem dX12_likes_38 : decode cX12_likes 38 = .ok (.iaload, 1) := by decide +kernel
theorem dX12_likes_39 : decode cX12_likes 39 = .ok (.aload_n 0, 1) := by decide +kernel
theorem dX12_likes_40 : decode cX12_likes 40 = .ok (.getfield 133, 3) := by decide +kernel
theorem dX12_likes_43 : decode cX12_likes 43 = .ok (.iload_n 3, 1) := by decide +kernel
theorem dX12_likes_44 : decode cX12_likes 44 = .ok (.iaload, 1) := by decide +kernel
theorem dX12_likes_45 : decode cX12_likes 45 = .ok (.aload_n 0, 1) := by decide +kernel
theorem dX12_likes_46 : decode cX12_likes 46 = .ok (.getfield 64, 3) := by decide +kernel
theorem dX12_likes_49 : decode cX12_likes 49 = .ok (.iload_n 1, 1) := by decide +kernel
theorem dX12_likes_50 : decode cX12_likes 50 = .ok (.iaload, 1) := by decide +kernel
theorem dX12_likes_51 : decode cX12_likes 51 = .ok (.aload_n 0, 1) := by decide +kernel
theorem dX12_likes_52 : decode cX12_likes 52 = .ok (.getfield 67, 3) := by decide +kernel
theorem dX12_likes_55 : decode cX12_likes 55 = .ok (.iload_n 1, 1) := by decide +kernel
theorem dX12_likes_56 : decode cX12_likes 56 = .ok (.iaload, 1) := by decide +kernel
theorem dX12_likes_57 : decode cX12_likes 57 = .ok (.invokevirtual 313, 3) := by decide +kernel
theorem dX12_likes_60 : decode cX12_likes 60 = .ok (.ireturn, 1) := by decide +kernel
def fX12_likes (a1 : Int32) (a2 : Int32) (h : Hp) : Option (Int32 × Hp) := lb ((((200 : Int32) * a2) + (gI h 12 0 5)) - 1) (fun v1 => gd (ib v1 2400) (gd (ib a1 12) (br ((gI h 66 0 (ix a1)) ≤ (gI h 90 0 (ix v1))) (gd (ib v1 2400) (gd (ib v1 2400) (gd (ib a1 12) (gd (ib a1 12) (bd (fX12_worthOf (gI h 88 0 (ix v1)) (gI h 89 0 (ix v1)) (gI h 66 0 (ix a1)) (gI h 67 0 (ix a1)) h) (fun r8 h9 => some (r8, h9))))))) (some ((-1), h)))))
set_option maxRecDepth 20000 in
theorem tX12_likes {X : Cz} {a1 : Int32} {a2 : Int32} {h hE : Hp} {rE : Int32} (hF : fX12_likes a1 a2 h = some (rE, hE)) : Ct X mX12_likes true [zr 12 0, zi a1, zi a2] h (some (zi rE)) hE := by
  refine Ct_of (by decide) (Nat.le_of_ble_eq_true rfl) (ls := [(0, zr 12 0), (1, zi a1), (2, zi a2)]) rfl ?_
  unfold fX12_likes at hF
  refine v_sipush (v := 200) dX12_likes_0 (by decide) ?_
  refine v_iload_n (j := 2) dX12_likes_3 rfl ?_
  refine v_imul dX12_likes_4 ?_
  refine v_aload_n (j := 0) dX12_likes_5 rfl ?_
  refine v_getI (c := 12) rfl (Or.inl rfl) cz12 flX12_251 dX12_likes_6 ?_
  refine v_iadd dX12_likes_9 ?_
  refine v_iconst (v := 1) dX12_likes_10 (by decide) ?_
  refine v_isub dX12_likes_11 ?_
  refine v_topi fun v1 ev1 => ?_
  replace hF := lb_use ev1 hF
  clear ev1
  refine v_istore_n (ls' := [(3, zi v1), (0, zr 12 0), (1, zi a1), (2, zi a2)]) dX12_likes_12 (by decide) rfl ?_
  refine v_aload_n (j := 1) dX12_likes_13 rfl ?_
  refine v_getL (c := 12) rfl rfl rfl ly12_50 cz12 flX12_136 dX12_likes_14 ?_
  refine v_iload_n (j := 0) dX12_likes_17 rfl ?_
  replace hF := gd_use hF
  obtain ⟨q2, hF⟩ := hF
  refine v_iald rfl q2 dX12_likes_18 ?_
  refine v_aload_n (j := 1) dX12_likes_19 rfl ?_
  refine v_getL (c := 12) rfl rfl rfl ly12_26 cz12 flX12_64 dX12_likes_20 ?_
  refine v_iload_n (j := 2) dX12_likes_23 rfl ?_
  replace hF := gd_use hF
  obtain ⟨q3, hF⟩ := hF
  refine v_iald rfl q3 dX12_likes_24 ?_
  refine v_icmp_ge dX12_likes_25 (by decide : _ = ((32 : Nat) : Int)) (fun q => ?_) (fun q => ?_)
  · replace hF := brT q hF
    refine v_aload_n (j := 1) dX12_likes_32 rfl ?_
    refine v_aload_n (j := 1) dX12_likes_33 rfl ?_
    refine v_getL (c := 12) rfl rfl rfl ly12_48 cz12 flX12_130 dX12_likes_34 ?_
    refine v_iload_n (j := 0) dX12_likes_37 rfl ?_
    replace hF := gd_use hF
    obtain ⟨q4, hF⟩ := hF
    refine v_iald rfl q4 dX12_likes_38 ?_
    refine v_aload_n (j := 1) dX12_likes_39 rfl ?_
    refine v_getL (c := 12) rfl rfl rfl ly12_49 cz12 flX12_133 dX12_likes_40 ?_
    refine v_iload_n (j := 0) dX12_likes_43 rfl ?_
    replace hF := gd_use hF
    obtain ⟨q5, hF⟩ := hF
    refine v_iald rfl q5 dX12_likes_44 ?_
    refine v_aload_n (j := 1) dX12_likes_45 rfl ?_
    refine v_getL (c := 12) rfl rfl rfl ly12_26 cz12 flX12_64 dX12_likes_46 ?_
    refine v_iload_n (j := 2) dX12_likes_49 rfl ?_
    replace hF := gd_use hF
    obtain ⟨q6, hF⟩ := hF
    refine v_iald rfl q6 dX12_likes_50 ?_
    refine v_aload_n (j := 1) dX12_likes_51 rfl ?_
    refine v_getL (c := 12) rfl rfl rfl ly12_27 cz12 flX12_67 dX12_likes_52 ?_
    refine v_iload_n (j := 2) dX12_likes_55 rfl ?_
    replace hF := gd_use hF
    obtain ⟨q7, hF⟩ := hF
    refine v_iald rfl q7 dX12_likes_56 ?_
    replace hF := bd_use hF
    obtain ⟨r8, h9, er8, hF⟩ := hF
    refine v_cV (hm := h9) (av := [zi (gI h 88 0 (ix v1)), zi (gI h 89 0 (ix v1)), zi (gI h 66 0 (ix a1)), zi (gI h 67 0 (ix a1))]) (st := []) (stn := [zi r8]) (tX12_worthOf er8) lcX12_worthOf mlX12_313 imX12_worthOf seX12_worthOf rfl rfl rfl rfl ⟨by decide, by decide⟩ (Nat.le_of_ble_eq_true rfl) dX12_likes_57 rfl rfl ?_
    clear er8
    obtain ⟨rfl, rfl⟩ := ret_use hF
    exact v_iret rfl dX12_likes_60
  · replace hF := brF q hF
    refine v_iconst (v := (-1)) dX12_likes_28 (by decide) ?_
    refine v_goto (tgt := 60) dX12_likes_29 (by decide) ?_
    obtain ⟨rfl, rfl⟩ := ret_use hF
    exact v_iret rfl dX12_likes_60
theorem dX12_looks_0 : decode cX12_looks 0 = .ok (.aload_n 0, 1) := by decide +kernel
theorem dX12_looks_1 : decode cX12_looks 1 = .ok (.getfield 190, 3) := by decide +kernel
theorem dX12_looks_4 : decode cX12_looks 4 = .ok (.iload_n 1, 1) := by decide +kernel
theorem dX12_looks_5 : decode cX12_looks 5 = .ok (.iload_n 1, 1) := by decide +kernel
theorem dX12_looks_6 : decode cX12_looks 6 = .ok (.iastore, 1) := by decide +kernel
theorem dX12_looks_7 : decode cX12_looks 7 = .ok (.aload_n 0, 1) := by decide +kernel
theorem dX12_looks_8 : decode cX12_looks 8 = .ok (.iload_n 1, 1) := by decide +kernel
theorem dX12_looks_9 : decode cX12_looks 9 = .ok (.iload_n 1, 1) := by decide +kernel
theorem dX12_looks_10 : decode cX12_looks 10 = .ok (.invokevirtual 424, 3) := by decide +kernel
theorem dX12_looks_13 : decode cX12_looks 13 = .ok (.istore_n 2, 1) := by decide +kernel
theorem dX12_looks_14 : decode cX12_looks 14 = .ok (.iconst 0, 1) := by decide +kernel
theorem dX12_looks_15 : decode cX12_looks 15 = .ok (.istore_n 3, 1) := by decide +kernel
theorem dX12_looks_16 : decode cX12_looks 16 = .ok (.iload_n 3, 1) := by decide +kernel
theorem dX12_looks_17 : decode cX12_looks 17 = .ok (.aload_n 0, 1) := by decide +kernel
theorem dX12_looks_18 : decode cX12_looks 18 = .ok (.getfield 295, 3) := by decide +kernel
theorem dX12_looks_21 : decode cX12_looks 21 = .ok (.if_icmp .ge 50, 3) := by decide +kernel
theorem dX12_looks_24 : decode cX12_looks 24 = .ok (.aload_n 0, 1) := by decide +kernel
theorem dX12_looks_25 : decode cX12_looks 25 = .ok (.getfield 196, 3) := by decide +kernel
theorem dX12_looks_28 : decode cX12_looks 28 = .ok (.iload_n 3, 1) := by decide +kernel
theorem dX12_looks_29 : decode cX12_looks 29 = .ok (.baload, 1) := by decide +kernel
theorem dX12_looks_30 : decode cX12_looks 30 = .ok (.ifCond .eq 35, 3) := by decide +kernel
theorem dX12_looks_33 : decode cX12_looks 33 = .ok (.iload_n 3, 1) := by decide +kernel
theorem dX12_looks_34 : decode cX12_looks 34 = .ok (.iload_n 1, 1) := by decide +kernel
theorem dX12_looks_35 : decode cX12_looks 35 = .ok (.if_icmp .eq 30, 3) := by decide +kernel
theorem dX12_looks_38 : decode cX12_looks 38 = .ok (.aload_n 0, 1) := by decide +kernel
theorem dX12_looks_39 : decode cX12_looks 39 = .ok (.iload_n 1, 1) := by decide +kernel
theorem dX12_looks_40 : decode cX12_looks 40 = .ok (.iload_n 3, 1) := by decide +kernel
theorem dX12_looks_41 : decode cX12_looks 41 = .ok (.invokevirtual 424, 3) := by decide +kernel
theorem dX12_looks_44 : decode cX12_looks 44 = .ok (.iload_n 2, 1) := by decide +kernel
theorem dX12_looks_45 : decode cX12_looks 45 = .ok (.if_icmp .gt 6, 3) := by decide +kernel
theorem dX12_looks_48 : decode cX12_looks 48 = .ok (.goto 17, 3) := by decide +kernel
theorem dX12_looks_51 : decode cX12_looks 51 = .ok (.aload_n 0, 1) := by decide +kernel
theorem dX12_looks_52 : decode cX12_looks 52 = .ok (.iload_n 1, 1) := by decide +kernel
theorem dX12_looks_53 : decode cX12_looks 53 = .ok (.iload_n 3, 1) := by decide +kernel
theorem dX12_looks_54 : decode cX12_looks 54 = .ok (.invokevirtual 424, 3) := by decide +kernel
theorem dX12_looks_57 : decode cX12_looks 57 = .ok (.istore_n 2, 1) := by decide +kernel
theorem dX12_looks_58 : decode cX12_looks 58 = .ok (.aload_n 0, 1) := by decide +kernel
theorem dX12_looks_59 : decode cX12_looks 59 = .ok (.getfield 190, 3) := by decide +kernel
theorem dX12_looks_62 : decode cX12_looks 62 = .ok (.iload_n 1, 1) := by decide +kernel
theorem dX12_looks_63 : decode cX12_looks 63 = .ok (.iload_n 3, 1) := by decide +kernel
theorem dX12_looks_64 : decode cX12_looks 64 = .ok (.iastore, 1) := by decide +kernel
theorem dX12_looks_65 : decode cX12_looks 65 = .ok (.iinc 3 1, 3) := by decide +kernel
theorem dX12_looks_68 : decode cX12_looks 68 = .ok (.goto (-52), 3) := by decide +kernel
theorem dX12_looks_71 : decode cX12_looks 71 = .ok (.return_, 1) := by decide +kernel
def fX12_looks_L16 : Nat → Int32 → Int32 → Int32 → Hp → Option ((Int32 × Int32) × Hp)
  | 0, _, _, _, _ => none
  | n + 1, a1, a2, a3, h => br ((gI h 12 0 8) ≤ a3) (some ((a2, a3), h)) (gd (ib a3 12) (br ((gI h 110 0 (ix a3)) = 0) (lb (a3 + 1) (fun v6 => fX12_looks_L16 n a1 a2 v6 h)) (br (a3 = a1) (lb (a3 + 1) (fun v7 => fX12_looks_L16 n a1 a2 v7 h)) (bd (fX12_likes a1 a3 h) (fun r8 h9 => br (a2 < r8) (bd (fX12_likes a1 a3 h9) (fun r10 h11 => gd (ib a1 12) (lb (sI h11 108 0 (ix a1) a3) (fun h13 => lb (a3 + 1) (fun v14 => fX12_looks_L16 n a1 r10 v14 h13))))) (lb (a3 + 1) (fun v15 => fX12_looks_L16 n a1 a2 v15 h9)))))))
def fX12_looks (a1 : Int32) (h : Hp) : Option (Unit × Hp) := gd (ib a1 12) (lb (sI h 108 0 (ix a1) a1) (fun h2 => bd (fX12_likes a1 a1 h2) (fun r3 h4 => bd (fX12_looks_L16 FU a1 r3 0 h4) (fun t17 h16 => lb t17.1 (fun v18 => lb t17.2 (fun v19 => some ((), h16)))))))
set_option maxRecDepth 20000 in
theorem tX12_looks_L16 {X : Cz} {h0 : Hp} {r : Option AV} {hE : Hp} : ∀ (n : Nat) (a1 : Int32) (a2 : Int32) (a3 : Int32) (h : Hp) (z : (Int32 × Int32) × Hp), fX12_looks_L16 n a1 a2 a3 h = some z → V X mX12_looks true h0 71 [(0, zr 12 0), (1, zi a1), (2, zi z.1.1), (3, zi z.1.2)] [] z.2 r hE → V X mX12_looks true h0 16 [(0, zr 12 0), (1, zi a1), (2, zi a2), (3, zi a3)] [] h r hE := by
  intro n
  induction n with
  | zero => intro a1 a2 a3 h z hF k; cases hF
  | succ n ih =>
    intro a1 a2 a3 h z hF k
    rw [fX12_looks_L16] at hF
    refine v_iload_n (j := 3) dX12_looks_16 rfl ?_
    refine v_aload_n (j := 0) dX12_looks_17 rfl ?_
    refine v_getI (c := 12) rfl (Or.inl rfl) cz12 flX12_295 dX12_looks_18 ?_
    refine v_icmp_ge dX12_looks_21 (by decide : _ = ((71 : Nat) : Int)) (fun q => ?_) (fun q => ?_)
    · replace hF := brT q hF
      cases hF
      exact k
    · replace hF := brF q hF
      refine v_aload_n (j := 0) dX12_looks_24 rfl ?_
      refine v_getL (c := 12) rfl rfl rfl ly12_73 cz12 flX12_196 dX12_looks_25 ?_
      refine v_iload_n (j := 3) dX12_looks_28 rfl ?_
      replace hF := gd_use hF
      obtain ⟨q5, hF⟩ := hF
      refine v_zald rfl q5 dX12_looks_29 ?_
      refine v_if_eq dX12_looks_30 (by decide : _ = ((65 : Nat) : Int)) (fun q => ?_) (fun q => ?_)
      · replace hF := brT q hF
        obtain ⟨v6, ev6⟩ : ∃ y : Int32, y = a3 + 1 := ⟨_, rfl⟩
        replace hF := lb_use ev6 hF
        refine v_iinc (j := 3) (v := v6) (ls' := [(3, zi v6), (0, zr 12 0), (1, zi a1), (2, zi a2)]) dX12_looks_65 rfl (by rw [ev6]; rfl) (by decide) rfl ?_
        clear ev6
        refine v_goto (tgt := 16) dX12_looks_68 (by decide) ?_
        refine v_sub [1, 2, 3, 0] rfl ?_
        exact ih a1 a2 v6 h _ hF k
      · replace hF := brF q hF
        refine v_iload_n (j := 3) dX12_looks_33 rfl ?_
        refine v_iload_n (j := 1) dX12_looks_34 rfl ?_
        refine v_icmp_eq dX12_looks_35 (by decide : _ = ((65 : Nat) : Int)) (fun q => ?_) (fun q => ?_)
        · replace hF := brT q hF
          obtain ⟨v7, ev7⟩ : ∃ y : Int32, y = a3 + 1 := ⟨_, rfl⟩
          replace hF := lb_use ev7 hF
          refine v_iinc (j := 3) (v := v7) (ls' := [(3, zi v7), (0, zr 12 0), (1, zi a1), (2, zi a2)]) dX12_looks_65 rfl (by rw [ev7]; rfl) (by decide) rfl ?_
          clear ev7
          refine v_goto (tgt := 16) dX12_looks_68 (by decide) ?_
          refine v_sub [1, 2, 3, 0] rfl ?_
          exact ih a1 a2 v7 h _ hF k
        · replace hF := brF q hF
          refine v_aload_n (j := 0) dX12_looks_38 rfl ?_
          refine v_iload_n (j := 1) dX12_looks_39 rfl ?_
          refine v_iload_n (j := 3) dX12_looks_40 rfl ?_
          replace hF := bd_use hF
          obtain ⟨r8, h9, er8, hF⟩ := hF
          refine v_cV (hm := h9) (av := [zi a1, zi a3]) (st := []) (stn := [zi r8]) (tX12_likes er8) lcX12_likes mlX12_424 imX12_likes seX12_likes rfl rfl rfl rfl ⟨by decide, by decide⟩ (Nat.le_of_ble_eq_true rfl) dX12_looks_41 rfl rfl ?_
          clear er8
          refine v_iload_n (j := 2) dX12_looks_44 rfl ?_
          refine v_icmp_gt dX12_looks_45 (by decide : _ = ((51 : Nat) : Int)) (fun q => ?_) (fun q => ?_)
          · replace hF := brT q hF
            refine v_aload_n (j := 0) dX12_looks_51 rfl ?_
            refine v_iload_n (j := 1) dX12_looks_52 rfl ?_
            refine v_iload_n (j := 3) dX12_looks_53 rfl ?_
            replace hF := bd_use hF
            obtain ⟨r10, h11, er10, hF⟩ := hF
            refine v_cV (hm := h11) (av := [zi a1, zi a3]) (st := []) (stn := [zi r10]) (tX12_likes er10) lcX12_likes mlX12_424 imX12_likes seX12_likes rfl rfl rfl rfl ⟨by decide, by decide⟩ (Nat.le_of_ble_eq_true rfl) dX12_looks_54 rfl rfl ?_
            clear er10
            refine v_istore_n (ls' := [(2, zi r10), (0, zr 12 0), (1, zi a1), (3, zi a3)]) dX12_looks_57 (by decide) rfl ?_
            refine v_aload_n (j := 1) dX12_looks_58 rfl ?_
            refine v_getL (c := 12) rfl rfl rfl ly12_71 cz12 flX12_190 dX12_looks_59 ?_
            refine v_iload_n (j := 2) dX12_looks_62 rfl ?_
            refine v_iload_n (j := 3) dX12_looks_63 rfl ?_
            replace hF := gd_use hF
            obtain ⟨q12, hF⟩ := hF
            refine v_iast rfl q12 dX12_looks_64 ?_
            refine v_toph fun h13 eh13 => ?_
            replace hF := lb_use eh13 hF
            clear eh13
            obtain ⟨v14, ev14⟩ : ∃ y : Int32, y = a3 + 1 := ⟨_, rfl⟩
            replace hF := lb_use ev14 hF
            refine v_iinc (j := 3) (v := v14) (ls' := [(3, zi v14), (2, zi r10), (0, zr 12 0), (1, zi a1)]) dX12_looks_65 rfl (by rw [ev14]; rfl) (by decide) rfl ?_
            clear ev14
            refine v_goto (tgt := 16) dX12_looks_68 (by decide) ?_
            refine v_sub [2, 3, 1, 0] rfl ?_
            exact ih a1 r10 v14 h13 _ hF k
          · replace hF := brF q hF
            refine v_goto (tgt := 65) dX12_looks_48 (by decide) ?_
            obtain ⟨v15, ev15⟩ : ∃ y : Int32, y = a3 + 1 := ⟨_, rfl⟩
            replace hF := lb_use ev15 hF
            refine v_iinc (j := 3) (v := v15) (ls' := [(3, zi v15), (0, zr 12 0), (1, zi a1), (2, zi a2)]) dX12_looks_65 rfl (by rw [ev15]; rfl) (by decide) rfl ?_
            clear ev15
            refine v_goto (tgt := 16) dX12_looks_68 (by decide) ?_
            refine v_sub [1, 2, 3, 0] rfl ?_
            exact ih a1 a2 v15 h9 _ hF k
set_option maxRecDepth 20000 in
theorem tX12_looks {X : Cz} {a1 : Int32} {h hE : Hp} {rE : Unit} (hF : fX12_looks a1 h = some (rE, hE)) : Ct X mX12_looks true [zr 12 0, zi a1] h (none) hE := by
  refine Ct_of (by decide) (Nat.le_of_ble_eq_true rfl) (ls := [(0, zr 12 0), (1, zi a1)]) rfl ?_
  unfold fX12_looks at hF
  refine v_aload_n (j := 0) dX12_looks_0 rfl ?_
  refine v_getL (c := 12) rfl rfl rfl ly12_71 cz12 flX12_190 dX12_looks_1 ?_
  refine v_iload_n (j := 1) dX12_looks_4 rfl ?_
  refine v_iload_n (j := 1) dX12_looks_5 rfl ?_
  replace hF := gd_use hF
  obtain ⟨q1, hF⟩ := hF
  refine v_iast rfl q1 dX12_looks_6 ?_
  refine v_toph fun h2 eh2 => ?_
  replace hF := lb_use eh2 hF
  clear eh2
  refine v_aload_n (j := 0) dX12_looks_7 rfl ?_
  refine v_iload_n (j := 1) dX12_looks_8 rfl ?_
  refine v_iload_n (j := 1) dX12_looks_9 rfl ?_
  replace hF := bd_use hF
  obtain ⟨r3, h4, er3, hF⟩ := hF
  refine v_cV (hm := h4) (av := [zi a1, zi a1]) (st := []) (stn := [zi r3]) (tX12_likes er3) lcX12_likes mlX12_424 imX12_likes seX12_likes rfl rfl rfl rfl ⟨by decide, by decide⟩ (Nat.le_of_ble_eq_true rfl) dX12_looks_10 rfl rfl ?_
  clear er3
  refine v_istore_n (ls' := [(2, zi r3), (0, zr 12 0), (1, zi a1)]) dX12_looks_13 (by decide) rfl ?_
  refine v_iconst (v := 0) dX12_looks_14 (by decide) ?_
  refine v_istore_n (ls' := [(3, zi 0), (2, zi r3), (0, zr 12 0), (1, zi a1)]) dX12_looks_15 (by decide) rfl ?_
  refine v_sub [2, 3, 1, 0] rfl ?_
  replace hF := bd_use hF
  obtain ⟨t17, h16, et17, hF⟩ := hF
  refine tX12_looks_L16 _ a1 r3 0 h4 _ et17 ?_
  clear et17
  obtain ⟨v18, v19⟩ := t17
  replace hF := lb_use (x := v18) rfl hF
  replace hF := lb_use (x := v19) rfl hF
  cases hF
  exact v_vret rfl dX12_looks_71
theorem dX12_comesBack_0 : decode cX12_comesBack 0 = .ok (.aload_n 0, 1) := by decide +kernel
theorem dX12_comesBack_1 : decode cX12_comesBack 1 = .ok (.getfield 190, 3) := by decide +kernel
theorem dX12_comesBack_4 : decode cX12_comesBack 4 = .ok (.iload_n 1, 1) := by decide +kernel
theorem dX12_comesBack_5 : decode cX12_comesBack 5 = .ok (.iaload, 1) := by decide +kernel
theorem dX12_comesBack_6 : decode cX12_comesBack 6 = .ok (.istore_n 2, 1) := by decide +kernel
theorem dX12_comesBack_7 : decode cX12_comesBack 7 = .ok (.iconst 0, 1) := by decide +kernel
theorem dX12_comesBack_8 : decode cX12_comesBack 8 = .ok (.istore_n 3, 1) := by decide +kernel
theorem dX12_comesBack_9 : decode cX12_comesBack 9 = .ok (.iload_n 3, 1) := by decide +kernel
theorem dX12_comesBack_10 : decode cX12_comesBack 10 = .ok (.bipush 12, 2) := by decide +kernel
theorem dX12_comesBack_12 : decode cX12_comesBack 12 = .ok (.if_icmp .ge 21, 3) := by decide +kernel
theorem dX12_comesBack_15 : decode cX12_comesBack 15 = .ok (.iload_n 2, 1) := by decide +kernel
theorem dX12_comesBack_16 : decode cX12_comesBack 16 = .ok (.iload_n 1, 1) := by decide +kernel
theorem dX12_comesBack_17 : decode cX12_comesBack 17 = .ok (.if_icmp .eq 16, 3) := by decide +kernel
theorem dX12_comesBack_20 : decode cX12_comesBack 20 = .ok (.aload_n 0, 1) := by decide +kernel
theorem dX12_comesBack_21 : decode cX12_comesBack 21 = .ok (.getfield 190, 3) := by decide +kernel
theorem dX12_comesBack_24 : decode cX12_comesBack 24 = .ok (.iload_n 2, 1) := by decide +kernel
theorem dX12_comesBack_25 : decode cX12_comesBack 25 = .ok (.iaload, 1) := by decide +kernel
theorem dX12_comesBack_26 : decode cX12_comesBack 26 = .ok (.istore_n 2, 1) := by decide +kernel
theorem dX12_comesBack_27 : decode cX12_comesBack 27 = .ok (.iinc 3 1, 3) := by decide +kernel
theorem dX12_comesBack_30 : decode cX12_comesBack 30 = .ok (.goto (-21), 3) := by decide +kernel
theorem dX12_comesBack_33 : decode cX12_comesBack 33 = .ok (.iload_n 2, 1) := by decide +kernel
theorem dX12_comesBack_34 : decode cX12_comesBack 34 = .ok (.iload_n 1, 1) := by decide +kernel
theorem dX12_comesBack_35 : decode cX12_comesBack 35 = .ok (.if_icmp .ne 7, 3) := by decide +kernel
theorem dX12_comesBack_38 : decode cX12_comesBack 38 = .ok (.iconst 1, 1) := by decide +kernel
theorem dX12_comesBack_39 : decode cX12_comesBack 39 = .ok (.goto 4, 3) := by decide +kernel
theorem dX12_comesBack_42 : decode cX12_comesBack 42 = .ok (.iconst 0, 1) := by decide +kernel
theorem dX12_comesBack_43 : decode cX12_comesBack 43 = .ok (.ireturn, 1) := by decide +kernel
def fX12_comesBack_L9 : Nat → Int32 → Int32 → Int32 → Hp → Option ((Int32 × Int32) × Hp)
  | 0, _, _, _, _ => none
  | n + 1, a1, a2, a3, h => br (12 ≤ a3) (some ((a2, a3), h)) (br (a2 = a1) (some ((a2, a3), h)) (gd (ib a2 12) (lb (gI h 108 0 (ix a2)) (fun v4 => lb (a3 + 1) (fun v5 => fX12_comesBack_L9 n a1 v4 v5 h)))))
def fX12_comesBack (a1 : Int32) (h : Hp) : Option (Int32 × Hp) := gd (ib a1 12) (lb (gI h 108 0 (ix a1)) (fun v2 => bd (fX12_comesBack_L9 FU a1 v2 0 h) (fun t7 h6 => lb t7.1 (fun v8 => lb t7.2 (fun v9 => br (v8 = a1) (some (1, h6)) (some (0, h6)))))))
set_option maxRecDepth 20000 in
theorem tX12_comesBack_L9 {X : Cz} {h0 : Hp} {r : Option AV} {hE : Hp} : ∀ (n : Nat) (a1 : Int32) (a2 : Int32) (a3 : Int32) (h : Hp) (z : (Int32 × Int32) × Hp), fX12_comesBack_L9 n a1 a2 a3 h = some z → V X mX12_comesBack true h0 33 [(0, zr 12 0), (1, zi a1), (2, zi z.1.1), (3, zi z.1.2)] [] z.2 r hE → V X mX12_comesBack true h0 9 [(0, zr 12 0), (1, zi a1), (2, zi a2), (3, zi a3)] [] h r hE := by
  intro n
  induction n with
  | zero => intro a1 a2 a3 h z hF k; cases hF
  | succ n ih =>
    intro a1 a2 a3 h z hF k
    rw [fX12_comesBack_L9] at hF
    refine v_iload_n (j := 3) dX12_comesBack_9 rfl ?_
    refine v_bipush (v := 12) dX12_comesBack_10 (by decide) ?_
    refine v_icmp_ge dX12_comesBack_12 (by decide : _ = ((33 : Nat) : Int)) (fun q => ?_) (fun q => ?_)
    · replace hF := brT q hF
      cases hF
      exact k
    · replace hF := brF q hF
      refine v_iload_n (j := 2) dX12_comesBack_15 rfl ?_
      refine v_iload_n (j := 1) dX12_comesBack_16 rfl ?_
      refine v_icmp_eq dX12_comesBack_17 (by decide : _ = ((33 : Nat) : Int)) (fun q => ?_) (fun q => ?_)
      · replace hF := brT q hF
        cases hF
        exact k
      · replace hF := brF q hF
        refine v_aload_n (j := 0) dX12_comesBack_20 rfl ?_
        refine v_getL (c := 12) rfl rfl rfl ly12_71 cz12 flX12_190 dX12_comesBack_21 ?_
        refine v_iload_n (j := 2) dX12_comesBack_24 rfl ?_
        replace hF := gd_use hF
        obtain ⟨q3, hF⟩ := hF
        refine v_iald rfl q3 dX12_comesBack_25 ?_
        refine v_topi fun v4 ev4 => ?_
        replace hF := lb_use ev4 hF
        clear ev4
        refine v_istore_n (ls' := [(2, zi v4), (0, zr 12 0), (1, zi a1), (3, zi a3)]) dX12_comesBack_26 (by decide) rfl ?_
        obtain ⟨v5, ev5⟩ : ∃ y : Int32, y = a3 + 1 := ⟨_, rfl⟩
        replace hF := lb_use ev5 hF
        refine v_iinc (j := 3) (v := v5) (ls' := [(3, zi v5), (2, zi v4), (0, zr 12 0), (1, zi a1)]) dX12_comesBack_27 rfl (by rw [ev5]; rfl) (by decide) rfl ?_
        clear ev5
        refine v_goto (tgt := 9) dX12_comesBack_30 (by decide) ?_
        refine v_sub [2, 3, 1, 0] rfl ?_
        exact ih a1 v4 v5 h _ hF k
set_option maxRecDepth 20000 in
theorem tX12_comesBack {X : Cz} {a1 : Int32} {h hE : Hp} {rE : Int32} (hF : fX12_comesBack a1 h = some (rE, hE)) : Ct X mX12_comesBack true [zr 12 0, zi a1] h (some (zi rE)) hE := by
  refine Ct_of (by decide) (Nat.le_of_ble_eq_true rfl) (ls := [(0, zr 12 0), (1, zi a1)]) rfl ?_
  unfold fX12_comesBack at hF
  refine v_aload_n (j := 0) dX12_comesBack_0 rfl ?_
  refine v_getL (c := 12) rfl rfl rfl ly12_71 cz12 flX12_190 dX12_comesBack_1 ?_
  refine v_iload_n (j := 1) dX12_comesBack_4 rfl ?_
  replace hF := gd_use hF
  obtain ⟨q1, hF⟩ := hF
  refine v_iald rfl q1 dX12_comesBack_5 ?_
  refine v_topi fun v2 ev2 => ?_
  replace hF := lb_use ev2 hF
  clear ev2
  refine v_istore_n (ls' := [(2, zi v2), (0, zr 12 0), (1, zi a1)]) dX12_comesBack_6 (by decide) rfl ?_
  refine v_iconst (v := 0) dX12_comesBack_7 (by decide) ?_
  refine v_istore_n (ls' := [(3, zi 0), (2, zi v2), (0, zr 12 0), (1, zi a1)]) dX12_comesBack_8 (by decide) rfl ?_
  refine v_sub [2, 3, 1, 0] rfl ?_
  replace hF := bd_use hF
  obtain ⟨t7, h6, et7, hF⟩ := hF
  refine tX12_comesBack_L9 _ a1 v2 0 h _ et7 ?_
  clear et7
  obtain ⟨v8, v9⟩ := t7
  replace hF := lb_use (x := v8) rfl hF
  replace hF := lb_use (x := v9) rfl hF
  refine v_iload_n (j := 2) dX12_comesBack_33 rfl ?_
  refine v_iload_n (j := 1) dX12_comesBack_34 rfl ?_
  refine v_icmp_ne dX12_comesBack_35 (by decide : _ = ((42 : Nat) : Int)) (fun q => ?_) (fun q => ?_)
  · replace hF := brF q hF
    refine v_iconst (v := 0) dX12_comesBack_42 (by decide) ?_
    obtain ⟨rfl, rfl⟩ := ret_use hF
    exact v_zret rfl (Or.inl rfl) dX12_comesBack_43
  · replace hF := brT (Decidable.not_not.mp q) hF
    refine v_iconst (v := 1) dX12_comesBack_38 (by decide) ?_
    refine v_goto (tgt := 43) dX12_comesBack_39 (by decide) ?_
    obtain ⟨rfl, rfl⟩ := ret_use hF
    exact v_zret rfl (Or.inr rfl) dX12_comesBack_43
