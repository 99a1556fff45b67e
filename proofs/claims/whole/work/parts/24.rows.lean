/-! functions and ties, printed by program (wip/gen/dec.py) -/
theorem dX7_init_0 : decode cX7_init 0 = .ok (.aload_n 0, 1) := by decide +kernel
theorem dX7_init_1 : decode cX7_init 1 = .ok (.invokespecial 3, 3) := by decide +kernel
theorem dX7_init_4 : decode cX7_init 4 = .ok (.aload_n 0, 1) := by decide +kernel
theorem dX7_init_5 : decode cX7_init 5 = .ok (.sipush 240, 3) := by decide +kernel
theorem dX7_init_8 : decode cX7_init 8 = .ok (.newarray .long, 2) := by decide +kernel
theorem dX7_init_10 : decode cX7_init 10 = .ok (.putfield 9, 3) := by decide +kernel
theorem dX7_init_13 : decode cX7_init 13 = .ok (.aload_n 0, 1) := by decide +kernel
theorem dX7_init_14 : decode cX7_init 14 = .ok (.iconst 4, 1) := by decide +kernel
theorem dX7_init_15 : decode cX7_init 15 = .ok (.newarray .int, 2) := by decide +kernel
theorem dX7_init_17 : decode cX7_init 17 = .ok (.putfield 15, 3) := by decide +kernel
theorem dX7_init_20 : decode cX7_init 20 = .ok (.aload_n 0, 1) := by decide +kernel
theorem dX7_init_21 : decode cX7_init 21 = .ok (.iconst 4, 1) := by decide +kernel
theorem dX7_init_22 : decode cX7_init 22 = .ok (.newarray .int, 2) := by decide +kernel
theorem dX7_init_24 : decode cX7_init 24 = .ok (.putfield 19, 3) := by decide +kernel
theorem dX7_init_27 : decode cX7_init 27 = .ok (.aload_n 0, 1) := by decide +kernel
theorem dX7_init_28 : decode cX7_init 28 = .ok (.getfield 15, 3) := by decide +kernel
theorem dX7_init_31 : decode cX7_init 31 = .ok (.iconst (-1), 1) := by decide +kernel
theorem dX7_init_32 : decode cX7_init 32 = .ok (.invokestatic 22, 3) := by decide +kernel
theorem dX7_init_35 : decode cX7_init 35 = .ok (.return_, 1) := by decide +kernel
def fX7_init (a0 : Nat) (h : Hp) : Option (Unit × Hp) := lb (gN h 38) (fun z1 => lb (nw h 38 240) (fun h2 => lb (sR h2 7 a0 0 (some z1)) (fun h3 => lb (gN h3 39) (fun z4 => lb (nw h3 39 4) (fun h5 => lb (sR h5 7 a0 1 (some z4)) (fun h6 => lb (gN h6 40) (fun z7 => lb (nw h6 40 4) (fun h8 => lb (sR h8 7 a0 2 (some z7)) (fun h9 => lb (gR h9 7 a0 1) (fun o10 => mt o10 none (fun z11 => lb (flI h9 39 z11 0 4 (-1)) (fun h12 => some ((), h12)))))))))))))
set_option maxRecDepth 20000 in
theorem tX7_init {X : Cz} {a0 : Nat} {h hE : Hp} {rE : Unit} (hF : fX7_init a0 h = some (rE, hE)) : Ct X mX7_init false [zr 7 a0] h (none) hE := by
  refine Ct_of (by decide) (Nat.le_of_ble_eq_true rfl) (ls := [(0, zr 7 a0)]) rfl ?_
  unfold fX7_init at hF
  refine v_aload_n (j := 0) dX7_init_0 rfl ?_
  refine v_objI mlX7_3 oiI oiC (by decide) (Nat.le_of_ble_eq_true rfl) dX7_init_1 ?_
  refine v_aload_n (j := 0) dX7_init_4 rfl ?_
  refine v_sipush (v := 240) dX7_init_5 (by decide) ?_
  refine v_newa (k := 38) (idx := 0) (at0 := .long) rfl (by decide) rfl ac_long (by decide) (by decide) (by decide) (Or.inl rfl) dX7_init_8 ?_
  refine v_topr fun z1 ez1 => ?_
  replace hF := lb_use ez1 hF
  clear ez1
  refine v_toph fun h2 eh2 => ?_
  replace hF := lb_use eh2 hF
  clear eh2
  refine v_putFR (o := some z1) (c := 7) (k2 := 38) rfl rfl (Nat.le_of_ble_eq_true rfl) rfl (Or.inl rfl) cz7 flX7_9 rfl (fun q hq => by cases hq; rfl) dX7_init_10 ?_
  refine v_toph fun h3 eh3 => ?_
  replace hF := lb_use eh3 hF
  clear eh3
  refine v_aload_n (j := 0) dX7_init_13 rfl ?_
  refine v_iconst (v := 4) dX7_init_14 (by decide) ?_
  refine v_newa (k := 39) (idx := 0) (at0 := .int) rfl (by decide) rfl ac_int (by decide) (by decide) (by decide) (Or.inl rfl) dX7_init_15 ?_
  refine v_topr fun z4 ez4 => ?_
  replace hF := lb_use ez4 hF
  clear ez4
  refine v_toph fun h5 eh5 => ?_
  replace hF := lb_use eh5 hF
  clear eh5
  refine v_putFR (o := some z4) (c := 7) (k2 := 39) rfl rfl (Nat.le_of_ble_eq_true rfl) rfl (Or.inl rfl) cz7 flX7_15 rfl (fun q hq => by cases hq; rfl) dX7_init_17 ?_
  refine v_toph fun h6 eh6 => ?_
  replace hF := lb_use eh6 hF
  clear eh6
  refine v_aload_n (j := 0) dX7_init_20 rfl ?_
  refine v_iconst (v := 4) dX7_init_21 (by decide) ?_
  refine v_newa (k := 40) (idx := 0) (at0 := .int) rfl (by decide) rfl ac_int (by decide) (by decide) (by decide) (Or.inl rfl) dX7_init_22 ?_
  refine v_topr fun z7 ez7 => ?_
  replace hF := lb_use ez7 hF
  clear ez7
  refine v_toph fun h8 eh8 => ?_
  replace hF := lb_use eh8 hF
  clear eh8
  refine v_putFR (o := some z7) (c := 7) (k2 := 40) rfl rfl (Nat.le_of_ble_eq_true rfl) rfl (Or.inl rfl) cz7 flX7_19 rfl (fun q hq => by cases hq; rfl) dX7_init_24 ?_
  refine v_toph fun h9 eh9 => ?_
  replace hF := lb_use eh9 hF
  clear eh9
  refine v_aload_n (j := 0) dX7_init_27 rfl ?_
  refine v_getR (c := 7) (k2 := 39) rfl rfl rfl cz7 flX7_15 dX7_init_28 ?_
  refine v_topq fun o10 eo10 => ?_
  replace hF := lb_use eo10 hF
  clear eo10
  refine v_iconst (v := (-1)) dX7_init_31 (by decide) ?_
  replace hF := mt_use hF
  obtain ⟨z11, ez11, hF⟩ := hF
  subst ez11
  refine v_cS (av := [zr 39 z11, zi (-1)]) (st := []) (stn := []) (tJ7_fill_53178 (n := z11) (k := 39) rfl (by decide) (-1) h9) lcJ7_fill_53178 mlX7_22 sxJ7_fill_53178 rfl ⟨by decide, by decide⟩ (Nat.le_of_ble_eq_true rfl) dX7_init_32 rfl rfl ?_
  refine v_toph fun h12 eh12 => ?_
  replace hF := lb_use eh12 hF
  clear eh12
  cases hF
  exact v_vret rfl dX7_init_35
theorem dX7_isPlace_0 : decode cX7_isPlace 0 = .ok (.iload_n 1, 1) := by decide +kernel
theorem dX7_isPlace_1 : decode cX7_isPlace 1 = .ok (.ifCond .lt 12, 3) := by decide +kernel
theorem dX7_isPlace_4 : decode cX7_isPlace 4 = .ok (.iload_n 1, 1) := by decide +kernel
theorem dX7_isPlace_5 : decode cX7_isPlace 5 = .ok (.iconst 4, 1) := by decide +kernel
theorem dX7_isPlace_6 : decode cX7_isPlace 6 = .ok (.if_icmp .ge 7, 3) := by decide +kernel
theorem dX7_isPlace_9 : decode cX7_isPlace 9 = .ok (.iconst 1, 1) := by decide +kernel
theorem dX7_isPlace_10 : decode cX7_isPlace 10 = .ok (.goto 4, 3) := by decide +kernel
theorem dX7_isPlace_13 : decode cX7_isPlace 13 = .ok (.iconst 0, 1) := by decide +kernel
theorem dX7_isPlace_14 : decode cX7_isPlace 14 = .ok (.ireturn, 1) := by decide +kernel
def fX7_isPlace (a1 : Int32) (h : Hp) : Int32 := br (a1 < 0) (0) (br (4 ≤ a1) (0) (1))
set_option maxRecDepth 20000 in
theorem tX7_isPlace {X : Cz} (a1 : Int32) (h : Hp) : Ct X mX7_isPlace true [zr 7 0, zi a1] h (some (zi (fX7_isPlace a1 h))) h := by
  refine Ct_of (by decide) (Nat.le_of_ble_eq_true rfl) (ls := [(0, zr 7 0), (1, zi a1)]) rfl ?_
  obtain ⟨rE, hF⟩ : ∃ z, fX7_isPlace a1 h = z := ⟨_, rfl⟩
  rw [hF]
  unfold fX7_isPlace at hF
  refine v_iload_n (j := 1) dX7_isPlace_0 rfl ?_
  refine v_if_lt dX7_isPlace_1 (by decide : _ = ((13 : Nat) : Int)) (fun q => ?_) (fun q => ?_)
  · replace hF := brT q hF
    refine v_iconst (v := 0) dX7_isPlace_13 (by decide) ?_
    subst hF
    exact v_zret rfl (Or.inl rfl) dX7_isPlace_14
  · replace hF := brF q hF
    refine v_iload_n (j := 1) dX7_isPlace_4 rfl ?_
    refine v_iconst (v := 4) dX7_isPlace_5 (by decide) ?_
    refine v_icmp_ge dX7_isPlace_6 (by decide : _ = ((13 : Nat) : Int)) (fun q => ?_) (fun q => ?_)
    · replace hF := brT q hF
      refine v_iconst (v := 0) dX7_isPlace_13 (by decide) ?_
      subst hF
      exact v_zret rfl (Or.inl rfl) dX7_isPlace_14
    · replace hF := brF q hF
      refine v_iconst (v := 1) dX7_isPlace_9 (by decide) ?_
      refine v_goto (tgt := 14) dX7_isPlace_10 (by decide) ?_
      subst hF
      exact v_zret rfl (Or.inr rfl) dX7_isPlace_14
theorem zX7_isPlace (a1 : Int32) (h : Hp) : fX7_isPlace a1 h = 0 ∨ fX7_isPlace a1 h = 1 := by
  unfold fX7_isPlace
  try unfold br
  try unfold lb
  try dsimp only
  repeat' split
  all_goals first | exact Or.inl rfl | exact Or.inr rfl
theorem dX7_isFilled_0 : decode cX7_isFilled 0 = .ok (.aload_n 0, 1) := by decide +kernel
theorem dX7_isFilled_1 : decode cX7_isFilled 1 = .ok (.getfield 15, 3) := by decide +kernel
theorem dX7_isFilled_4 : decode cX7_isFilled 4 = .ok (.iload_n 1, 1) := by decide +kernel
theorem dX7_isFilled_5 : decode cX7_isFilled 5 = .ok (.iaload, 1) := by decide +kernel
theorem dX7_isFilled_6 : decode cX7_isFilled 6 = .ok (.iconst (-1), 1) := by decide +kernel
theorem dX7_isFilled_7 : decode cX7_isFilled 7 = .ok (.if_icmp .eq 7, 3) := by decide +kernel
theorem dX7_isFilled_10 : decode cX7_isFilled 10 = .ok (.iconst 1, 1) := by decide +kernel
theorem dX7_isFilled_11 : decode cX7_isFilled 11 = .ok (.goto 4, 3) := by decide +kernel
theorem dX7_isFilled_14 : decode cX7_isFilled 14 = .ok (.iconst 0, 1) := by decide +kernel
theorem dX7_isFilled_15 : decode cX7_isFilled 15 = .ok (.ireturn, 1) := by decide +kernel
def fX7_isFilled (a1 : Int32) (h : Hp) : Option (Int32 × Hp) := gd (ib a1 4) (br ((gI h 39 0 (ix a1)) = (-1)) (some (0, h)) (some (1, h)))
set_option maxRecDepth 20000 in
theorem tX7_isFilled {X : Cz} {a1 : Int32} {h hE : Hp} {rE : Int32} (hF : fX7_isFilled a1 h = some (rE, hE)) : Ct X mX7_isFilled true [zr 7 0, zi a1] h (some (zi rE)) hE := by
  refine Ct_of (by decide) (Nat.le_of_ble_eq_true rfl) (ls := [(0, zr 7 0), (1, zi a1)]) rfl ?_
  unfold fX7_isFilled at hF
  refine v_aload_n (j := 0) dX7_isFilled_0 rfl ?_
  refine v_getL (c := 7) rfl rfl rfl ly7_1 cz7 flX7_15 dX7_isFilled_1 ?_
  refine v_iload_n (j := 1) dX7_isFilled_4 rfl ?_
  replace hF := gd_use hF
  obtain ⟨q1, hF⟩ := hF
  refine v_iald rfl q1 dX7_isFilled_5 ?_
  refine v_iconst (v := (-1)) dX7_isFilled_6 (by decide) ?_
  refine v_icmp_eq dX7_isFilled_7 (by decide : _ = ((14 : Nat) : Int)) (fun q => ?_) (fun q => ?_)
  · replace hF := brT q hF
    refine v_iconst (v := 0) dX7_isFilled_14 (by decide) ?_
    obtain ⟨rfl, rfl⟩ := ret_use hF
    exact v_zret rfl (Or.inl rfl) dX7_isFilled_15
  · replace hF := brF q hF
    refine v_iconst (v := 1) dX7_isFilled_10 (by decide) ?_
    refine v_goto (tgt := 15) dX7_isFilled_11 (by decide) ?_
    obtain ⟨rfl, rfl⟩ := ret_use hF
    exact v_zret rfl (Or.inr rfl) dX7_isFilled_15
theorem dX7_filled_0 : decode cX7_filled 0 = .ok (.iconst 0, 1) := by decide +kernel
theorem dX7_filled_1 : decode cX7_filled 1 = .ok (.istore_n 1, 1) := by decide +kernel
theorem dX7_filled_2 : decode cX7_filled 2 = .ok (.iconst 0, 1) := by decide +kernel
theorem dX7_filled_3 : decode cX7_filled 3 = .ok (.istore_n 2, 1) := by decide +kernel
theorem dX7_filled_4 : decode cX7_filled 4 = .ok (.iload_n 2, 1) := by decide +kernel
theorem dX7_filled_5 : decode cX7_filled 5 = .ok (.iconst 4, 1) := by decide +kernel
theorem dX7_filled_6 : decode cX7_filled 6 = .ok (.if_icmp .ge 25, 3) := by decide +kernel
theorem dX7_filled_9 : decode cX7_filled 9 = .ok (.iload_n 1, 1) := by decide +kernel
theorem dX7_filled_10 : decode cX7_filled 10 = .ok (.aload_n 0, 1) := by decide +kernel
theorem dX7_filled_11 : decode cX7_filled 11 = .ok (.iload_n 2, 1) := by decide +kernel
theorem dX7_filled_12 : decode cX7_filled 12 = .ok (.invokevirtual 28, 3) := by decide +kernel
theorem dX7_filled_15 : decode cX7_filled 15 = .ok (.ifCond .eq 7, 3) := by decide +kernel
theorem dX7_filled_18 : decode cX7_filled 18 = .ok (.iconst 1, 1) := by decide +kernel
theorem dX7_filled_19 : decode cX7_filled 19 = .ok (.goto 4, 3) := by decide +kernel
theorem dX7_filled_22 : decode cX7_filled 22 = .ok (.iconst 0, 1) := by decide +kernel
theorem dX7_filled_23 : decode cX7_filled 23 = .ok (.iadd, 1) := by decide +kernel
theorem dX7_filled_24 : decode cX7_filled 24 = .ok (.istore_n 1, 1) := by decide +kernel
theorem dX7_filled_25 : decode cX7_filled 25 = .ok (.iinc 2 1, 3) := by decide +kernel
theorem dX7_filled_28 : decode cX7_filled 28 = .ok (.goto (-24), 3) := by decide +kernel
theorem dX7_filled_31 : decode cX7_filled 31 = .ok (.iload_n 1, 1) := by decide +kernel
theorem dX7_filled_32 : decode cX7_filled 32 = .ok (.ireturn, 1) := by decide +kernel
def fX7_filled_L4 : Nat → Int32 → Int32 → Hp → Option ((Int32 × Int32) × Hp)
  | 0, _, _, _ => none
  | n + 1, a1, a2, h => br (4 ≤ a2) (some ((a1, a2), h)) (bd (fX7_isFilled a2 h) (fun r1 h2 => br (r1 = 0) (lb (a1 + 0) (fun v3 => lb (a2 + 1) (fun v4 => fX7_filled_L4 n v3 v4 h2))) (lb (a1 + 1) (fun v5 => lb (a2 + 1) (fun v6 => fX7_filled_L4 n v5 v6 h2)))))
def fX7_filled (h : Hp) : Option (Int32 × Hp) := bd (fX7_filled_L4 FU 0 0 h) (fun t8 h7 => lb t8.1 (fun v9 => lb t8.2 (fun v10 => some (v9, h7))))
set_option maxRecDepth 20000 in
theorem tX7_filled_L4 {X : Cz} {h0 : Hp} {r : Option AV} {hE : Hp} : ∀ (n : Nat) (a1 : Int32) (a2 : Int32) (h : Hp) (z : (Int32 × Int32) × Hp), fX7_filled_L4 n a1 a2 h = some z → V X mX7_filled true h0 31 [(0, zr 7 0), (1, zi z.1.1), (2, zi z.1.2)] [] z.2 r hE → V X mX7_filled true h0 4 [(0, zr 7 0), (1, zi a1), (2, zi a2)] [] h r hE := by
  intro n
  induction n with
  | zero => intro a1 a2 h z hF k; cases hF
  | succ n ih =>
    intro a1 a2 h z hF k
    rw [fX7_filled_L4] at hF
    refine v_iload_n (j := 2) dX7_filled_4 rfl ?_
    refine v_iconst (v := 4) dX7_filled_5 (by decide) ?_
    refine v_icmp_ge dX7_filled_6 (by decide : _ = ((31 : Nat) : Int)) (fun q => ?_) (fun q => ?_)
    · replace hF := brT q hF
      cases hF
      exact k
    · replace hF := brF q hF
      refine v_iload_n (j := 1) dX7_filled_9 rfl ?_
      refine v_aload_n (j := 0) dX7_filled_10 rfl ?_
      refine v_iload_n (j := 2) dX7_filled_11 rfl ?_
      replace hF := bd_use hF
      obtain ⟨r1, h2, er1, hF⟩ := hF
      refine v_cV (hm := h2) (av := [zi a2]) (st := [zi a1]) (stn := [zi r1, zi a1]) (tX7_isFilled er1) lcX7_isFilled mlX7_28 imX7_isFilled seX7_isFilled rfl rfl rfl rfl ⟨by decide, by decide⟩ (Nat.le_of_ble_eq_true rfl) dX7_filled_12 rfl rfl ?_
      clear er1
      refine v_if_eq dX7_filled_15 (by decide : _ = ((22 : Nat) : Int)) (fun q => ?_) (fun q => ?_)
      · replace hF := brT q hF
        refine v_iconst (v := 0) dX7_filled_22 (by decide) ?_
        refine v_iadd dX7_filled_23 ?_
        refine v_topi fun v3 ev3 => ?_
        replace hF := lb_use ev3 hF
        clear ev3
        refine v_istore_n (ls' := [(1, zi v3), (0, zr 7 0), (2, zi a2)]) dX7_filled_24 (by decide) rfl ?_
        obtain ⟨v4, ev4⟩ : ∃ y : Int32, y = a2 + 1 := ⟨_, rfl⟩
        replace hF := lb_use ev4 hF
        refine v_iinc (j := 2) (v := v4) (ls' := [(2, zi v4), (1, zi v3), (0, zr 7 0)]) dX7_filled_25 rfl (by rw [ev4]; rfl) (by decide) rfl ?_
        clear ev4
        refine v_goto (tgt := 4) dX7_filled_28 (by decide) ?_
        refine v_sub [2, 1, 0] rfl ?_
        exact ih v3 v4 h2 _ hF k
      · replace hF := brF q hF
        refine v_iconst (v := 1) dX7_filled_18 (by decide) ?_
        refine v_goto (tgt := 23) dX7_filled_19 (by decide) ?_
        refine v_iadd dX7_filled_23 ?_
        refine v_topi fun v5 ev5 => ?_
        replace hF := lb_use ev5 hF
        clear ev5
        refine v_istore_n (ls' := [(1, zi v5), (0, zr 7 0), (2, zi a2)]) dX7_filled_24 (by decide) rfl ?_
        obtain ⟨v6, ev6⟩ : ∃ y : Int32, y = a2 + 1 := ⟨_, rfl⟩
        replace hF := lb_use ev6 hF
        refine v_iinc (j := 2) (v := v6) (ls' := [(2, zi v6), (1, zi v5), (0, zr 7 0)]) dX7_filled_25 rfl (by rw [ev6]; rfl) (by decide) rfl ?_
        clear ev6
        refine v_goto (tgt := 4) dX7_filled_28 (by decide) ?_
        refine v_sub [2, 1, 0] rfl ?_
        exact ih v5 v6 h2 _ hF k
set_option maxRecDepth 20000 in
theorem tX7_filled {X : Cz} {h hE : Hp} {rE : Int32} (hF : fX7_filled h = some (rE, hE)) : Ct X mX7_filled true [zr 7 0] h (some (zi rE)) hE := by
  refine Ct_of (by decide) (Nat.le_of_ble_eq_true rfl) (ls := [(0, zr 7 0)]) rfl ?_
  unfold fX7_filled at hF
  refine v_iconst (v := 0) dX7_filled_0 (by decide) ?_
  refine v_istore_n (ls' := [(1, zi 0), (0, zr 7 0)]) dX7_filled_1 (by decide) rfl ?_
  refine v_iconst (v := 0) dX7_filled_2 (by decide) ?_
  refine v_istore_n (ls' := [(2, zi 0), (1, zi 0), (0, zr 7 0)]) dX7_filled_3 (by decide) rfl ?_
  refine v_sub [2, 1, 0] rfl ?_
  replace hF := bd_use hF
  obtain ⟨t8, h7, et8, hF⟩ := hF
  refine tX7_filled_L4 _ 0 0 h _ et8 ?_
  clear et8
  obtain ⟨v9, v10⟩ := t8
  replace hF := lb_use (x := v9) rfl hF
  replace hF := lb_use (x := v10) rfl hF
  refine v_iload_n (j := 1) dX7_filled_31 rfl ?_
  obtain ⟨rfl, rfl⟩ := ret_use hF
  exact v_iret rfl dX7_filled_32
theorem dX7_lengthOf_0 : decode cX7_lengthOf 0 = .ok (.iconst 0, 1) := by decide +kernel
theorem dX7_lengthOf_1 : decode cX7_lengthOf 1 = .ok (.aload_n 0, 1) := by decide +kernel
theorem dX7_lengthOf_2 : decode cX7_lengthOf 2 = .ok (.getfield 15, 3) := by decide +kernel
theorem dX7_lengthOf_5 : decode cX7_lengthOf 5 = .ok (.iload_n 1, 1) := by decide +kernel
theorem dX7_lengthOf_6 : decode cX7_lengthOf 6 = .ok (.iaload, 1) := by decide +kernel
theorem dX7_lengthOf_7 : decode cX7_lengthOf 7 = .ok (.invokestatic 32, 3) := by decide +kernel
theorem dX7_lengthOf_10 : decode cX7_lengthOf 10 = .ok (.ireturn, 1) := by decide +kernel
def fX7_lengthOf (a1 : Int32) (h : Hp) : Option (Int32 × Hp) := gd (ib a1 4) (some (mxI 0 (gI h 39 0 (ix a1)), h))
set_option maxRecDepth 20000 in
theorem tX7_lengthOf {X : Cz} {a1 : Int32} {h hE : Hp} {rE : Int32} (hF : fX7_lengthOf a1 h = some (rE, hE)) : Ct X mX7_lengthOf true [zr 7 0, zi a1] h (some (zi rE)) hE := by
  refine Ct_of (by decide) (Nat.le_of_ble_eq_true rfl) (ls := [(0, zr 7 0), (1, zi a1)]) rfl ?_
  unfold fX7_lengthOf at hF
  refine v_iconst (v := 0) dX7_lengthOf_0 (by decide) ?_
  refine v_aload_n (j := 0) dX7_lengthOf_1 rfl ?_
  refine v_getL (c := 7) rfl rfl rfl ly7_1 cz7 flX7_15 dX7_lengthOf_2 ?_
  refine v_iload_n (j := 1) dX7_lengthOf_5 rfl ?_
  replace hF := gd_use hF
  obtain ⟨q1, hF⟩ := hF
  refine v_iald rfl q1 dX7_lengthOf_6 ?_
  refine v_J9_max_7cf53 mlX7_32 (by decide) (Nat.le_of_ble_eq_true rfl) dX7_lengthOf_7 ?_
  obtain ⟨rfl, rfl⟩ := ret_use hF
  exact v_iret rfl dX7_lengthOf_10
theorem dX7_numberAt_0 : decode cX7_numberAt 0 = .ok (.iload_n 2, 1) := by decide +kernel
theorem dX7_numberAt_1 : decode cX7_numberAt 1 = .ok (.ifCond .lt 26, 3) := by decide +kernel
theorem dX7_numberAt_4 : decode cX7_numberAt 4 = .ok (.iload_n 2, 1) := by decide +kernel
theorem dX7_numberAt_5 : decode cX7_numberAt 5 = .ok (.aload_n 0, 1) := by decide +kernel
theorem dX7_numberAt_6 : decode cX7_numberAt 6 = .ok (.iload_n 1, 1) := by decide +kernel
theorem dX7_numberAt_7 : decode cX7_numberAt 7 = .ok (.invokevirtual 38, 3) := by decide +kernel
theorem dX7_numberAt_10 : decode cX7_numberAt 10 = .ok (.if_icmp .ge 17, 3) := by decide +kernel
theorem dX7_numberAt_13 : decode cX7_numberAt 13 = .ok (.aload_n 0, 1) := by decide +kernel
theorem dX7_numberAt_14 : decode cX7_numberAt 14 = .ok (.getfield 9, 3) := by decide +kernel
theorem dX7_numberAt_17 : decode cX7_numberAt 17 = .ok (.iload_n 1, 1) := by decide +kernel
theorem dX7_numberAt_18 : decode cX7_numberAt 18 = .ok (.bipush 60, 2) := by decide +kernel
theorem dX7_numberAt_20 : decode cX7_numberAt 20 = .ok (.imul, 1) := by decide +kernel
theorem dX7_numberAt_21 : decode cX7_numberAt 21 = .ok (.iload_n 2, 1) := by decide +kernel
theorem dX7_numberAt_22 : decode cX7_numberAt 22 = .ok (.iadd, 1) := by decide +kernel
theorem dX7_numberAt_23 : decode cX7_numberAt 23 = .ok (.laload, 1) := by decide +kernel
theorem dX7_numberAt_24 : decode cX7_numberAt 24 = .ok (.goto 4, 3) := by decide +kernel
theorem dX7_numberAt_27 : decode cX7_numberAt 27 = .ok (.lconst 0, 1) := by decide +kernel
theorem dX7_numberAt_28 : decode cX7_numberAt 28 = .ok (.lreturn, 1) := by decide +kernel
def fX7_numberAt (a1 : Int32) (a2 : Int32) (h : Hp) : Option (Int64 × Hp) := br (a2 < 0) (some (0, h)) (bd (fX7_lengthOf a1 h) (fun r1 h2 => br (r1 ≤ a2) (some (0, h2)) (gd (ib ((a1 * 60) + a2) 240) (some (gJ h2 38 0 (ix ((a1 * 60) + a2)), h2)))))
set_option maxRecDepth 20000 in
theorem tX7_numberAt {X : Cz} {a1 : Int32} {a2 : Int32} {h hE : Hp} {rE : Int64} (hF : fX7_numberAt a1 a2 h = some (rE, hE)) : Ct X mX7_numberAt true [zr 7 0, zi a1, zi a2] h (some (zj rE)) hE := by
  refine Ct_of (by decide) (Nat.le_of_ble_eq_true rfl) (ls := [(0, zr 7 0), (1, zi a1), (2, zi a2)]) rfl ?_
  unfold fX7_numberAt at hF
  refine v_iload_n (j := 2) dX7_numberAt_0 rfl ?_
  refine v_if_lt dX7_numberAt_1 (by decide : _ = ((27 : Nat) : Int)) (fun q => ?_) (fun q => ?_)
  · replace hF := brT q hF
    refine v_lconst (v := 0) dX7_numberAt_27 (by decide) ?_
    obtain ⟨rfl, rfl⟩ := ret_use hF
    exact v_lret rfl dX7_numberAt_28
  · replace hF := brF q hF
    refine v_iload_n (j := 2) dX7_numberAt_4 rfl ?_
    refine v_aload_n (j := 0) dX7_numberAt_5 rfl ?_
    refine v_iload_n (j := 1) dX7_numberAt_6 rfl ?_
    replace hF := bd_use hF
    obtain ⟨r1, h2, er1, hF⟩ := hF
    refine v_cV (hm := h2) (av := [zi a1]) (st := [zi a2]) (stn := [zi r1, zi a2]) (tX7_lengthOf er1) lcX7_lengthOf mlX7_38 imX7_lengthOf seX7_lengthOf rfl rfl rfl rfl ⟨by decide, by decide⟩ (Nat.le_of_ble_eq_true rfl) dX7_numberAt_7 rfl rfl ?_
    clear er1
    refine v_icmp_ge dX7_numberAt_10 (by decide : _ = ((27 : Nat) : Int)) (fun q => ?_) (fun q => ?_)
    · replace hF := brT q hF
      refine v_lconst (v := 0) dX7_numberAt_27 (by decide) ?_
      obtain ⟨rfl, rfl⟩ := ret_use hF
      exact v_lret rfl dX7_numberAt_28
    · replace hF := brF q hF
      refine v_aload_n (j := 0) dX7_numberAt_13 rfl ?_
      refine v_getL (c := 7) rfl rfl rfl ly7_0 cz7 flX7_9 dX7_numberAt_14 ?_
      refine v_iload_n (j := 1) dX7_numberAt_17 rfl ?_
      refine v_bipush (v := 60) dX7_numberAt_18 (by decide) ?_
      refine v_imul dX7_numberAt_20 ?_
      refine v_iload_n (j := 2) dX7_numberAt_21 rfl ?_
      refine v_iadd dX7_numberAt_22 ?_
      replace hF := gd_use hF
      obtain ⟨q3, hF⟩ := hF
      refine v_lald rfl q3 dX7_numberAt_23 ?_
      refine v_goto (tgt := 28) dX7_numberAt_24 (by decide) ?_
      obtain ⟨rfl, rfl⟩ := ret_use hF
      exact v_lret rfl dX7_numberAt_28
theorem dX7_lay_0 : decode cX7_lay 0 = .ok (.iload_n 1, 1) := by decide +kernel
theorem dX7_lay_1 : decode cX7_lay 1 = .ok (.bipush 60, 2) := by decide +kernel
theorem dX7_lay_3 : decode cX7_lay 3 = .ok (.imul, 1) := by decide +kernel
theorem dX7_lay_4 : decode cX7_lay 4 = .ok (.istore 4, 2) := by decide +kernel
theorem dX7_lay_6 : decode cX7_lay 6 = .ok (.aload_n 0, 1) := by decide +kernel
theorem dX7_lay_7 : decode cX7_lay 7 = .ok (.getfield 9, 3) := by decide +kernel
theorem dX7_lay_10 : decode cX7_lay 10 = .ok (.iload 4, 2) := by decide +kernel
theorem dX7_lay_12 : decode cX7_lay 12 = .ok (.iload 4, 2) := by decide +kernel
theorem dX7_lay_14 : decode cX7_lay 14 = .ok (.bipush 60, 2) := by decide +kernel
theorem dX7_lay_16 : decode cX7_lay 16 = .ok (.iadd, 1) := by decide +kernel
theorem dX7_lay_17 : decode cX7_lay 17 = .ok (.lconst 0, 1) := by decide +kernel
theorem dX7_lay_18 : decode cX7_lay 18 = .ok (.invokestatic 42, 3) := by decide +kernel
theorem dX7_lay_21 : decode cX7_lay 21 = .ok (.aload_n 0, 1) := by decide +kernel
theorem dX7_lay_22 : decode cX7_lay 22 = .ok (.getfield 15, 3) := by decide +kernel
theorem dX7_lay_25 : decode cX7_lay 25 = .ok (.iload_n 1, 1) := by decide +kernel
theorem dX7_lay_26 : decode cX7_lay 26 = .ok (.iload_n 3, 1) := by decide +kernel
theorem dX7_lay_27 : decode cX7_lay 27 = .ok (.iastore, 1) := by decide +kernel
theorem dX7_lay_28 : decode cX7_lay 28 = .ok (.aload_n 0, 1) := by decide +kernel
theorem dX7_lay_29 : decode cX7_lay 29 = .ok (.getfield 19, 3) := by decide +kernel
theorem dX7_lay_32 : decode cX7_lay 32 = .ok (.iload_n 1, 1) := by decide +kernel
theorem dX7_lay_33 : decode cX7_lay 33 = .ok (.iload_n 2, 1) := by decide +kernel
theorem dX7_lay_34 : decode cX7_lay 34 = .ok (.iastore, 1) := by decide +kernel
theorem dX7_lay_35 : decode cX7_lay 35 = .ok (.return_, 1) := by decide +kernel
def fX7_lay (a1 : Int32) (a2 : Int32) (a3 : Int32) (h : Hp) : Option (Unit × Hp) := lb (a1 * 60) (fun v1 => gd (0 ≤ v1.toInt ∧ v1.toInt ≤ (v1 + 60).toInt ∧ (v1 + 60).toInt ≤ 240) (lb (flJ h 38 0 (ix v1) (ix (v1 + 60)) 0) (fun h3 => gd (ib a1 4) (lb (sI h3 39 0 (ix a1) a3) (fun h5 => gd (ib a1 4) (lb (sI h5 40 0 (ix a1) a2) (fun h7 => some ((), h7))))))))
set_option maxRecDepth 20000 in
theorem tX7_lay {X : Cz} {a1 : Int32} {a2 : Int32} {a3 : Int32} {h hE : Hp} {rE : Unit} (hF : fX7_lay a1 a2 a3 h = some (rE, hE)) : Ct X mX7_lay true [zr 7 0, zi a1, zi a2, zi a3] h (none) hE := by
  refine Ct_of (by decide) (Nat.le_of_ble_eq_true rfl) (ls := [(0, zr 7 0), (1, zi a1), (2, zi a2), (3, zi a3)]) rfl ?_
  unfold fX7_lay at hF
  refine v_iload_n (j := 1) dX7_lay_0 rfl ?_
  refine v_bipush (v := 60) dX7_lay_1 (by decide) ?_
  refine v_imul dX7_lay_3 ?_
  refine v_topi fun v1 ev1 => ?_
  replace hF := lb_use ev1 hF
  clear ev1
  refine v_istore (ls' := [(4, zi v1), (0, zr 7 0), (1, zi a1), (2, zi a2), (3, zi a3)]) dX7_lay_4 (by decide) rfl ?_
  refine v_aload_n (j := 1) dX7_lay_6 rfl ?_
  refine v_getL (c := 7) rfl rfl rfl ly7_0 cz7 flX7_9 dX7_lay_7 ?_
  refine v_iload (j := 0) dX7_lay_10 rfl ?_
  refine v_iload (j := 0) dX7_lay_12 rfl ?_
  refine v_bipush (v := 60) dX7_lay_14 (by decide) ?_
  refine v_iadd dX7_lay_16 ?_
  refine v_lconst (v := 0) dX7_lay_17 (by decide) ?_
  replace hF := gd_use hF
  obtain ⟨q2, hF⟩ := hF
  refine v_cS (av := [zr 38 0, zi v1, zi (v1 + 60), zj 0]) (st := []) (stn := []) (tJ7_fill_bad5a (n := 0) (k := 38) rfl (by decide) v1 (v1 + 60) 0 h q2.1 q2.2.1 q2.2.2) lcJ7_fill_bad5a mlX7_42 sxJ7_fill_bad5a rfl ⟨by decide, by decide⟩ (Nat.le_of_ble_eq_true rfl) dX7_lay_18 rfl rfl ?_
  refine v_toph fun h3 eh3 => ?_
  replace hF := lb_use eh3 hF
  clear eh3
  refine v_aload_n (j := 1) dX7_lay_21 rfl ?_
  refine v_getL (c := 7) rfl rfl rfl ly7_1 cz7 flX7_15 dX7_lay_22 ?_
  refine v_iload_n (j := 2) dX7_lay_25 rfl ?_
  refine v_iload_n (j := 4) dX7_lay_26 rfl ?_
  replace hF := gd_use hF
  obtain ⟨q4, hF⟩ := hF
  refine v_iast rfl q4 dX7_lay_27 ?_
  refine v_toph fun h5 eh5 => ?_
  replace hF := lb_use eh5 hF
  clear eh5
  refine v_aload_n (j := 1) dX7_lay_28 rfl ?_
  refine v_getL (c := 7) rfl rfl rfl ly7_2 cz7 flX7_19 dX7_lay_29 ?_
  refine v_iload_n (j := 2) dX7_lay_32 rfl ?_
  refine v_iload_n (j := 3) dX7_lay_33 rfl ?_
  replace hF := gd_use hF
  obtain ⟨q6, hF⟩ := hF
  refine v_iast rfl q6 dX7_lay_34 ?_
  refine v_toph fun h7 eh7 => ?_
  replace hF := lb_use eh7 hF
  clear eh7
  cases hF
  exact v_vret rfl dX7_lay_35
theorem dX7_clear_0 : decode cX7_clear 0 = .ok (.aload_n 0, 1) := by decide +kernel
theorem dX7_clear_1 : decode cX7_clear 1 = .ok (.getfield 15, 3) := by decide +kernel
theorem dX7_clear_4 : decode cX7_clear 4 = .ok (.iload_n 1, 1) := by decide +kernel
theorem dX7_clear_5 : decode cX7_clear 5 = .ok (.iconst (-1), 1) := by decide +kernel
theorem dX7_clear_6 : decode cX7_clear 6 = .ok (.iastore, 1) := by decide +kernel
theorem dX7_clear_7 : decode cX7_clear 7 = .ok (.return_, 1) := by decide +kernel
def fX7_clear (a1 : Int32) (h : Hp) : Option (Unit × Hp) := gd (ib a1 4) (lb (sI h 39 0 (ix a1) (-1)) (fun h2 => some ((), h2)))
set_option maxRecDepth 20000 in
theorem tX7_clear {X : Cz} {a1 : Int32} {h hE : Hp} {rE : Unit} (hF : fX7_clear a1 h = some (rE, hE)) : Ct X mX7_clear true [zr 7 0, zi a1] h (none) hE := by
  refine Ct_of (by decide) (Nat.le_of_ble_eq_true rfl) (ls := [(0, zr 7 0), (1, zi a1)]) rfl ?_
  unfold fX7_clear at hF
  refine v_aload_n (j := 0) dX7_clear_0 rfl ?_
  refine v_getL (c := 7) rfl rfl rfl ly7_1 cz7 flX7_15 dX7_clear_1 ?_
  refine v_iload_n (j := 1) dX7_clear_4 rfl ?_
  refine v_iconst (v := (-1)) dX7_clear_5 (by decide) ?_
  replace hF := gd_use hF
  obtain ⟨q1, hF⟩ := hF
  refine v_iast rfl q1 dX7_clear_6 ?_
  refine v_toph fun h2 eh2 => ?_
  replace hF := lb_use eh2 hF
  clear eh2
  cases hF
  exact v_vret rfl dX7_clear_7
theorem dX7_cut_0 : decode cX7_cut 0 = .ok (.iload_n 2, 1) := by decide +kernel
theorem dX7_cut_1 : decode cX7_cut 1 = .ok (.tableswitch 41 0 2 #[27, 32, 37], 27) := by decide +kernel
theorem dX7_cut_28 : decode cX7_cut 28 = .ok (.lload_n 0, 1) := by decide +kernel
theorem dX7_cut_29 : decode cX7_cut 29 = .ok (.l2i, 1) := by decide +kernel
theorem dX7_cut_30 : decode cX7_cut 30 = .ok (.i2b, 1) := by decide +kernel
theorem dX7_cut_31 : decode cX7_cut 31 = .ok (.i2l, 1) := by decide +kernel
theorem dX7_cut_32 : decode cX7_cut 32 = .ok (.lreturn, 1) := by decide +kernel
theorem dX7_cut_33 : decode cX7_cut 33 = .ok (.lload_n 0, 1) := by decide +kernel
theorem dX7_cut_34 : decode cX7_cut 34 = .ok (.l2i, 1) := by decide +kernel
theorem dX7_cut_35 : decode cX7_cut 35 = .ok (.i2s, 1) := by decide +kernel
theorem dX7_cut_36 : decode cX7_cut 36 = .ok (.i2l, 1) := by decide +kernel
theorem dX7_cut_37 : decode cX7_cut 37 = .ok (.lreturn, 1) := by decide +kernel
theorem dX7_cut_38 : decode cX7_cut 38 = .ok (.lload_n 0, 1) := by decide +kernel
theorem dX7_cut_39 : decode cX7_cut 39 = .ok (.l2i, 1) := by decide +kernel
theorem dX7_cut_40 : decode cX7_cut 40 = .ok (.i2l, 1) := by decide +kernel
theorem dX7_cut_41 : decode cX7_cut 41 = .ok (.lreturn, 1) := by decide +kernel
theorem dX7_cut_42 : decode cX7_cut 42 = .ok (.lload_n 0, 1) := by decide +kernel
theorem dX7_cut_43 : decode cX7_cut 43 = .ok (.lreturn, 1) := by decide +kernel
def fX7_cut (a0 : Int64) (a2 : Int32) (h : Hp) : Int64 := br (a2 = 0) (a0.toInt32.toInt8.toInt32.toInt64) (br (a2 = 1) (a0.toInt32.toInt16.toInt32.toInt64) (br (a2 = 2) (a0.toInt32.toInt64) (a0)))
set_option maxRecDepth 20000 in
theorem tX7_cut {X : Cz} (a0 : Int64) (a2 : Int32) (h : Hp) : Ct X mX7_cut true [zj a0, zi a2] h (some (zj (fX7_cut a0 a2 h))) h := by
  refine Ct_of (by decide) (Nat.le_of_ble_eq_true rfl) (ls := [(0, zj a0), (2, zi a2)]) rfl ?_
  obtain ⟨rE, hF⟩ : ∃ z, fX7_cut a0 a2 h = z := ⟨_, rfl⟩
  rw [hF]
  unfold fX7_cut at hF
  refine v_iload_n (j := 1) dX7_cut_0 rfl ?_
  by_cases q0 : a2 = 0
  · replace hF := brT q0 hF
    subst q0
    refine v_tblIn (tgt := 28) dX7_cut_1 (by decide) (by decide) rfl (by decide) ?_
    refine v_lload_n (j := 0) dX7_cut_28 rfl ?_
    refine v_l2i dX7_cut_29 ?_
    refine v_i2b dX7_cut_30 ?_
    refine v_i2l dX7_cut_31 ?_
    subst hF
    exact v_lret rfl dX7_cut_32
  replace hF := brF q0 hF
  by_cases q1 : a2 = 1
  · replace hF := brT q1 hF
    subst q1
    refine v_tblIn (tgt := 33) dX7_cut_1 (by decide) (by decide) rfl (by decide) ?_
    refine v_lload_n (j := 0) dX7_cut_33 rfl ?_
    refine v_l2i dX7_cut_34 ?_
    refine v_i2s dX7_cut_35 ?_
    refine v_i2l dX7_cut_36 ?_
    subst hF
    exact v_lret rfl dX7_cut_37
  replace hF := brF q1 hF
  by_cases q2 : a2 = 2
  · replace hF := brT q2 hF
    subst q2
    refine v_tblIn (tgt := 38) dX7_cut_1 (by decide) (by decide) rfl (by decide) ?_
    refine v_lload_n (j := 0) dX7_cut_38 rfl ?_
    refine v_l2i dX7_cut_39 ?_
    refine v_i2l dX7_cut_40 ?_
    subst hF
    exact v_lret rfl dX7_cut_41
  replace hF := brF q2 hF
  have nq0 := lv_neT (a := 0) q0 rfl
  have nq1 := lv_neT (a := 1) q1 rfl
  have nq2 := lv_neT (a := 2) q2 rfl
  refine v_tblOut (tgt := 42) dX7_cut_1 (by omega) (by decide) ?_
  refine v_lload_n (j := 0) dX7_cut_42 rfl ?_
  subst hF
  exact v_lret rfl dX7_cut_43
theorem dX7_put_0 : decode cX7_put 0 = .ok (.iload_n 2, 1) := by decide +kernel
theorem dX7_put_1 : decode cX7_put 1 = .ok (.ifCond .lt 13, 3) := by decide +kernel
theorem dX7_put_4 : decode cX7_put 4 = .ok (.iload_n 2, 1) := by decide +kernel
theorem dX7_put_5 : decode cX7_put 5 = .ok (.aload_n 0, 1) := by decide +kernel
theorem dX7_put_6 : decode cX7_put 6 = .ok (.getfield 15, 3) := by decide +kernel
theorem dX7_put_9 : decode cX7_put 9 = .ok (.iload_n 1, 1) := by decide +kernel
theorem dX7_put_10 : decode cX7_put 10 = .ok (.iaload, 1) := by decide +kernel
theorem dX7_put_11 : decode cX7_put 11 = .ok (.if_icmp .lt 6, 3) := by decide +kernel
theorem dX7_put_14 : decode cX7_put 14 = .ok (.bipush (-6), 2) := by decide +kernel
theorem dX7_put_16 : decode cX7_put 16 = .ok (.ireturn, 1) := by decide +kernel
theorem dX7_put_17 : decode cX7_put 17 = .ok (.aload_n 0, 1) := by decide +kernel
theorem dX7_put_18 : decode cX7_put 18 = .ok (.getfield 9, 3) := by decide +kernel
theorem dX7_put_21 : decode cX7_put 21 = .ok (.iload_n 1, 1) := by decide +kernel
theorem dX7_put_22 : decode cX7_put 22 = .ok (.bipush 60, 2) := by decide +kernel
theorem dX7_put_24 : decode cX7_put 24 = .ok (.imul, 1) := by decide +kernel
theorem dX7_put_25 : decode cX7_put 25 = .ok (.iload_n 2, 1) := by decide +kernel
theorem dX7_put_26 : decode cX7_put 26 = .ok (.iadd, 1) := by decide +kernel
theorem dX7_put_27 : decode cX7_put 27 = .ok (.lload_n 3, 1) := by decide +kernel
theorem dX7_put_28 : decode cX7_put 28 = .ok (.aload_n 0, 1) := by decide +kernel
theorem dX7_put_29 : decode cX7_put 29 = .ok (.getfield 19, 3) := by decide +kernel
theorem dX7_put_32 : decode cX7_put 32 = .ok (.iload_n 1, 1) := by decide +kernel
theorem dX7_put_33 : decode cX7_put 33 = .ok (.iaload, 1) := by decide +kernel
theorem dX7_put_34 : decode cX7_put 34 = .ok (.invokestatic 45, 3) := by decide +kernel
theorem dX7_put_37 : decode cX7_put 37 = .ok (.lastore, 1) := by decide +kernel
theorem dX7_put_38 : decode cX7_put 38 = .ok (.iconst 0, 1) := by decide +kernel
theorem dX7_put_39 : decode cX7_put 39 = .ok (.ireturn, 1) := by decide +kernel
def fX7_put (a1 : Int32) (a2 : Int32) (a3 : Int64) (h : Hp) : Option (Int32 × Hp) := br (a2 < 0) (some ((-6), h)) (gd (ib a1 4) (br (a2 < (gI h 39 0 (ix a1))) (gd (ib a1 4) (gd (ib ((a1 * 60) + a2) 240) (lb (sJ h 38 0 (ix ((a1 * 60) + a2)) (fX7_cut a3 (gI h 40 0 (ix a1)) h)) (fun h4 => some (0, h4))))) (some ((-6), h))))
set_option maxRecDepth 20000 in
theorem tX7_put {X : Cz} {a1 : Int32} {a2 : Int32} {a3 : Int64} {h hE : Hp} {rE : Int32} (hF : fX7_put a1 a2 a3 h = some (rE, hE)) : Ct X mX7_put true [zr 7 0, zi a1, zi a2, zj a3] h (some (zi rE)) hE := by
  refine Ct_of (by decide) (Nat.le_of_ble_eq_true rfl) (ls := [(0, zr 7 0), (1, zi a1), (2, zi a2), (3, zj a3)]) rfl ?_
  unfold fX7_put at hF
  refine v_iload_n (j := 2) dX7_put_0 rfl ?_
  refine v_if_lt dX7_put_1 (by decide : _ = ((14 : Nat) : Int)) (fun q => ?_) (fun q => ?_)
  · replace hF := brT q hF
    refine v_bipush (v := (-6)) dX7_put_14 (by decide) ?_
    obtain ⟨rfl, rfl⟩ := ret_use hF
    exact v_iret rfl dX7_put_16
  · replace hF := brF q hF
    refine v_iload_n (j := 2) dX7_put_4 rfl ?_
    refine v_aload_n (j := 0) dX7_put_5 rfl ?_
    refine v_getL (c := 7) rfl rfl rfl ly7_1 cz7 flX7_15 dX7_put_6 ?_
    refine v_iload_n (j := 1) dX7_put_9 rfl ?_
    replace hF := gd_use hF
    obtain ⟨q1, hF⟩ := hF
    refine v_iald rfl q1 dX7_put_10 ?_
    refine v_icmp_lt dX7_put_11 (by decide : _ = ((17 : Nat) : Int)) (fun q => ?_) (fun q => ?_)
    · replace hF := brT q hF
      refine v_aload_n (j := 0) dX7_put_17 rfl ?_
      refine v_getL (c := 7) rfl rfl rfl ly7_0 cz7 flX7_9 dX7_put_18 ?_
      refine v_iload_n (j := 1) dX7_put_21 rfl ?_
      refine v_bipush (v := 60) dX7_put_22 (by decide) ?_
      refine v_imul dX7_put_24 ?_
      refine v_iload_n (j := 2) dX7_put_25 rfl ?_
      refine v_iadd dX7_put_26 ?_
      refine v_lload_n (j := 3) dX7_put_27 rfl ?_
      refine v_aload_n (j := 0) dX7_put_28 rfl ?_
      refine v_getL (c := 7) rfl rfl rfl ly7_2 cz7 flX7_19 dX7_put_29 ?_
      refine v_iload_n (j := 1) dX7_put_32 rfl ?_
      replace hF := gd_use hF
      obtain ⟨q2, hF⟩ := hF
      refine v_iald rfl q2 dX7_put_33 ?_
      refine v_cS (hm := h) (av := [zj a3, zi (gI h 40 0 (ix a1))]) (st := [zi ((a1 * 60) + a2), zr 38 0]) (stn := [zj (fX7_cut a3 (gI h 40 0 (ix a1)) h), zi ((a1 * 60) + a2), zr 38 0]) (tX7_cut a3 (gI h 40 0 (ix a1)) h) lcX7_cut mlX7_45 sxX7_cut rfl ⟨by decide, by decide⟩ (Nat.le_of_ble_eq_true rfl) dX7_put_34 rfl rfl ?_
      replace hF := gd_use hF
      obtain ⟨q3, hF⟩ := hF
      refine v_last rfl q3 dX7_put_37 ?_
      refine v_toph fun h4 eh4 => ?_
      replace hF := lb_use eh4 hF
      clear eh4
      refine v_iconst (v := 0) dX7_put_38 (by decide) ?_
      obtain ⟨rfl, rfl⟩ := ret_use hF
      exact v_iret rfl dX7_put_39
    · replace hF := brF q hF
      refine v_bipush (v := (-6)) dX7_put_14 (by decide) ?_
      obtain ⟨rfl, rfl⟩ := ret_use hF
      exact v_iret rfl dX7_put_16
