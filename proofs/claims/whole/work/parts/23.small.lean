/-! functions and ties, printed by program (wip/gen/dec.py) -/
theorem dX2_init_0 : decode cX2_init 0 = .ok (.aload_n 0, 1) := by decide +kernel
theorem dX2_init_1 : decode cX2_init 1 = .ok (.invokespecial 1, 3) := by decide +kernel
theorem dX2_init_4 : decode cX2_init 4 = .ok (.aload_n 0, 1) := by decide +kernel
theorem dX2_init_5 : decode cX2_init 5 = .ok (.iload_n 1, 1) := by decide +kernel
theorem dX2_init_6 : decode cX2_init 6 = .ok (.putfield 7, 3) := by decide +kernel
theorem dX2_init_9 : decode cX2_init 9 = .ok (.aload_n 0, 1) := by decide +kernel
theorem dX2_init_10 : decode cX2_init 10 = .ok (.iload_n 2, 1) := by decide +kernel
theorem dX2_init_11 : decode cX2_init 11 = .ok (.putfield 13, 3) := by decide +kernel
theorem dX2_init_14 : decode cX2_init 14 = .ok (.aload_n 0, 1) := by decide +kernel
theorem dX2_init_15 : decode cX2_init 15 = .ok (.iload_n 3, 1) := by decide +kernel
theorem dX2_init_16 : decode cX2_init 16 = .ok (.putfield 16, 3) := by decide +kernel
theorem dX2_init_19 : decode cX2_init 19 = .ok (.return_, 1) := by decide +kernel
def fX2_init (a0 : Nat) (a1 : Int32) (a2 : Int32) (a3 : Int32) (h : Hp) : Option (Unit × Hp) := lb (sI h 2 a0 0 a1) (fun h1 => lb (sI h1 2 a0 1 a2) (fun h2 => lb (sI h2 2 a0 2 a3) (fun h3 => some ((), h3))))
set_option maxRecDepth 20000 in
theorem tX2_init {X : Cz} {b : Bool} {a0 : Nat} {a1 : Int32} {a2 : Int32} {a3 : Int32} {h hE : Hp} {rE : Unit} (hF : fX2_init a0 a1 a2 a3 h = some (rE, hE)) : Ct X mX2_init b [zr 2 a0, zi a1, zi a2, zi a3] h (none) hE := by
  refine Ct_of (by decide) (Nat.le_of_ble_eq_true rfl) (ls := [(0, zr 2 a0), (1, zi a1), (2, zi a2), (3, zi a3)]) rfl ?_
  unfold fX2_init at hF
  refine v_aload_n (j := 0) dX2_init_0 rfl ?_
  refine v_objI mlX2_1 oiI oiC (by decide) (Nat.le_of_ble_eq_true rfl) dX2_init_1 ?_
  refine v_aload_n (j := 0) dX2_init_4 rfl ?_
  refine v_iload_n (j := 1) dX2_init_5 rfl ?_
  refine v_putI (c := 2) rfl rfl (Nat.le_of_ble_eq_true rfl) cz2 flX2_7 dX2_init_6 ?_
  refine v_toph fun h1 eh1 => ?_
  replace hF := lb_use eh1 hF
  clear eh1
  refine v_aload_n (j := 0) dX2_init_9 rfl ?_
  refine v_iload_n (j := 2) dX2_init_10 rfl ?_
  refine v_putI (c := 2) rfl rfl (Nat.le_of_ble_eq_true rfl) cz2 flX2_13 dX2_init_11 ?_
  refine v_toph fun h2 eh2 => ?_
  replace hF := lb_use eh2 hF
  clear eh2
  refine v_aload_n (j := 0) dX2_init_14 rfl ?_
  refine v_iload_n (j := 3) dX2_init_15 rfl ?_
  refine v_putI (c := 2) rfl rfl (Nat.le_of_ble_eq_true rfl) cz2 flX2_16 dX2_init_16 ?_
  refine v_toph fun h3 eh3 => ?_
  replace hF := lb_use eh3 hF
  clear eh3
  cases hF
  exact v_vret rfl dX2_init_19
theorem dX5_init_0 : decode cX5_init 0 = .ok (.aload_n 0, 1) := by decide +kernel
theorem dX5_init_1 : decode cX5_init 1 = .ok (.invokespecial 3, 3) := by decide +kernel
theorem dX5_init_4 : decode cX5_init 4 = .ok (.aload_n 0, 1) := by decide +kernel
theorem dX5_init_5 : decode cX5_init 5 = .ok (.sipush 200, 3) := by decide +kernel
theorem dX5_init_8 : decode cX5_init 8 = .ok (.putfield 9, 3) := by decide +kernel
theorem dX5_init_11 : decode cX5_init 11 = .ok (.aload_n 0, 1) := by decide +kernel
theorem dX5_init_12 : decode cX5_init 12 = .ok (.iload_n 1, 1) := by decide +kernel
theorem dX5_init_13 : decode cX5_init 13 = .ok (.putfield 15, 3) := by decide +kernel
theorem dX5_init_16 : decode cX5_init 16 = .ok (.aload_n 0, 1) := by decide +kernel
theorem dX5_init_17 : decode cX5_init 17 = .ok (.iload_n 2, 1) := by decide +kernel
theorem dX5_init_18 : decode cX5_init 18 = .ok (.putfield 18, 3) := by decide +kernel
theorem dX5_init_21 : decode cX5_init 21 = .ok (.aload_n 0, 1) := by decide +kernel
theorem dX5_init_22 : decode cX5_init 22 = .ok (.iload_n 3, 1) := by decide +kernel
theorem dX5_init_23 : decode cX5_init 23 = .ok (.putfield 21, 3) := by decide +kernel
theorem dX5_init_26 : decode cX5_init 26 = .ok (.aload_n 0, 1) := by decide +kernel
theorem dX5_init_27 : decode cX5_init 27 = .ok (.iload 4, 2) := by decide +kernel
theorem dX5_init_29 : decode cX5_init 29 = .ok (.putfield 24, 3) := by decide +kernel
theorem dX5_init_32 : decode cX5_init 32 = .ok (.aload_n 0, 1) := by decide +kernel
theorem dX5_init_33 : decode cX5_init 33 = .ok (.iload 5, 2) := by decide +kernel
theorem dX5_init_35 : decode cX5_init 35 = .ok (.putfield 27, 3) := by decide +kernel
theorem dX5_init_38 : decode cX5_init 38 = .ok (.return_, 1) := by decide +kernel
def fX5_init (a0 : Nat) (a1 : Int32) (a2 : Int32) (a3 : Int32) (a4 : Int32) (a5 : Int32) (h : Hp) : Option (Unit × Hp) := lb (sI h 5 a0 12 200) (fun h1 => lb (sI h1 5 a0 0 a1) (fun h2 => lb (sI h2 5 a0 1 a2) (fun h3 => lb (sI h3 5 a0 2 a3) (fun h4 => lb (sI h4 5 a0 3 a4) (fun h5 => lb (sI h5 5 a0 4 a5) (fun h6 => some ((), h6)))))))
set_option maxRecDepth 20000 in
theorem tX5_init {X : Cz} {b : Bool} {a0 : Nat} {a1 : Int32} {a2 : Int32} {a3 : Int32} {a4 : Int32} {a5 : Int32} {h hE : Hp} {rE : Unit} (hF : fX5_init a0 a1 a2 a3 a4 a5 h = some (rE, hE)) : Ct X mX5_init b [zr 5 a0, zi a1, zi a2, zi a3, zi a4, zi a5] h (none) hE := by
  refine Ct_of (by decide) (Nat.le_of_ble_eq_true rfl) (ls := [(0, zr 5 a0), (1, zi a1), (2, zi a2), (3, zi a3), (4, zi a4), (5, zi a5)]) rfl ?_
  unfold fX5_init at hF
  refine v_aload_n (j := 0) dX5_init_0 rfl ?_
  refine v_objI mlX5_3 oiI oiC (by decide) (Nat.le_of_ble_eq_true rfl) dX5_init_1 ?_
  refine v_aload_n (j := 0) dX5_init_4 rfl ?_
  refine v_sipush (v := 200) dX5_init_5 (by decide) ?_
  refine v_putI (c := 5) rfl rfl (Nat.le_of_ble_eq_true rfl) cz5 flX5_9 dX5_init_8 ?_
  refine v_toph fun h1 eh1 => ?_
  replace hF := lb_use eh1 hF
  clear eh1
  refine v_aload_n (j := 0) dX5_init_11 rfl ?_
  refine v_iload_n (j := 1) dX5_init_12 rfl ?_
  refine v_putFI (c := 5) rfl rfl (Nat.le_of_ble_eq_true rfl) cz5 flX5_15 rfl (fun q hq => by cases hq; rfl) dX5_init_13 ?_
  refine v_toph fun h2 eh2 => ?_
  replace hF := lb_use eh2 hF
  clear eh2
  refine v_aload_n (j := 0) dX5_init_16 rfl ?_
  refine v_iload_n (j := 2) dX5_init_17 rfl ?_
  refine v_putFI (c := 5) rfl rfl (Nat.le_of_ble_eq_true rfl) cz5 flX5_18 rfl (fun q hq => by cases hq; rfl) dX5_init_18 ?_
  refine v_toph fun h3 eh3 => ?_
  replace hF := lb_use eh3 hF
  clear eh3
  refine v_aload_n (j := 0) dX5_init_21 rfl ?_
  refine v_iload_n (j := 3) dX5_init_22 rfl ?_
  refine v_putFI (c := 5) rfl rfl (Nat.le_of_ble_eq_true rfl) cz5 flX5_21 rfl (fun q hq => by cases hq; rfl) dX5_init_23 ?_
  refine v_toph fun h4 eh4 => ?_
  replace hF := lb_use eh4 hF
  clear eh4
  refine v_aload_n (j := 0) dX5_init_26 rfl ?_
  refine v_iload (j := 4) dX5_init_27 rfl ?_
  refine v_putFI (c := 5) rfl rfl (Nat.le_of_ble_eq_true rfl) cz5 flX5_24 rfl (fun q hq => by cases hq; rfl) dX5_init_29 ?_
  refine v_toph fun h5 eh5 => ?_
  replace hF := lb_use eh5 hF
  clear eh5
  refine v_aload_n (j := 0) dX5_init_32 rfl ?_
  refine v_iload (j := 5) dX5_init_33 rfl ?_
  refine v_putFI (c := 5) rfl rfl (Nat.le_of_ble_eq_true rfl) cz5 flX5_27 rfl (fun q hq => by cases hq; rfl) dX5_init_35 ?_
  refine v_toph fun h6 eh6 => ?_
  replace hF := lb_use eh6 hF
  clear eh6
  cases hF
  exact v_vret rfl dX5_init_38
theorem dX5_setYears_0 : decode cX5_setYears 0 = .ok (.aload_n 0, 1) := by decide +kernel
theorem dX5_setYears_1 : decode cX5_setYears 1 = .ok (.iload_n 1, 1) := by decide +kernel
theorem dX5_setYears_2 : decode cX5_setYears 2 = .ok (.putfield 30, 3) := by decide +kernel
theorem dX5_setYears_5 : decode cX5_setYears 5 = .ok (.aload_n 0, 1) := by decide +kernel
theorem dX5_setYears_6 : decode cX5_setYears 6 = .ok (.iload_n 2, 1) := by decide +kernel
theorem dX5_setYears_7 : decode cX5_setYears 7 = .ok (.putfield 33, 3) := by decide +kernel
theorem dX5_setYears_10 : decode cX5_setYears 10 = .ok (.aload_n 0, 1) := by decide +kernel
theorem dX5_setYears_11 : decode cX5_setYears 11 = .ok (.iload_n 3, 1) := by decide +kernel
theorem dX5_setYears_12 : decode cX5_setYears 12 = .ok (.putfield 36, 3) := by decide +kernel
theorem dX5_setYears_15 : decode cX5_setYears 15 = .ok (.aload_n 0, 1) := by decide +kernel
theorem dX5_setYears_16 : decode cX5_setYears 16 = .ok (.iload_n 3, 1) := by decide +kernel
theorem dX5_setYears_17 : decode cX5_setYears 17 = .ok (.putfield 39, 3) := by decide +kernel
theorem dX5_setYears_20 : decode cX5_setYears 20 = .ok (.aload_n 0, 1) := by decide +kernel
theorem dX5_setYears_21 : decode cX5_setYears 21 = .ok (.iload 4, 2) := by decide +kernel
theorem dX5_setYears_23 : decode cX5_setYears 23 = .ok (.putfield 42, 3) := by decide +kernel
theorem dX5_setYears_26 : decode cX5_setYears 26 = .ok (.return_, 1) := by decide +kernel
def fX5_setYears (a0 : Nat) (a1 : Int32) (a2 : Int32) (a3 : Int32) (a4 : Int32) (h : Hp) : Option (Unit × Hp) := lb (sI h 5 a0 5 a1) (fun h1 => lb (sI h1 5 a0 6 a2) (fun h2 => lb (sI h2 5 a0 7 a3) (fun h3 => lb (sI h3 5 a0 11 a3) (fun h4 => lb (sI h4 5 a0 8 a4) (fun h5 => some ((), h5))))))
set_option maxRecDepth 20000 in
theorem tX5_setYears {X : Cz} {a0 : Nat} {a1 : Int32} {a2 : Int32} {a3 : Int32} {a4 : Int32} {h hE : Hp} {rE : Unit} (hF : fX5_setYears a0 a1 a2 a3 a4 h = some (rE, hE)) : Ct X mX5_setYears true [zr 5 a0, zi a1, zi a2, zi a3, zi a4] h (none) hE := by
  refine Ct_of (by decide) (Nat.le_of_ble_eq_true rfl) (ls := [(0, zr 5 a0), (1, zi a1), (2, zi a2), (3, zi a3), (4, zi a4)]) rfl ?_
  unfold fX5_setYears at hF
  refine v_aload_n (j := 0) dX5_setYears_0 rfl ?_
  refine v_iload_n (j := 1) dX5_setYears_1 rfl ?_
  refine v_putI (c := 5) rfl rfl (Nat.le_of_ble_eq_true rfl) cz5 flX5_30 dX5_setYears_2 ?_
  refine v_toph fun h1 eh1 => ?_
  replace hF := lb_use eh1 hF
  clear eh1
  refine v_aload_n (j := 0) dX5_setYears_5 rfl ?_
  refine v_iload_n (j := 2) dX5_setYears_6 rfl ?_
  refine v_putI (c := 5) rfl rfl (Nat.le_of_ble_eq_true rfl) cz5 flX5_33 dX5_setYears_7 ?_
  refine v_toph fun h2 eh2 => ?_
  replace hF := lb_use eh2 hF
  clear eh2
  refine v_aload_n (j := 0) dX5_setYears_10 rfl ?_
  refine v_iload_n (j := 3) dX5_setYears_11 rfl ?_
  refine v_putI (c := 5) rfl rfl (Nat.le_of_ble_eq_true rfl) cz5 flX5_36 dX5_setYears_12 ?_
  refine v_toph fun h3 eh3 => ?_
  replace hF := lb_use eh3 hF
  clear eh3
  refine v_aload_n (j := 0) dX5_setYears_15 rfl ?_
  refine v_iload_n (j := 3) dX5_setYears_16 rfl ?_
  refine v_putI (c := 5) rfl rfl (Nat.le_of_ble_eq_true rfl) cz5 flX5_39 dX5_setYears_17 ?_
  refine v_toph fun h4 eh4 => ?_
  replace hF := lb_use eh4 hF
  clear eh4
  refine v_aload_n (j := 0) dX5_setYears_20 rfl ?_
  refine v_iload (j := 4) dX5_setYears_21 rfl ?_
  refine v_putI (c := 5) rfl rfl (Nat.le_of_ble_eq_true rfl) cz5 flX5_42 dX5_setYears_23 ?_
  refine v_toph fun h5 eh5 => ?_
  replace hF := lb_use eh5 hF
  clear eh5
  cases hF
  exact v_vret rfl dX5_setYears_26
theorem dX5_endAhead_0 : decode cX5_endAhead 0 = .ok (.aload_n 0, 1) := by decide +kernel
theorem dX5_endAhead_1 : decode cX5_endAhead 1 = .ok (.iload_n 1, 1) := by decide +kernel
theorem dX5_endAhead_2 : decode cX5_endAhead 2 = .ok (.iconst 1, 1) := by decide +kernel
theorem dX5_endAhead_3 : decode cX5_endAhead 3 = .ok (.isub, 1) := by decide +kernel
theorem dX5_endAhead_4 : decode cX5_endAhead 4 = .ok (.putfield 36, 3) := by decide +kernel
theorem dX5_endAhead_7 : decode cX5_endAhead 7 = .ok (.aload_n 0, 1) := by decide +kernel
theorem dX5_endAhead_8 : decode cX5_endAhead 8 = .ok (.iload_n 1, 1) := by decide +kernel
theorem dX5_endAhead_9 : decode cX5_endAhead 9 = .ok (.putfield 9, 3) := by decide +kernel
theorem dX5_endAhead_12 : decode cX5_endAhead 12 = .ok (.return_, 1) := by decide +kernel
def fX5_endAhead (a0 : Nat) (a1 : Int32) (h : Hp) : Option (Unit × Hp) := lb (sI h 5 a0 7 (a1 - 1)) (fun h1 => lb (sI h1 5 a0 12 a1) (fun h2 => some ((), h2)))
set_option maxRecDepth 20000 in
theorem tX5_endAhead {X : Cz} {a0 : Nat} {a1 : Int32} {h hE : Hp} {rE : Unit} (hF : fX5_endAhead a0 a1 h = some (rE, hE)) : Ct X mX5_endAhead true [zr 5 a0, zi a1] h (none) hE := by
  refine Ct_of (by decide) (Nat.le_of_ble_eq_true rfl) (ls := [(0, zr 5 a0), (1, zi a1)]) rfl ?_
  unfold fX5_endAhead at hF
  refine v_aload_n (j := 0) dX5_endAhead_0 rfl ?_
  refine v_iload_n (j := 1) dX5_endAhead_1 rfl ?_
  refine v_iconst (v := 1) dX5_endAhead_2 (by decide) ?_
  refine v_isub dX5_endAhead_3 ?_
  refine v_putI (c := 5) rfl rfl (Nat.le_of_ble_eq_true rfl) cz5 flX5_36 dX5_endAhead_4 ?_
  refine v_toph fun h1 eh1 => ?_
  replace hF := lb_use eh1 hF
  clear eh1
  refine v_aload_n (j := 0) dX5_endAhead_7 rfl ?_
  refine v_iload_n (j := 1) dX5_endAhead_8 rfl ?_
  refine v_putI (c := 5) rfl rfl (Nat.le_of_ble_eq_true rfl) cz5 flX5_9 dX5_endAhead_9 ?_
  refine v_toph fun h2 eh2 => ?_
  replace hF := lb_use eh2 hF
  clear eh2
  cases hF
  exact v_vret rfl dX5_endAhead_12
theorem dX5_isOn_0 : decode cX5_isOn 0 = .ok (.aload_n 0, 1) := by decide +kernel
theorem dX5_isOn_1 : decode cX5_isOn 1 = .ok (.getfield 21, 3) := by decide +kernel
theorem dX5_isOn_4 : decode cX5_isOn 4 = .ok (.iload_n 1, 1) := by decide +kernel
theorem dX5_isOn_5 : decode cX5_isOn 5 = .ok (.if_icmp .ne 28, 3) := by decide +kernel
theorem dX5_isOn_8 : decode cX5_isOn 8 = .ok (.iload_n 2, 1) := by decide +kernel
theorem dX5_isOn_9 : decode cX5_isOn 9 = .ok (.aload_n 0, 1) := by decide +kernel
theorem dX5_isOn_10 : decode cX5_isOn 10 = .ok (.getfield 24, 3) := by decide +kernel
theorem dX5_isOn_13 : decode cX5_isOn 13 = .ok (.if_icmp .lt 20, 3) := by decide +kernel
theorem dX5_isOn_16 : decode cX5_isOn 16 = .ok (.iload_n 2, 1) := by decide +kernel
theorem dX5_isOn_17 : decode cX5_isOn 17 = .ok (.aload_n 0, 1) := by decide +kernel
theorem dX5_isOn_18 : decode cX5_isOn 18 = .ok (.getfield 24, 3) := by decide +kernel
theorem dX5_isOn_21 : decode cX5_isOn 21 = .ok (.aload_n 0, 1) := by decide +kernel
theorem dX5_isOn_22 : decode cX5_isOn 22 = .ok (.getfield 27, 3) := by decide +kernel
theorem dX5_isOn_25 : decode cX5_isOn 25 = .ok (.iadd, 1) := by decide +kernel
theorem dX5_isOn_26 : decode cX5_isOn 26 = .ok (.if_icmp .ge 7, 3) := by decide +kernel
theorem dX5_isOn_29 : decode cX5_isOn 29 = .ok (.iconst 1, 1) := by decide +kernel
theorem dX5_isOn_30 : decode cX5_isOn 30 = .ok (.goto 4, 3) := by decide +kernel
theorem dX5_isOn_33 : decode cX5_isOn 33 = .ok (.iconst 0, 1) := by decide +kernel
theorem dX5_isOn_34 : decode cX5_isOn 34 = .ok (.ireturn, 1) := by decide +kernel
def fX5_isOn (a0 : Nat) (a1 : Int32) (a2 : Int32) (h : Hp) : Int32 := br ((gI h 5 a0 2) = a1) (br (a2 < (gI h 5 a0 3)) (0) (br (((gI h 5 a0 3) + (gI h 5 a0 4)) ≤ a2) (0) (1))) (0)
set_option maxRecDepth 20000 in
theorem tX5_isOn {X : Cz} (a0 : Nat) (a1 : Int32) (a2 : Int32) (h : Hp) : Ct X mX5_isOn true [zr 5 a0, zi a1, zi a2] h (some (zi (fX5_isOn a0 a1 a2 h))) h := by
  refine Ct_of (by decide) (Nat.le_of_ble_eq_true rfl) (ls := [(0, zr 5 a0), (1, zi a1), (2, zi a2)]) rfl ?_
  obtain ⟨rE, hF⟩ : ∃ z, fX5_isOn a0 a1 a2 h = z := ⟨_, rfl⟩
  rw [hF]
  unfold fX5_isOn at hF
  refine v_aload_n (j := 0) dX5_isOn_0 rfl ?_
  refine v_getI (c := 5) rfl (Or.inl rfl) cz5 flX5_21 dX5_isOn_1 ?_
  refine v_iload_n (j := 1) dX5_isOn_4 rfl ?_
  refine v_icmp_ne dX5_isOn_5 (by decide : _ = ((33 : Nat) : Int)) (fun q => ?_) (fun q => ?_)
  · replace hF := brF q hF
    refine v_iconst (v := 0) dX5_isOn_33 (by decide) ?_
    subst hF
    exact v_zret rfl (Or.inl rfl) dX5_isOn_34
  · replace hF := brT (Decidable.not_not.mp q) hF
    refine v_iload_n (j := 2) dX5_isOn_8 rfl ?_
    refine v_aload_n (j := 0) dX5_isOn_9 rfl ?_
    refine v_getI (c := 5) rfl (Or.inl rfl) cz5 flX5_24 dX5_isOn_10 ?_
    refine v_icmp_lt dX5_isOn_13 (by decide : _ = ((33 : Nat) : Int)) (fun q => ?_) (fun q => ?_)
    · replace hF := brT q hF
      refine v_iconst (v := 0) dX5_isOn_33 (by decide) ?_
      subst hF
      exact v_zret rfl (Or.inl rfl) dX5_isOn_34
    · replace hF := brF q hF
      refine v_iload_n (j := 2) dX5_isOn_16 rfl ?_
      refine v_aload_n (j := 0) dX5_isOn_17 rfl ?_
      refine v_getI (c := 5) rfl (Or.inl rfl) cz5 flX5_24 dX5_isOn_18 ?_
      refine v_aload_n (j := 0) dX5_isOn_21 rfl ?_
      refine v_getI (c := 5) rfl (Or.inl rfl) cz5 flX5_27 dX5_isOn_22 ?_
      refine v_iadd dX5_isOn_25 ?_
      refine v_icmp_ge dX5_isOn_26 (by decide : _ = ((33 : Nat) : Int)) (fun q => ?_) (fun q => ?_)
      · replace hF := brT q hF
        refine v_iconst (v := 0) dX5_isOn_33 (by decide) ?_
        subst hF
        exact v_zret rfl (Or.inl rfl) dX5_isOn_34
      · replace hF := brF q hF
        refine v_iconst (v := 1) dX5_isOn_29 (by decide) ?_
        refine v_goto (tgt := 34) dX5_isOn_30 (by decide) ?_
        subst hF
        exact v_zret rfl (Or.inr rfl) dX5_isOn_34
theorem zX5_isOn (a0 : Nat) (a1 : Int32) (a2 : Int32) (h : Hp) : fX5_isOn a0 a1 a2 h = 0 ∨ fX5_isOn a0 a1 a2 h = 1 := by
  unfold fX5_isOn
  try unfold br
  try unfold lb
  try dsimp only
  repeat' split
  all_goals first | exact Or.inl rfl | exact Or.inr rfl
theorem dX5_isFor_0 : decode cX5_isFor 0 = .ok (.iload_n 2, 1) := by decide +kernel
theorem dX5_isFor_1 : decode cX5_isFor 1 = .ok (.aload_n 0, 1) := by decide +kernel
theorem dX5_isFor_2 : decode cX5_isFor 2 = .ok (.getfield 9, 3) := by decide +kernel
theorem dX5_isFor_5 : decode cX5_isFor 5 = .ok (.if_icmp .lt 10, 3) := by decide +kernel
theorem dX5_isFor_8 : decode cX5_isFor 8 = .ok (.aload_n 0, 1) := by decide +kernel
theorem dX5_isFor_9 : decode cX5_isFor 9 = .ok (.getfield 36, 3) := by decide +kernel
theorem dX5_isFor_12 : decode cX5_isFor 12 = .ok (.goto 7, 3) := by decide +kernel
theorem dX5_isFor_15 : decode cX5_isFor 15 = .ok (.aload_n 0, 1) := by decide +kernel
theorem dX5_isFor_16 : decode cX5_isFor 16 = .ok (.getfield 39, 3) := by decide +kernel
theorem dX5_isFor_19 : decode cX5_isFor 19 = .ok (.istore_n 3, 1) := by decide +kernel
theorem dX5_isFor_20 : decode cX5_isFor 20 = .ok (.aload_n 0, 1) := by decide +kernel
theorem dX5_isFor_21 : decode cX5_isFor 21 = .ok (.getfield 42, 3) := by decide +kernel
theorem dX5_isFor_24 : decode cX5_isFor 24 = .ok (.iload_n 2, 1) := by decide +kernel
theorem dX5_isFor_25 : decode cX5_isFor 25 = .ok (.if_icmp .gt 20, 3) := by decide +kernel
theorem dX5_isFor_28 : decode cX5_isFor 28 = .ok (.aload_n 0, 1) := by decide +kernel
theorem dX5_isFor_29 : decode cX5_isFor 29 = .ok (.getfield 33, 3) := by decide +kernel
theorem dX5_isFor_32 : decode cX5_isFor 32 = .ok (.iload_n 1, 1) := by decide +kernel
theorem dX5_isFor_33 : decode cX5_isFor 33 = .ok (.if_icmp .gt 12, 3) := by decide +kernel
theorem dX5_isFor_36 : decode cX5_isFor 36 = .ok (.iload_n 1, 1) := by decide +kernel
theorem dX5_isFor_37 : decode cX5_isFor 37 = .ok (.iload_n 3, 1) := by decide +kernel
theorem dX5_isFor_38 : decode cX5_isFor 38 = .ok (.if_icmp .gt 7, 3) := by decide +kernel
theorem dX5_isFor_41 : decode cX5_isFor 41 = .ok (.iconst 1, 1) := by decide +kernel
theorem dX5_isFor_42 : decode cX5_isFor 42 = .ok (.goto 4, 3) := by decide +kernel
theorem dX5_isFor_45 : decode cX5_isFor 45 = .ok (.iconst 0, 1) := by decide +kernel
theorem dX5_isFor_46 : decode cX5_isFor 46 = .ok (.ireturn, 1) := by decide +kernel
def fX5_isFor (a0 : Nat) (a1 : Int32) (a2 : Int32) (h : Hp) : Int32 := lb (fun (x2 : Int32) => br (a2 < (gI h 5 a0 8)) (0) (br (a1 < (gI h 5 a0 6)) (0) (br (x2 < a1) (0) (1)))) (fun j1 => br (a2 < (gI h 5 a0 12)) (j1 (gI h 5 a0 11)) (j1 (gI h 5 a0 7)))
set_option maxRecDepth 20000 in
theorem tX5_isFor {X : Cz} (a0 : Nat) (a1 : Int32) (a2 : Int32) (h : Hp) : Ct X mX5_isFor true [zr 5 a0, zi a1, zi a2] h (some (zi (fX5_isFor a0 a1 a2 h))) h := by
  refine Ct_of (by decide) (Nat.le_of_ble_eq_true rfl) (ls := [(0, zr 5 a0), (1, zi a1), (2, zi a2)]) rfl ?_
  obtain ⟨rE, hF⟩ : ∃ z, fX5_isFor a0 a1 a2 h = z := ⟨_, rfl⟩
  rw [hF]
  unfold fX5_isFor at hF
  refine v_iload_n (j := 2) dX5_isFor_0 rfl ?_
  refine v_aload_n (j := 0) dX5_isFor_1 rfl ?_
  refine v_getI (c := 5) rfl (Or.inl rfl) cz5 flX5_9 dX5_isFor_2 ?_
  replace hF := lb_ex hF
  obtain ⟨j1, ej1, hF⟩ := hF
  have j1V : ∀ (x2 : Int32), j1 x2 = rE → V X mX5_isFor true h 19 [(0, zr 5 a0), (1, zi a1), (2, zi a2)] [zi x2] h (some (zi rE)) h := by
    intro x2 hF
    subst ej1
    refine v_istore_n (ls' := [(3, zi x2), (0, zr 5 a0), (1, zi a1), (2, zi a2)]) dX5_isFor_19 (by decide) rfl ?_
    refine v_aload_n (j := 1) dX5_isFor_20 rfl ?_
    refine v_getI (c := 5) rfl (Or.inl rfl) cz5 flX5_42 dX5_isFor_21 ?_
    refine v_iload_n (j := 3) dX5_isFor_24 rfl ?_
    refine v_icmp_gt dX5_isFor_25 (by decide : _ = ((45 : Nat) : Int)) (fun q => ?_) (fun q => ?_)
    · replace hF := brT q hF
      refine v_iconst (v := 0) dX5_isFor_45 (by decide) ?_
      subst hF
      exact v_zret rfl (Or.inl rfl) dX5_isFor_46
    · replace hF := brF q hF
      refine v_aload_n (j := 1) dX5_isFor_28 rfl ?_
      refine v_getI (c := 5) rfl (Or.inl rfl) cz5 flX5_33 dX5_isFor_29 ?_
      refine v_iload_n (j := 2) dX5_isFor_32 rfl ?_
      refine v_icmp_gt dX5_isFor_33 (by decide : _ = ((45 : Nat) : Int)) (fun q => ?_) (fun q => ?_)
      · replace hF := brT q hF
        refine v_iconst (v := 0) dX5_isFor_45 (by decide) ?_
        subst hF
        exact v_zret rfl (Or.inl rfl) dX5_isFor_46
      · replace hF := brF q hF
        refine v_iload_n (j := 2) dX5_isFor_36 rfl ?_
        refine v_iload_n (j := 0) dX5_isFor_37 rfl ?_
        refine v_icmp_gt dX5_isFor_38 (by decide : _ = ((45 : Nat) : Int)) (fun q => ?_) (fun q => ?_)
        · replace hF := brT q hF
          refine v_iconst (v := 0) dX5_isFor_45 (by decide) ?_
          subst hF
          exact v_zret rfl (Or.inl rfl) dX5_isFor_46
        · replace hF := brF q hF
          refine v_iconst (v := 1) dX5_isFor_41 (by decide) ?_
          refine v_goto (tgt := 46) dX5_isFor_42 (by decide) ?_
          subst hF
          exact v_zret rfl (Or.inr rfl) dX5_isFor_46
  clear ej1
  refine v_icmp_lt dX5_isFor_5 (by decide : _ = ((15 : Nat) : Int)) (fun q => ?_) (fun q => ?_)
  · replace hF := brT q hF
    refine v_aload_n (j := 0) dX5_isFor_15 rfl ?_
    refine v_getI (c := 5) rfl (Or.inl rfl) cz5 flX5_39 dX5_isFor_16 ?_
    exact j1V (gI h 5 a0 11) hF
  · replace hF := brF q hF
    refine v_aload_n (j := 0) dX5_isFor_8 rfl ?_
    refine v_getI (c := 5) rfl (Or.inl rfl) cz5 flX5_36 dX5_isFor_9 ?_
    refine v_goto (tgt := 19) dX5_isFor_12 (by decide) ?_
    exact j1V (gI h 5 a0 7) hF
theorem zX5_isFor (a0 : Nat) (a1 : Int32) (a2 : Int32) (h : Hp) : fX5_isFor a0 a1 a2 h = 0 ∨ fX5_isFor a0 a1 a2 h = 1 := by
  unfold fX5_isFor
  try unfold br
  try unfold lb
  try dsimp only
  repeat' split
  all_goals first | exact Or.inl rfl | exact Or.inr rfl
theorem dX5_isStillHeldBy_0 : decode cX5_isStillHeldBy 0 = .ok (.aload_n 0, 1) := by decide +kernel
theorem dX5_isStillHeldBy_1 : decode cX5_isStillHeldBy 1 = .ok (.getfield 15, 3) := by decide +kernel
theorem dX5_isStillHeldBy_4 : decode cX5_isStillHeldBy 4 = .ok (.iconst 1, 1) := by decide +kernel
theorem dX5_isStillHeldBy_5 : decode cX5_isStillHeldBy 5 = .ok (.if_icmp .eq 23, 3) := by decide +kernel
theorem dX5_isStillHeldBy_8 : decode cX5_isStillHeldBy 8 = .ok (.aload_n 0, 1) := by decide +kernel
theorem dX5_isStillHeldBy_9 : decode cX5_isStillHeldBy 9 = .ok (.getfield 18, 3) := by decide +kernel
theorem dX5_isStillHeldBy_12 : decode cX5_isStillHeldBy 12 = .ok (.iload_n 1, 1) := by decide +kernel
theorem dX5_isStillHeldBy_13 : decode cX5_isStillHeldBy 13 = .ok (.if_icmp .ne 15, 3) := by decide +kernel
theorem dX5_isStillHeldBy_16 : decode cX5_isStillHeldBy 16 = .ok (.aload_n 0, 1) := by decide +kernel
theorem dX5_isStillHeldBy_17 : decode cX5_isStillHeldBy 17 = .ok (.getfield 36, 3) := by decide +kernel
theorem dX5_isStillHeldBy_20 : decode cX5_isStillHeldBy 20 = .ok (.iload_n 2, 1) := by decide +kernel
theorem dX5_isStillHeldBy_21 : decode cX5_isStillHeldBy 21 = .ok (.if_icmp .lt 7, 3) := by decide +kernel
theorem dX5_isStillHeldBy_24 : decode cX5_isStillHeldBy 24 = .ok (.iconst 1, 1) := by decide +kernel
theorem dX5_isStillHeldBy_25 : decode cX5_isStillHeldBy 25 = .ok (.goto 4, 3) := by decide +kernel
theorem dX5_isStillHeldBy_28 : decode cX5_isStillHeldBy 28 = .ok (.iconst 0, 1) := by decide +kernel
theorem dX5_isStillHeldBy_29 : decode cX5_isStillHeldBy 29 = .ok (.ireturn, 1) := by decide +kernel
def fX5_isStillHeldBy (a0 : Nat) (a1 : Int32) (a2 : Int32) (h : Hp) : Int32 := br ((gI h 5 a0 0) = 1) (0) (br ((gI h 5 a0 1) = a1) (br ((gI h 5 a0 7) < a2) (0) (1)) (0))
set_option maxRecDepth 20000 in
theorem tX5_isStillHeldBy {X : Cz} (a0 : Nat) (a1 : Int32) (a2 : Int32) (h : Hp) : Ct X mX5_isStillHeldBy true [zr 5 a0, zi a1, zi a2] h (some (zi (fX5_isStillHeldBy a0 a1 a2 h))) h := by
  refine Ct_of (by decide) (Nat.le_of_ble_eq_true rfl) (ls := [(0, zr 5 a0), (1, zi a1), (2, zi a2)]) rfl ?_
  obtain ⟨rE, hF⟩ : ∃ z, fX5_isStillHeldBy a0 a1 a2 h = z := ⟨_, rfl⟩
  rw [hF]
  unfold fX5_isStillHeldBy at hF
  refine v_aload_n (j := 0) dX5_isStillHeldBy_0 rfl ?_
  refine v_getI (c := 5) rfl (Or.inl rfl) cz5 flX5_15 dX5_isStillHeldBy_1 ?_
  refine v_iconst (v := 1) dX5_isStillHeldBy_4 (by decide) ?_
  refine v_icmp_eq dX5_isStillHeldBy_5 (by decide : _ = ((28 : Nat) : Int)) (fun q => ?_) (fun q => ?_)
  · replace hF := brT q hF
    refine v_iconst (v := 0) dX5_isStillHeldBy_28 (by decide) ?_
    subst hF
    exact v_zret rfl (Or.inl rfl) dX5_isStillHeldBy_29
  · replace hF := brF q hF
    refine v_aload_n (j := 0) dX5_isStillHeldBy_8 rfl ?_
    refine v_getI (c := 5) rfl (Or.inl rfl) cz5 flX5_18 dX5_isStillHeldBy_9 ?_
    refine v_iload_n (j := 1) dX5_isStillHeldBy_12 rfl ?_
    refine v_icmp_ne dX5_isStillHeldBy_13 (by decide : _ = ((28 : Nat) : Int)) (fun q => ?_) (fun q => ?_)
    · replace hF := brF q hF
      refine v_iconst (v := 0) dX5_isStillHeldBy_28 (by decide) ?_
      subst hF
      exact v_zret rfl (Or.inl rfl) dX5_isStillHeldBy_29
    · replace hF := brT (Decidable.not_not.mp q) hF
      refine v_aload_n (j := 0) dX5_isStillHeldBy_16 rfl ?_
      refine v_getI (c := 5) rfl (Or.inl rfl) cz5 flX5_36 dX5_isStillHeldBy_17 ?_
      refine v_iload_n (j := 2) dX5_isStillHeldBy_20 rfl ?_
      refine v_icmp_lt dX5_isStillHeldBy_21 (by decide : _ = ((28 : Nat) : Int)) (fun q => ?_) (fun q => ?_)
      · replace hF := brT q hF
        refine v_iconst (v := 0) dX5_isStillHeldBy_28 (by decide) ?_
        subst hF
        exact v_zret rfl (Or.inl rfl) dX5_isStillHeldBy_29
      · replace hF := brF q hF
        refine v_iconst (v := 1) dX5_isStillHeldBy_24 (by decide) ?_
        refine v_goto (tgt := 29) dX5_isStillHeldBy_25 (by decide) ?_
        subst hF
        exact v_zret rfl (Or.inr rfl) dX5_isStillHeldBy_29
theorem zX5_isStillHeldBy (a0 : Nat) (a1 : Int32) (a2 : Int32) (h : Hp) : fX5_isStillHeldBy a0 a1 a2 h = 0 ∨ fX5_isStillHeldBy a0 a1 a2 h = 1 := by
  unfold fX5_isStillHeldBy
  try unfold br
  try unfold lb
  try dsimp only
  repeat' split
  all_goals first | exact Or.inl rfl | exact Or.inr rfl
theorem dX5_isBetterThan_0 : decode cX5_isBetterThan 0 = .ok (.aload_n 0, 1) := by decide +kernel
theorem dX5_isBetterThan_1 : decode cX5_isBetterThan 1 = .ok (.getfield 15, 3) := by decide +kernel
theorem dX5_isBetterThan_4 : decode cX5_isBetterThan 4 = .ok (.aload_n 1, 1) := by decide +kernel
theorem dX5_isBetterThan_5 : decode cX5_isBetterThan 5 = .ok (.getfield 15, 3) := by decide +kernel
theorem dX5_isBetterThan_8 : decode cX5_isBetterThan 8 = .ok (.if_icmp .eq 22, 3) := by decide +kernel
theorem dX5_isBetterThan_11 : decode cX5_isBetterThan 11 = .ok (.aload_n 0, 1) := by decide +kernel
theorem dX5_isBetterThan_12 : decode cX5_isBetterThan 12 = .ok (.getfield 15, 3) := by decide +kernel
theorem dX5_isBetterThan_15 : decode cX5_isBetterThan 15 = .ok (.aload_n 1, 1) := by decide +kernel
theorem dX5_isBetterThan_16 : decode cX5_isBetterThan 16 = .ok (.getfield 15, 3) := by decide +kernel
theorem dX5_isBetterThan_19 : decode cX5_isBetterThan 19 = .ok (.if_icmp .ge 7, 3) := by decide +kernel
theorem dX5_isBetterThan_22 : decode cX5_isBetterThan 22 = .ok (.iconst 1, 1) := by decide +kernel
theorem dX5_isBetterThan_23 : decode cX5_isBetterThan 23 = .ok (.goto 23, 3) := by decide +kernel
theorem dX5_isBetterThan_26 : decode cX5_isBetterThan 26 = .ok (.iconst 0, 1) := by decide +kernel
theorem dX5_isBetterThan_27 : decode cX5_isBetterThan 27 = .ok (.goto 19, 3) := by decide +kernel
theorem dX5_isBetterThan_30 : decode cX5_isBetterThan 30 = .ok (.aload_n 0, 1) := by decide +kernel
theorem dX5_isBetterThan_31 : decode cX5_isBetterThan 31 = .ok (.getfield 30, 3) := by decide +kernel
theorem dX5_isBetterThan_34 : decode cX5_isBetterThan 34 = .ok (.aload_n 1, 1) := by decide +kernel
theorem dX5_isBetterThan_35 : decode cX5_isBetterThan 35 = .ok (.getfield 30, 3) := by decide +kernel
theorem dX5_isBetterThan_38 : decode cX5_isBetterThan 38 = .ok (.if_icmp .ge 7, 3) := by decide +kernel
theorem dX5_isBetterThan_41 : decode cX5_isBetterThan 41 = .ok (.iconst 1, 1) := by decide +kernel
theorem dX5_isBetterThan_42 : decode cX5_isBetterThan 42 = .ok (.goto 4, 3) := by decide +kernel
theorem dX5_isBetterThan_45 : decode cX5_isBetterThan 45 = .ok (.iconst 0, 1) := by decide +kernel
theorem dX5_isBetterThan_46 : decode cX5_isBetterThan 46 = .ok (.ireturn, 1) := by decide +kernel
def fX5_isBetterThan (a0 : Nat) (a1 : Nat) (h : Hp) : Int32 := br ((gI h 5 a0 0) = (gI h 5 a1 0)) (br ((gI h 5 a1 5) ≤ (gI h 5 a0 5)) (0) (1)) (br ((gI h 5 a1 0) ≤ (gI h 5 a0 0)) (0) (1))
set_option maxRecDepth 20000 in
theorem tX5_isBetterThan {X : Cz} (a0 : Nat) (a1 : Nat) (h : Hp) : Ct X mX5_isBetterThan true [zr 5 a0, zr 5 a1] h (some (zi (fX5_isBetterThan a0 a1 h))) h := by
  refine Ct_of (by decide) (Nat.le_of_ble_eq_true rfl) (ls := [(0, zr 5 a0), (1, zr 5 a1)]) rfl ?_
  obtain ⟨rE, hF⟩ : ∃ z, fX5_isBetterThan a0 a1 h = z := ⟨_, rfl⟩
  rw [hF]
  unfold fX5_isBetterThan at hF
  refine v_aload_n (j := 0) dX5_isBetterThan_0 rfl ?_
  refine v_getI (c := 5) rfl (Or.inl rfl) cz5 flX5_15 dX5_isBetterThan_1 ?_
  refine v_aload_n (j := 1) dX5_isBetterThan_4 rfl ?_
  refine v_getI (c := 5) rfl (Or.inl rfl) cz5 flX5_15 dX5_isBetterThan_5 ?_
  refine v_icmp_eq dX5_isBetterThan_8 (by decide : _ = ((30 : Nat) : Int)) (fun q => ?_) (fun q => ?_)
  · replace hF := brT q hF
    refine v_aload_n (j := 0) dX5_isBetterThan_30 rfl ?_
    refine v_getI (c := 5) rfl (Or.inl rfl) cz5 flX5_30 dX5_isBetterThan_31 ?_
    refine v_aload_n (j := 1) dX5_isBetterThan_34 rfl ?_
    refine v_getI (c := 5) rfl (Or.inl rfl) cz5 flX5_30 dX5_isBetterThan_35 ?_
    refine v_icmp_ge dX5_isBetterThan_38 (by decide : _ = ((45 : Nat) : Int)) (fun q => ?_) (fun q => ?_)
    · replace hF := brT q hF
      refine v_iconst (v := 0) dX5_isBetterThan_45 (by decide) ?_
      subst hF
      exact v_zret rfl (Or.inl rfl) dX5_isBetterThan_46
    · replace hF := brF q hF
      refine v_iconst (v := 1) dX5_isBetterThan_41 (by decide) ?_
      refine v_goto (tgt := 46) dX5_isBetterThan_42 (by decide) ?_
      subst hF
      exact v_zret rfl (Or.inr rfl) dX5_isBetterThan_46
  · replace hF := brF q hF
    refine v_aload_n (j := 0) dX5_isBetterThan_11 rfl ?_
    refine v_getI (c := 5) rfl (Or.inl rfl) cz5 flX5_15 dX5_isBetterThan_12 ?_
    refine v_aload_n (j := 1) dX5_isBetterThan_15 rfl ?_
    refine v_getI (c := 5) rfl (Or.inl rfl) cz5 flX5_15 dX5_isBetterThan_16 ?_
    refine v_icmp_ge dX5_isBetterThan_19 (by decide : _ = ((26 : Nat) : Int)) (fun q => ?_) (fun q => ?_)
    · replace hF := brT q hF
      refine v_iconst (v := 0) dX5_isBetterThan_26 (by decide) ?_
      refine v_goto (tgt := 46) dX5_isBetterThan_27 (by decide) ?_
      subst hF
      exact v_zret rfl (Or.inl rfl) dX5_isBetterThan_46
    · replace hF := brF q hF
      refine v_iconst (v := 1) dX5_isBetterThan_22 (by decide) ?_
      refine v_goto (tgt := 46) dX5_isBetterThan_23 (by decide) ?_
      subst hF
      exact v_zret rfl (Or.inr rfl) dX5_isBetterThan_46
theorem zX5_isBetterThan (a0 : Nat) (a1 : Nat) (h : Hp) : fX5_isBetterThan a0 a1 h = 0 ∨ fX5_isBetterThan a0 a1 h = 1 := by
  unfold fX5_isBetterThan
  try unfold br
  try unfold lb
  try dsimp only
  repeat' split
  all_goals first | exact Or.inl rfl | exact Or.inr rfl
theorem dX5_detail_0 : decode cX5_detail 0 = .ok (.iload_n 1, 1) := by decide +kernel
theorem dX5_detail_1 : decode cX5_detail 1 = .ok (.tableswitch 113 0 9 #[55, 60, 65, 70, 75, 80, 85, 90, 95, 108], 55) := by decide +kernel
theorem dX5_detail_56 : decode cX5_detail 56 = .ok (.aload_n 0, 1) := by decide +kernel
theorem dX5_detail_57 : decode cX5_detail 57 = .ok (.getfield 15, 3) := by decide +kernel
theorem dX5_detail_60 : decode cX5_detail 60 = .ok (.ireturn, 1) := by decide +kernel
theorem dX5_detail_61 : decode cX5_detail 61 = .ok (.aload_n 0, 1) := by decide +kernel
theorem dX5_detail_62 : decode cX5_detail 62 = .ok (.getfield 18, 3) := by decide +kernel
theorem dX5_detail_65 : decode cX5_detail 65 = .ok (.ireturn, 1) := by decide +kernel
theorem dX5_detail_66 : decode cX5_detail 66 = .ok (.aload_n 0, 1) := by decide +kernel
theorem dX5_detail_67 : decode cX5_detail 67 = .ok (.getfield 21, 3) := by decide +kernel
theorem dX5_detail_70 : decode cX5_detail 70 = .ok (.ireturn, 1) := by decide +kernel
theorem dX5_detail_71 : decode cX5_detail 71 = .ok (.aload_n 0, 1) := by decide +kernel
theorem dX5_detail_72 : decode cX5_detail 72 = .ok (.getfield 24, 3) := by decide +kernel
theorem dX5_detail_75 : decode cX5_detail 75 = .ok (.ireturn, 1) := by decide +kernel
theorem dX5_detail_76 : decode cX5_detail 76 = .ok (.aload_n 0, 1) := by decide +kernel
theorem dX5_detail_77 : decode cX5_detail 77 = .ok (.getfield 27, 3) := by decide +kernel
theorem dX5_detail_80 : decode cX5_detail 80 = .ok (.ireturn, 1) := by decide +kernel
theorem dX5_detail_81 : decode cX5_detail 81 = .ok (.aload_n 0, 1) := by decide +kernel
theorem dX5_detail_82 : decode cX5_detail 82 = .ok (.getfield 30, 3) := by decide +kernel
theorem dX5_detail_85 : decode cX5_detail 85 = .ok (.ireturn, 1) := by decide +kernel
theorem dX5_detail_86 : decode cX5_detail 86 = .ok (.aload_n 0, 1) := by decide +kernel
theorem dX5_detail_87 : decode cX5_detail 87 = .ok (.getfield 36, 3) := by decide +kernel
theorem dX5_detail_90 : decode cX5_detail 90 = .ok (.ireturn, 1) := by decide +kernel
theorem dX5_detail_91 : decode cX5_detail 91 = .ok (.aload_n 0, 1) := by decide +kernel
theorem dX5_detail_92 : decode cX5_detail 92 = .ok (.getfield 42, 3) := by decide +kernel
theorem dX5_detail_95 : decode cX5_detail 95 = .ok (.ireturn, 1) := by decide +kernel
theorem dX5_detail_96 : decode cX5_detail 96 = .ok (.aload_n 0, 1) := by decide +kernel
theorem dX5_detail_97 : decode cX5_detail 97 = .ok (.getfield 45, 3) := by decide +kernel
theorem dX5_detail_100 : decode cX5_detail 100 = .ok (.ifCond .eq 7, 3) := by decide +kernel
theorem dX5_detail_103 : decode cX5_detail 103 = .ok (.iconst 1, 1) := by decide +kernel
theorem dX5_detail_104 : decode cX5_detail 104 = .ok (.goto 4, 3) := by decide +kernel
theorem dX5_detail_107 : decode cX5_detail 107 = .ok (.iconst 0, 1) := by decide +kernel
theorem dX5_detail_108 : decode cX5_detail 108 = .ok (.ireturn, 1) := by decide +kernel
theorem dX5_detail_109 : decode cX5_detail 109 = .ok (.aload_n 0, 1) := by decide +kernel
theorem dX5_detail_110 : decode cX5_detail 110 = .ok (.getfield 49, 3) := by decide +kernel
theorem dX5_detail_113 : decode cX5_detail 113 = .ok (.ireturn, 1) := by decide +kernel
theorem dX5_detail_114 : decode cX5_detail 114 = .ok (.bipush (-2), 2) := by decide +kernel
theorem dX5_detail_116 : decode cX5_detail 116 = .ok (.ireturn, 1) := by decide +kernel
def fX5_detail (a0 : Nat) (a1 : Int32) (h : Hp) : Int32 := br (a1 = 0) (gI h 5 a0 0) (br (a1 = 1) (gI h 5 a0 1) (br (a1 = 2) (gI h 5 a0 2) (br (a1 = 3) (gI h 5 a0 3) (br (a1 = 4) (gI h 5 a0 4) (br (a1 = 5) (gI h 5 a0 5) (br (a1 = 6) (gI h 5 a0 7) (br (a1 = 7) (gI h 5 a0 8) (br (a1 = 8) (br ((gI h 5 a0 9) = 0) (0) (1)) (br (a1 = 9) (gI h 5 a0 10) ((-2)))))))))))
set_option maxRecDepth 20000 in
theorem tX5_detail {X : Cz} (a0 : Nat) (a1 : Int32) (h : Hp) : Ct X mX5_detail true [zr 5 a0, zi a1] h (some (zi (fX5_detail a0 a1 h))) h := by
  refine Ct_of (by decide) (Nat.le_of_ble_eq_true rfl) (ls := [(0, zr 5 a0), (1, zi a1)]) rfl ?_
  obtain ⟨rE, hF⟩ : ∃ z, fX5_detail a0 a1 h = z := ⟨_, rfl⟩
  rw [hF]
  unfold fX5_detail at hF
  refine v_iload_n (j := 1) dX5_detail_0 rfl ?_
  by_cases q0 : a1 = 0
  · replace hF := brT q0 hF
    subst q0
    refine v_tblIn (tgt := 56) dX5_detail_1 (by decide) (by decide) rfl (by decide) ?_
    refine v_aload_n (j := 0) dX5_detail_56 rfl ?_
    refine v_getI (c := 5) rfl (Or.inl rfl) cz5 flX5_15 dX5_detail_57 ?_
    subst hF
    exact v_iret rfl dX5_detail_60
  replace hF := brF q0 hF
  by_cases q1 : a1 = 1
  · replace hF := brT q1 hF
    subst q1
    refine v_tblIn (tgt := 61) dX5_detail_1 (by decide) (by decide) rfl (by decide) ?_
    refine v_aload_n (j := 0) dX5_detail_61 rfl ?_
    refine v_getI (c := 5) rfl (Or.inl rfl) cz5 flX5_18 dX5_detail_62 ?_
    subst hF
    exact v_iret rfl dX5_detail_65
  replace hF := brF q1 hF
  by_cases q2 : a1 = 2
  · replace hF := brT q2 hF
    subst q2
    refine v_tblIn (tgt := 66) dX5_detail_1 (by decide) (by decide) rfl (by decide) ?_
    refine v_aload_n (j := 0) dX5_detail_66 rfl ?_
    refine v_getI (c := 5) rfl (Or.inl rfl) cz5 flX5_21 dX5_detail_67 ?_
    subst hF
    exact v_iret rfl dX5_detail_70
  replace hF := brF q2 hF
  by_cases q3 : a1 = 3
  · replace hF := brT q3 hF
    subst q3
    refine v_tblIn (tgt := 71) dX5_detail_1 (by decide) (by decide) rfl (by decide) ?_
    refine v_aload_n (j := 0) dX5_detail_71 rfl ?_
    refine v_getI (c := 5) rfl (Or.inl rfl) cz5 flX5_24 dX5_detail_72 ?_
    subst hF
    exact v_iret rfl dX5_detail_75
  replace hF := brF q3 hF
  by_cases q4 : a1 = 4
  · replace hF := brT q4 hF
    subst q4
    refine v_tblIn (tgt := 76) dX5_detail_1 (by decide) (by decide) rfl (by decide) ?_
    refine v_aload_n (j := 0) dX5_detail_76 rfl ?_
    refine v_getI (c := 5) rfl (Or.inl rfl) cz5 flX5_27 dX5_detail_77 ?_
    subst hF
    exact v_iret rfl dX5_detail_80
  replace hF := brF q4 hF
  by_cases q5 : a1 = 5
  · replace hF := brT q5 hF
    subst q5
    refine v_tblIn (tgt := 81) dX5_detail_1 (by decide) (by decide) rfl (by decide) ?_
    refine v_aload_n (j := 0) dX5_detail_81 rfl ?_
    refine v_getI (c := 5) rfl (Or.inl rfl) cz5 flX5_30 dX5_detail_82 ?_
    subst hF
    exact v_iret rfl dX5_detail_85
  replace hF := brF q5 hF
  by_cases q6 : a1 = 6
  · replace hF := brT q6 hF
    subst q6
    refine v_tblIn (tgt := 86) dX5_detail_1 (by decide) (by decide) rfl (by decide) ?_
    refine v_aload_n (j := 0) dX5_detail_86 rfl ?_
    refine v_getI (c := 5) rfl (Or.inl rfl) cz5 flX5_36 dX5_detail_87 ?_
    subst hF
    exact v_iret rfl dX5_detail_90
  replace hF := brF q6 hF
  by_cases q7 : a1 = 7
  · replace hF := brT q7 hF
    subst q7
    refine v_tblIn (tgt := 91) dX5_detail_1 (by decide) (by decide) rfl (by decide) ?_
    refine v_aload_n (j := 0) dX5_detail_91 rfl ?_
    refine v_getI (c := 5) rfl (Or.inl rfl) cz5 flX5_42 dX5_detail_92 ?_
    subst hF
    exact v_iret rfl dX5_detail_95
  replace hF := brF q7 hF
  by_cases q8 : a1 = 8
  · replace hF := brT q8 hF
    subst q8
    refine v_tblIn (tgt := 96) dX5_detail_1 (by decide) (by decide) rfl (by decide) ?_
    refine v_aload_n (j := 0) dX5_detail_96 rfl ?_
    refine v_getI (c := 5) rfl (Or.inr rfl) cz5 flX5_45 dX5_detail_97 ?_
    refine v_if_eq dX5_detail_100 (by decide : _ = ((107 : Nat) : Int)) (fun q => ?_) (fun q => ?_)
    · replace hF := brT q hF
      refine v_iconst (v := 0) dX5_detail_107 (by decide) ?_
      subst hF
      exact v_iret rfl dX5_detail_108
    · replace hF := brF q hF
      refine v_iconst (v := 1) dX5_detail_103 (by decide) ?_
      refine v_goto (tgt := 108) dX5_detail_104 (by decide) ?_
      subst hF
      exact v_iret rfl dX5_detail_108
  replace hF := brF q8 hF
  by_cases q9 : a1 = 9
  · replace hF := brT q9 hF
    subst q9
    refine v_tblIn (tgt := 109) dX5_detail_1 (by decide) (by decide) rfl (by decide) ?_
    refine v_aload_n (j := 0) dX5_detail_109 rfl ?_
    refine v_getI (c := 5) rfl (Or.inl rfl) cz5 flX5_49 dX5_detail_110 ?_
    subst hF
    exact v_iret rfl dX5_detail_113
  replace hF := brF q9 hF
  have nq0 := lv_neT (a := 0) q0 rfl
  have nq1 := lv_neT (a := 1) q1 rfl
  have nq2 := lv_neT (a := 2) q2 rfl
  have nq3 := lv_neT (a := 3) q3 rfl
  have nq4 := lv_neT (a := 4) q4 rfl
  have nq5 := lv_neT (a := 5) q5 rfl
  have nq6 := lv_neT (a := 6) q6 rfl
  have nq7 := lv_neT (a := 7) q7 rfl
  have nq8 := lv_neT (a := 8) q8 rfl
  have nq9 := lv_neT (a := 9) q9 rfl
  refine v_tblOut (tgt := 114) dX5_detail_1 (by omega) (by decide) ?_
  refine v_bipush (v := (-2)) dX5_detail_114 (by decide) ?_
  subst hF
  exact v_iret rfl dX5_detail_116
theorem dX8_init_0 : decode cX8_init 0 = .ok (.aload_n 0, 1) := by decide +kernel
theorem dX8_init_1 : decode cX8_init 1 = .ok (.invokespecial 3, 3) := by decide +kernel
theorem dX8_init_4 : decode cX8_init 4 = .ok (.aload_n 0, 1) := by decide +kernel
theorem dX8_init_5 : decode cX8_init 5 = .ok (.bipush 12, 2) := by decide +kernel
theorem dX8_init_7 : decode cX8_init 7 = .ok (.newarray .int, 2) := by decide +kernel
theorem dX8_init_9 : decode cX8_init 9 = .ok (.putfield 9, 3) := by decide +kernel
theorem dX8_init_12 : decode cX8_init 12 = .ok (.aload_n 0, 1) := by decide +kernel
theorem dX8_init_13 : decode cX8_init 13 = .ok (.bipush 12, 2) := by decide +kernel
theorem dX8_init_15 : decode cX8_init 15 = .ok (.newarray .int, 2) := by decide +kernel
theorem dX8_init_17 : decode cX8_init 17 = .ok (.putfield 15, 3) := by decide +kernel
theorem dX8_init_20 : decode cX8_init 20 = .ok (.aload_n 0, 1) := by decide +kernel
theorem dX8_init_21 : decode cX8_init 21 = .ok (.bipush 12, 2) := by decide +kernel
theorem dX8_init_23 : decode cX8_init 23 = .ok (.newarray .int, 2) := by decide +kernel
theorem dX8_init_25 : decode cX8_init 25 = .ok (.putfield 18, 3) := by decide +kernel
theorem dX8_init_28 : decode cX8_init 28 = .ok (.aload_n 0, 1) := by decide +kernel
theorem dX8_init_29 : decode cX8_init 29 = .ok (.bipush 12, 2) := by decide +kernel
theorem dX8_init_31 : decode cX8_init 31 = .ok (.newarray .boolean, 2) := by decide +kernel
theorem dX8_init_33 : decode cX8_init 33 = .ok (.putfield 21, 3) := by decide +kernel
theorem dX8_init_36 : decode cX8_init 36 = .ok (.aload_n 0, 1) := by decide +kernel
theorem dX8_init_37 : decode cX8_init 37 = .ok (.getfield 9, 3) := by decide +kernel
theorem dX8_init_40 : decode cX8_init 40 = .ok (.iconst (-1), 1) := by decide +kernel
theorem dX8_init_41 : decode cX8_init 41 = .ok (.invokestatic 25, 3) := by decide +kernel
theorem dX8_init_44 : decode cX8_init 44 = .ok (.return_, 1) := by decide +kernel
def fX8_init (a0 : Nat) (h : Hp) : Option (Unit × Hp) := lb (gN h 41) (fun z1 => lb (nw h 41 12) (fun h2 => lb (sR h2 8 a0 0 (some z1)) (fun h3 => lb (gN h3 42) (fun z4 => lb (nw h3 42 12) (fun h5 => lb (sR h5 8 a0 1 (some z4)) (fun h6 => lb (gN h6 43) (fun z7 => lb (nw h6 43 12) (fun h8 => lb (sR h8 8 a0 2 (some z7)) (fun h9 => lb (gN h9 44) (fun z10 => lb (nw h9 44 12) (fun h11 => lb (sR h11 8 a0 3 (some z10)) (fun h12 => lb (gR h12 8 a0 0) (fun o13 => mt o13 none (fun z14 => lb (flI h12 41 z14 0 12 (-1)) (fun h15 => some ((), h15))))))))))))))))
set_option maxRecDepth 20000 in
theorem tX8_init {X : Cz} {b : Bool} {a0 : Nat} {h hE : Hp} {rE : Unit} (hF : fX8_init a0 h = some (rE, hE)) : Ct X mX8_init b [zr 8 a0] h (none) hE := by
  refine Ct_of (by decide) (Nat.le_of_ble_eq_true rfl) (ls := [(0, zr 8 a0)]) rfl ?_
  unfold fX8_init at hF
  refine v_aload_n (j := 0) dX8_init_0 rfl ?_
  refine v_objI mlX8_3 oiI oiC (by decide) (Nat.le_of_ble_eq_true rfl) dX8_init_1 ?_
  refine v_aload_n (j := 0) dX8_init_4 rfl ?_
  refine v_bipush (v := 12) dX8_init_5 (by decide) ?_
  refine v_newa (k := 41) (idx := 0) (at0 := .int) rfl (by decide) rfl ac_int (by decide) (by decide) (by decide) (Or.inr (by decide)) dX8_init_7 ?_
  refine v_topr fun z1 ez1 => ?_
  replace hF := lb_use ez1 hF
  clear ez1
  refine v_toph fun h2 eh2 => ?_
  replace hF := lb_use eh2 hF
  clear eh2
  refine v_putFR (o := some z1) (c := 8) (k2 := 41) rfl rfl (Nat.le_of_ble_eq_true rfl) rfl (Or.inr (by decide)) cz8 flX8_9 rfl (fun q hq => by cases hq; rfl) dX8_init_9 ?_
  refine v_toph fun h3 eh3 => ?_
  replace hF := lb_use eh3 hF
  clear eh3
  refine v_aload_n (j := 0) dX8_init_12 rfl ?_
  refine v_bipush (v := 12) dX8_init_13 (by decide) ?_
  refine v_newa (k := 42) (idx := 0) (at0 := .int) rfl (by decide) rfl ac_int (by decide) (by decide) (by decide) (Or.inr (by decide)) dX8_init_15 ?_
  refine v_topr fun z4 ez4 => ?_
  replace hF := lb_use ez4 hF
  clear ez4
  refine v_toph fun h5 eh5 => ?_
  replace hF := lb_use eh5 hF
  clear eh5
  refine v_putFR (o := some z4) (c := 8) (k2 := 42) rfl rfl (Nat.le_of_ble_eq_true rfl) rfl (Or.inr (by decide)) cz8 flX8_15 rfl (fun q hq => by cases hq; rfl) dX8_init_17 ?_
  refine v_toph fun h6 eh6 => ?_
  replace hF := lb_use eh6 hF
  clear eh6
  refine v_aload_n (j := 0) dX8_init_20 rfl ?_
  refine v_bipush (v := 12) dX8_init_21 (by decide) ?_
  refine v_newa (k := 43) (idx := 0) (at0 := .int) rfl (by decide) rfl ac_int (by decide) (by decide) (by decide) (Or.inr (by decide)) dX8_init_23 ?_
  refine v_topr fun z7 ez7 => ?_
  replace hF := lb_use ez7 hF
  clear ez7
  refine v_toph fun h8 eh8 => ?_
  replace hF := lb_use eh8 hF
  clear eh8
  refine v_putFR (o := some z7) (c := 8) (k2 := 43) rfl rfl (Nat.le_of_ble_eq_true rfl) rfl (Or.inr (by decide)) cz8 flX8_18 rfl (fun q hq => by cases hq; rfl) dX8_init_25 ?_
  refine v_toph fun h9 eh9 => ?_
  replace hF := lb_use eh9 hF
  clear eh9
  refine v_aload_n (j := 0) dX8_init_28 rfl ?_
  refine v_bipush (v := 12) dX8_init_29 (by decide) ?_
  refine v_newa (k := 44) (idx := 0) (at0 := .boolean) rfl (by decide) rfl ac_boolean (by decide) (by decide) (by decide) (Or.inr (by decide)) dX8_init_31 ?_
  refine v_topr fun z10 ez10 => ?_
  replace hF := lb_use ez10 hF
  clear ez10
  refine v_toph fun h11 eh11 => ?_
  replace hF := lb_use eh11 hF
  clear eh11
  refine v_putFR (o := some z10) (c := 8) (k2 := 44) rfl rfl (Nat.le_of_ble_eq_true rfl) rfl (Or.inr (by decide)) cz8 flX8_21 rfl (fun q hq => by cases hq; rfl) dX8_init_33 ?_
  refine v_toph fun h12 eh12 => ?_
  replace hF := lb_use eh12 hF
  clear eh12
  refine v_aload_n (j := 0) dX8_init_36 rfl ?_
  refine v_getR (c := 8) (k2 := 41) rfl rfl rfl cz8 flX8_9 dX8_init_37 ?_
  refine v_topq fun o13 eo13 => ?_
  replace hF := lb_use eo13 hF
  clear eo13
  refine v_iconst (v := (-1)) dX8_init_40 (by decide) ?_
  replace hF := mt_use hF
  obtain ⟨z14, ez14, hF⟩ := hF
  subst ez14
  refine v_cS (av := [zr 41 z14, zi (-1)]) (st := []) (stn := []) (tJ7_fill_53178 (n := z14) (k := 41) rfl (by decide) (-1) h12) lcJ7_fill_53178 mlX8_25 sxJ7_fill_53178 rfl ⟨by decide, by decide⟩ (Nat.le_of_ble_eq_true rfl) dX8_init_41 rfl rfl ?_
  refine v_toph fun h15 eh15 => ?_
  replace hF := lb_use eh15 hF
  clear eh15
  cases hF
  exact v_vret rfl dX8_init_44
theorem dX8_clear_0 : decode cX8_clear 0 = .ok (.aload_n 0, 1) := by decide +kernel
theorem dX8_clear_1 : decode cX8_clear 1 = .ok (.getfield 9, 3) := by decide +kernel
theorem dX8_clear_4 : decode cX8_clear 4 = .ok (.iconst (-1), 1) := by decide +kernel
theorem dX8_clear_5 : decode cX8_clear 5 = .ok (.invokestatic 25, 3) := by decide +kernel
theorem dX8_clear_8 : decode cX8_clear 8 = .ok (.aload_n 0, 1) := by decide +kernel
theorem dX8_clear_9 : decode cX8_clear 9 = .ok (.iconst 0, 1) := by decide +kernel
theorem dX8_clear_10 : decode cX8_clear 10 = .ok (.putfield 31, 3) := by decide +kernel
theorem dX8_clear_13 : decode cX8_clear 13 = .ok (.return_, 1) := by decide +kernel
def fX8_clear (a0 : Nat) (h : Hp) : Option (Unit × Hp) := lb (gR h 8 a0 0) (fun o1 => mt o1 none (fun z2 => lb (flI h 41 z2 0 12 (-1)) (fun h3 => lb (sI h3 8 a0 4 0) (fun h4 => some ((), h4)))))
set_option maxRecDepth 20000 in
theorem tX8_clear {X : Cz} {a0 : Nat} {h hE : Hp} {rE : Unit} (hF : fX8_clear a0 h = some (rE, hE)) : Ct X mX8_clear true [zr 8 a0] h (none) hE := by
  refine Ct_of (by decide) (Nat.le_of_ble_eq_true rfl) (ls := [(0, zr 8 a0)]) rfl ?_
  unfold fX8_clear at hF
  refine v_aload_n (j := 0) dX8_clear_0 rfl ?_
  refine v_getR (c := 8) (k2 := 41) rfl rfl rfl cz8 flX8_9 dX8_clear_1 ?_
  refine v_topq fun o1 eo1 => ?_
  replace hF := lb_use eo1 hF
  clear eo1
  refine v_iconst (v := (-1)) dX8_clear_4 (by decide) ?_
  replace hF := mt_use hF
  obtain ⟨z2, ez2, hF⟩ := hF
  subst ez2
  refine v_cS (av := [zr 41 z2, zi (-1)]) (st := []) (stn := []) (tJ7_fill_53178 (n := z2) (k := 41) rfl (by decide) (-1) h) lcJ7_fill_53178 mlX8_25 sxJ7_fill_53178 rfl ⟨by decide, by decide⟩ (Nat.le_of_ble_eq_true rfl) dX8_clear_5 rfl rfl ?_
  refine v_toph fun h3 eh3 => ?_
  replace hF := lb_use eh3 hF
  clear eh3
  refine v_aload_n (j := 0) dX8_clear_8 rfl ?_
  refine v_iconst (v := 0) dX8_clear_9 (by decide) ?_
  refine v_putI (c := 8) rfl rfl (Nat.le_of_ble_eq_true rfl) cz8 flX8_31 dX8_clear_10 ?_
  refine v_toph fun h4 eh4 => ?_
  replace hF := lb_use eh4 hF
  clear eh4
  cases hF
  exact v_vret rfl dX8_clear_13
theorem dX8_put_0 : decode cX8_put 0 = .ok (.aload_n 0, 1) := by decide +kernel
theorem dX8_put_1 : decode cX8_put 1 = .ok (.getfield 9, 3) := by decide +kernel
theorem dX8_put_4 : decode cX8_put 4 = .ok (.iload_n 1, 1) := by decide +kernel
theorem dX8_put_5 : decode cX8_put 5 = .ok (.iload_n 2, 1) := by decide +kernel
theorem dX8_put_6 : decode cX8_put 6 = .ok (.iastore, 1) := by decide +kernel
theorem dX8_put_7 : decode cX8_put 7 = .ok (.aload_n 0, 1) := by decide +kernel
theorem dX8_put_8 : decode cX8_put 8 = .ok (.getfield 15, 3) := by decide +kernel
theorem dX8_put_11 : decode cX8_put 11 = .ok (.iload_n 1, 1) := by decide +kernel
theorem dX8_put_12 : decode cX8_put 12 = .ok (.iload_n 3, 1) := by decide +kernel
theorem dX8_put_13 : decode cX8_put 13 = .ok (.iastore, 1) := by decide +kernel
theorem dX8_put_14 : decode cX8_put 14 = .ok (.aload_n 0, 1) := by decide +kernel
theorem dX8_put_15 : decode cX8_put 15 = .ok (.getfield 18, 3) := by decide +kernel
theorem dX8_put_18 : decode cX8_put 18 = .ok (.iload_n 1, 1) := by decide +kernel
theorem dX8_put_19 : decode cX8_put 19 = .ok (.iload 4, 2) := by decide +kernel
theorem dX8_put_21 : decode cX8_put 21 = .ok (.iastore, 1) := by decide +kernel
theorem dX8_put_22 : decode cX8_put 22 = .ok (.aload_n 0, 1) := by decide +kernel
theorem dX8_put_23 : decode cX8_put 23 = .ok (.getfield 21, 3) := by decide +kernel
theorem dX8_put_26 : decode cX8_put 26 = .ok (.iload_n 1, 1) := by decide +kernel
theorem dX8_put_27 : decode cX8_put 27 = .ok (.iload 5, 2) := by decide +kernel
theorem dX8_put_29 : decode cX8_put 29 = .ok (.bastore, 1) := by decide +kernel
theorem dX8_put_30 : decode cX8_put 30 = .ok (.aload_n 0, 1) := by decide +kernel
theorem dX8_put_31 : decode cX8_put 31 = .ok (.dup, 1) := by decide +kernel
theorem dX8_put_32 : decode cX8_put 32 = .ok (.getfield 31, 3) := by decide +kernel
theorem dX8_put_35 : decode cX8_put 35 = .ok (.iconst 1, 1) := by decide +kernel
theorem dX8_put_36 : decode cX8_put 36 = .ok (.iadd, 1) := by decide +kernel
theorem dX8_put_37 : decode cX8_put 37 = .ok (.putfield 31, 3) := by decide +kernel
theorem dX8_put_40 : decode cX8_put 40 = .ok (.return_, 1) := by decide +kernel
def fX8_put (a0 : Nat) (a1 : Int32) (a2 : Int32) (a3 : Int32) (a4 : Int32) (a5 : Int32) (h : Hp) : Option (Unit × Hp) := lb (gR h 8 a0 0) (fun o1 => mt o1 none (fun z2 => gd (ib a1 12) (lb (sI h 41 z2 (ix a1) a2) (fun h4 => lb (gR h4 8 a0 1) (fun o5 => mt o5 none (fun z6 => gd (ib a1 12) (lb (sI h4 42 z6 (ix a1) a3) (fun h8 => lb (gR h8 8 a0 2) (fun o9 => mt o9 none (fun z10 => gd (ib a1 12) (lb (sI h8 43 z10 (ix a1) a4) (fun h12 => lb (gR h12 8 a0 3) (fun o13 => mt o13 none (fun z14 => gd (ib a1 12) (lb (sI h12 44 z14 (ix a1) (a5 &&& 1)) (fun h16 => lb (sI h16 8 a0 4 ((gI h16 8 a0 4) + 1)) (fun h17 => some ((), h17))))))))))))))))))
set_option maxRecDepth 20000 in
theorem tX8_put {X : Cz} {a0 : Nat} {a1 : Int32} {a2 : Int32} {a3 : Int32} {a4 : Int32} {a5 : Int32} {h hE : Hp} {rE : Unit} (hF : fX8_put a0 a1 a2 a3 a4 a5 h = some (rE, hE)) : Ct X mX8_put true [zr 8 a0, zi a1, zi a2, zi a3, zi a4, zi a5] h (none) hE := by
  refine Ct_of (by decide) (Nat.le_of_ble_eq_true rfl) (ls := [(0, zr 8 a0), (1, zi a1), (2, zi a2), (3, zi a3), (4, zi a4), (5, zi a5)]) rfl ?_
  unfold fX8_put at hF
  refine v_aload_n (j := 0) dX8_put_0 rfl ?_
  refine v_getR (c := 8) (k2 := 41) rfl rfl rfl cz8 flX8_9 dX8_put_1 ?_
  refine v_topq fun o1 eo1 => ?_
  replace hF := lb_use eo1 hF
  clear eo1
  refine v_iload_n (j := 1) dX8_put_4 rfl ?_
  refine v_iload_n (j := 2) dX8_put_5 rfl ?_
  replace hF := mt_use hF
  obtain ⟨z2, ez2, hF⟩ := hF
  subst ez2
  replace hF := gd_use hF
  obtain ⟨q3, hF⟩ := hF
  refine v_iast rfl q3 dX8_put_6 ?_
  refine v_toph fun h4 eh4 => ?_
  replace hF := lb_use eh4 hF
  clear eh4
  refine v_aload_n (j := 0) dX8_put_7 rfl ?_
  refine v_getR (c := 8) (k2 := 42) rfl rfl rfl cz8 flX8_15 dX8_put_8 ?_
  refine v_topq fun o5 eo5 => ?_
  replace hF := lb_use eo5 hF
  clear eo5
  refine v_iload_n (j := 1) dX8_put_11 rfl ?_
  refine v_iload_n (j := 3) dX8_put_12 rfl ?_
  replace hF := mt_use hF
  obtain ⟨z6, ez6, hF⟩ := hF
  subst ez6
  replace hF := gd_use hF
  obtain ⟨q7, hF⟩ := hF
  refine v_iast rfl q7 dX8_put_13 ?_
  refine v_toph fun h8 eh8 => ?_
  replace hF := lb_use eh8 hF
  clear eh8
  refine v_aload_n (j := 0) dX8_put_14 rfl ?_
  refine v_getR (c := 8) (k2 := 43) rfl rfl rfl cz8 flX8_18 dX8_put_15 ?_
  refine v_topq fun o9 eo9 => ?_
  replace hF := lb_use eo9 hF
  clear eo9
  refine v_iload_n (j := 1) dX8_put_18 rfl ?_
  refine v_iload (j := 4) dX8_put_19 rfl ?_
  replace hF := mt_use hF
  obtain ⟨z10, ez10, hF⟩ := hF
  subst ez10
  replace hF := gd_use hF
  obtain ⟨q11, hF⟩ := hF
  refine v_iast rfl q11 dX8_put_21 ?_
  refine v_toph fun h12 eh12 => ?_
  replace hF := lb_use eh12 hF
  clear eh12
  refine v_aload_n (j := 0) dX8_put_22 rfl ?_
  refine v_getR (c := 8) (k2 := 44) rfl rfl rfl cz8 flX8_21 dX8_put_23 ?_
  refine v_topq fun o13 eo13 => ?_
  replace hF := lb_use eo13 hF
  clear eo13
  refine v_iload_n (j := 1) dX8_put_26 rfl ?_
  refine v_iload (j := 5) dX8_put_27 rfl ?_
  replace hF := mt_use hF
  obtain ⟨z14, ez14, hF⟩ := hF
  subst ez14
  replace hF := gd_use hF
  obtain ⟨q15, hF⟩ := hF
  refine v_zast rfl q15 dX8_put_29 ?_
  refine v_toph fun h16 eh16 => ?_
  replace hF := lb_use eh16 hF
  clear eh16
  refine v_aload_n (j := 0) dX8_put_30 rfl ?_
  refine v_dup dX8_put_31 rfl ?_
  refine v_getI (c := 8) rfl (Or.inl rfl) cz8 flX8_31 dX8_put_32 ?_
  refine v_iconst (v := 1) dX8_put_35 (by decide) ?_
  refine v_iadd dX8_put_36 ?_
  refine v_putI (c := 8) rfl rfl (Nat.le_of_ble_eq_true rfl) cz8 flX8_31 dX8_put_37 ?_
  refine v_toph fun h17 eh17 => ?_
  replace hF := lb_use eh17 hF
  clear eh17
  cases hF
  exact v_vret rfl dX8_put_40
theorem dX8_isSitting_0 : decode cX8_isSitting 0 = .ok (.iload_n 1, 1) := by decide +kernel
theorem dX8_isSitting_1 : decode cX8_isSitting 1 = .ok (.ifCond .lt 26, 3) := by decide +kernel
theorem dX8_isSitting_4 : decode cX8_isSitting 4 = .ok (.iload_n 1, 1) := by decide +kernel
theorem dX8_isSitting_5 : decode cX8_isSitting 5 = .ok (.aload_n 0, 1) := by decide +kernel
theorem dX8_isSitting_6 : decode cX8_isSitting 6 = .ok (.getfield 9, 3) := by decide +kernel
theorem dX8_isSitting_9 : decode cX8_isSitting 9 = .ok (.arraylength, 1) := by decide +kernel
theorem dX8_isSitting_10 : decode cX8_isSitting 10 = .ok (.if_icmp .ge 17, 3) := by decide +kernel
theorem dX8_isSitting_13 : decode cX8_isSitting 13 = .ok (.aload_n 0, 1) := by decide +kernel
theorem dX8_isSitting_14 : decode cX8_isSitting 14 = .ok (.getfield 9, 3) := by decide +kernel
theorem dX8_isSitting_17 : decode cX8_isSitting 17 = .ok (.iload_n 1, 1) := by decide +kernel
theorem dX8_isSitting_18 : decode cX8_isSitting 18 = .ok (.iaload, 1) := by decide +kernel
theorem dX8_isSitting_19 : decode cX8_isSitting 19 = .ok (.iconst (-1), 1) := by decide +kernel
theorem dX8_isSitting_20 : decode cX8_isSitting 20 = .ok (.if_icmp .eq 7, 3) := by decide +kernel
theorem dX8_isSitting_23 : decode cX8_isSitting 23 = .ok (.iconst 1, 1) := by decide +kernel
theorem dX8_isSitting_24 : decode cX8_isSitting 24 = .ok (.goto 4, 3) := by decide +kernel
theorem dX8_isSitting_27 : decode cX8_isSitting 27 = .ok (.iconst 0, 1) := by decide +kernel
theorem dX8_isSitting_28 : decode cX8_isSitting 28 = .ok (.ireturn, 1) := by decide +kernel
def fX8_isSitting (a0 : Nat) (a1 : Int32) (h : Hp) : Option (Int32 × Hp) := br (a1 < 0) (some (0, h)) (lb (gR h 8 a0 0) (fun o1 => mt o1 none (fun z2 => br (((Int32.ofNat 12)) ≤ a1) (some (0, h)) (lb (gR h 8 a0 0) (fun o3 => mt o3 none (fun z4 => gd (ib a1 12) (br ((gI h 41 z4 (ix a1)) = (-1)) (some (0, h)) (some (1, h)))))))))
set_option maxRecDepth 20000 in
theorem tX8_isSitting {X : Cz} {a0 : Nat} {a1 : Int32} {h hE : Hp} {rE : Int32} (hF : fX8_isSitting a0 a1 h = some (rE, hE)) : Ct X mX8_isSitting true [zr 8 a0, zi a1] h (some (zi rE)) hE := by
  refine Ct_of (by decide) (Nat.le_of_ble_eq_true rfl) (ls := [(0, zr 8 a0), (1, zi a1)]) rfl ?_
  unfold fX8_isSitting at hF
  refine v_iload_n (j := 1) dX8_isSitting_0 rfl ?_
  refine v_if_lt dX8_isSitting_1 (by decide : _ = ((27 : Nat) : Int)) (fun q => ?_) (fun q => ?_)
  · replace hF := brT q hF
    refine v_iconst (v := 0) dX8_isSitting_27 (by decide) ?_
    obtain ⟨rfl, rfl⟩ := ret_use hF
    exact v_zret rfl (Or.inl rfl) dX8_isSitting_28
  · replace hF := brF q hF
    refine v_iload_n (j := 1) dX8_isSitting_4 rfl ?_
    refine v_aload_n (j := 0) dX8_isSitting_5 rfl ?_
    refine v_getR (c := 8) (k2 := 41) rfl rfl rfl cz8 flX8_9 dX8_isSitting_6 ?_
    refine v_topq fun o1 eo1 => ?_
    replace hF := lb_use eo1 hF
    clear eo1
    replace hF := mt_use hF
    obtain ⟨z2, ez2, hF⟩ := hF
    subst ez2
    refine v_alen rfl dX8_isSitting_9 ?_
    refine v_icmp_ge dX8_isSitting_10 (by decide : _ = ((27 : Nat) : Int)) (fun q => ?_) (fun q => ?_)
    · replace hF := brT q hF
      refine v_iconst (v := 0) dX8_isSitting_27 (by decide) ?_
      obtain ⟨rfl, rfl⟩ := ret_use hF
      exact v_zret rfl (Or.inl rfl) dX8_isSitting_28
    · replace hF := brF q hF
      refine v_aload_n (j := 0) dX8_isSitting_13 rfl ?_
      refine v_getR (c := 8) (k2 := 41) rfl rfl rfl cz8 flX8_9 dX8_isSitting_14 ?_
      refine v_topq fun o3 eo3 => ?_
      replace hF := lb_use eo3 hF
      clear eo3
      refine v_iload_n (j := 1) dX8_isSitting_17 rfl ?_
      replace hF := mt_use hF
      obtain ⟨z4, ez4, hF⟩ := hF
      subst ez4
      replace hF := gd_use hF
      obtain ⟨q5, hF⟩ := hF
      refine v_iald rfl q5 dX8_isSitting_18 ?_
      refine v_iconst (v := (-1)) dX8_isSitting_19 (by decide) ?_
      refine v_icmp_eq dX8_isSitting_20 (by decide : _ = ((27 : Nat) : Int)) (fun q => ?_) (fun q => ?_)
      · replace hF := brT q hF
        refine v_iconst (v := 0) dX8_isSitting_27 (by decide) ?_
        obtain ⟨rfl, rfl⟩ := ret_use hF
        exact v_zret rfl (Or.inl rfl) dX8_isSitting_28
      · replace hF := brF q hF
        refine v_iconst (v := 1) dX8_isSitting_23 (by decide) ?_
        refine v_goto (tgt := 28) dX8_isSitting_24 (by decide) ?_
        obtain ⟨rfl, rfl⟩ := ret_use hF
        exact v_zret rfl (Or.inr rfl) dX8_isSitting_28
theorem dX8_isSameRun_0 : decode cX8_isSameRun 0 = .ok (.aload_n 0, 1) := by decide +kernel
theorem dX8_isSameRun_1 : decode cX8_isSameRun 1 = .ok (.getfield 9, 3) := by decide +kernel
theorem dX8_isSameRun_4 : decode cX8_isSameRun 4 = .ok (.iload_n 2, 1) := by decide +kernel
theorem dX8_isSameRun_5 : decode cX8_isSameRun 5 = .ok (.iaload, 1) := by decide +kernel
theorem dX8_isSameRun_6 : decode cX8_isSameRun 6 = .ok (.aload_n 1, 1) := by decide +kernel
theorem dX8_isSameRun_7 : decode cX8_isSameRun 7 = .ok (.getfield 9, 3) := by decide +kernel
theorem dX8_isSameRun_10 : decode cX8_isSameRun 10 = .ok (.iload_n 2, 1) := by decide +kernel
theorem dX8_isSameRun_11 : decode cX8_isSameRun 11 = .ok (.iaload, 1) := by decide +kernel
theorem dX8_isSameRun_12 : decode cX8_isSameRun 12 = .ok (.if_icmp .ne 22, 3) := by decide +kernel
theorem dX8_isSameRun_15 : decode cX8_isSameRun 15 = .ok (.aload_n 0, 1) := by decide +kernel
theorem dX8_isSameRun_16 : decode cX8_isSameRun 16 = .ok (.getfield 15, 3) := by decide +kernel
theorem dX8_isSameRun_19 : decode cX8_isSameRun 19 = .ok (.iload_n 2, 1) := by decide +kernel
theorem dX8_isSameRun_20 : decode cX8_isSameRun 20 = .ok (.iaload, 1) := by decide +kernel
theorem dX8_isSameRun_21 : decode cX8_isSameRun 21 = .ok (.aload_n 1, 1) := by decide +kernel
theorem dX8_isSameRun_22 : decode cX8_isSameRun 22 = .ok (.getfield 15, 3) := by decide +kernel
theorem dX8_isSameRun_25 : decode cX8_isSameRun 25 = .ok (.iload_n 2, 1) := by decide +kernel
theorem dX8_isSameRun_26 : decode cX8_isSameRun 26 = .ok (.iaload, 1) := by decide +kernel
theorem dX8_isSameRun_27 : decode cX8_isSameRun 27 = .ok (.if_icmp .ne 7, 3) := by decide +kernel
theorem dX8_isSameRun_30 : decode cX8_isSameRun 30 = .ok (.iconst 1, 1) := by decide +kernel
theorem dX8_isSameRun_31 : decode cX8_isSameRun 31 = .ok (.goto 4, 3) := by decide +kernel
theorem dX8_isSameRun_34 : decode cX8_isSameRun 34 = .ok (.iconst 0, 1) := by decide +kernel
theorem dX8_isSameRun_35 : decode cX8_isSameRun 35 = .ok (.ireturn, 1) := by decide +kernel
def fX8_isSameRun (a0 : Nat) (a1 : Nat) (a2 : Int32) (h : Hp) : Option (Int32 × Hp) := lb (gR h 8 a0 0) (fun o1 => mt o1 none (fun z2 => gd (ib a2 12) (lb (gR h 8 a1 0) (fun o4 => mt o4 none (fun z5 => gd (ib a2 12) (br ((gI h 41 z2 (ix a2)) = (gI h 41 z5 (ix a2))) (lb (gR h 8 a0 1) (fun o7 => mt o7 none (fun z8 => gd (ib a2 12) (lb (gR h 8 a1 1) (fun o10 => mt o10 none (fun z11 => gd (ib a2 12) (br ((gI h 42 z8 (ix a2)) = (gI h 42 z11 (ix a2))) (some (1, h)) (some (0, h))))))))) (some (0, h))))))))
set_option maxRecDepth 20000 in
theorem tX8_isSameRun {X : Cz} {a0 : Nat} {a1 : Nat} {a2 : Int32} {h hE : Hp} {rE : Int32} (hF : fX8_isSameRun a0 a1 a2 h = some (rE, hE)) : Ct X mX8_isSameRun true [zr 8 a0, zr 8 a1, zi a2] h (some (zi rE)) hE := by
  refine Ct_of (by decide) (Nat.le_of_ble_eq_true rfl) (ls := [(0, zr 8 a0), (1, zr 8 a1), (2, zi a2)]) rfl ?_
  unfold fX8_isSameRun at hF
  refine v_aload_n (j := 0) dX8_isSameRun_0 rfl ?_
  refine v_getR (c := 8) (k2 := 41) rfl rfl rfl cz8 flX8_9 dX8_isSameRun_1 ?_
  refine v_topq fun o1 eo1 => ?_
  replace hF := lb_use eo1 hF
  clear eo1
  refine v_iload_n (j := 2) dX8_isSameRun_4 rfl ?_
  replace hF := mt_use hF
  obtain ⟨z2, ez2, hF⟩ := hF
  subst ez2
  replace hF := gd_use hF
  obtain ⟨q3, hF⟩ := hF
  refine v_iald rfl q3 dX8_isSameRun_5 ?_
  refine v_aload_n (j := 1) dX8_isSameRun_6 rfl ?_
  refine v_getR (c := 8) (k2 := 41) rfl rfl rfl cz8 flX8_9 dX8_isSameRun_7 ?_
  refine v_topq fun o4 eo4 => ?_
  replace hF := lb_use eo4 hF
  clear eo4
  refine v_iload_n (j := 2) dX8_isSameRun_10 rfl ?_
  replace hF := mt_use hF
  obtain ⟨z5, ez5, hF⟩ := hF
  subst ez5
  replace hF := gd_use hF
  obtain ⟨q6, hF⟩ := hF
  refine v_iald rfl q6 dX8_isSameRun_11 ?_
  refine v_icmp_ne dX8_isSameRun_12 (by decide : _ = ((34 : Nat) : Int)) (fun q => ?_) (fun q => ?_)
  · replace hF := brF q hF
    refine v_iconst (v := 0) dX8_isSameRun_34 (by decide) ?_
    obtain ⟨rfl, rfl⟩ := ret_use hF
    exact v_zret rfl (Or.inl rfl) dX8_isSameRun_35
  · replace hF := brT (Decidable.not_not.mp q) hF
    refine v_aload_n (j := 0) dX8_isSameRun_15 rfl ?_
    refine v_getR (c := 8) (k2 := 42) rfl rfl rfl cz8 flX8_15 dX8_isSameRun_16 ?_
    refine v_topq fun o7 eo7 => ?_
    replace hF := lb_use eo7 hF
    clear eo7
    refine v_iload_n (j := 2) dX8_isSameRun_19 rfl ?_
    replace hF := mt_use hF
    obtain ⟨z8, ez8, hF⟩ := hF
    subst ez8
    replace hF := gd_use hF
    obtain ⟨q9, hF⟩ := hF
    refine v_iald rfl q9 dX8_isSameRun_20 ?_
    refine v_aload_n (j := 1) dX8_isSameRun_21 rfl ?_
    refine v_getR (c := 8) (k2 := 42) rfl rfl rfl cz8 flX8_15 dX8_isSameRun_22 ?_
    refine v_topq fun o10 eo10 => ?_
    replace hF := lb_use eo10 hF
    clear eo10
    refine v_iload_n (j := 2) dX8_isSameRun_25 rfl ?_
    replace hF := mt_use hF
    obtain ⟨z11, ez11, hF⟩ := hF
    subst ez11
    replace hF := gd_use hF
    obtain ⟨q12, hF⟩ := hF
    refine v_iald rfl q12 dX8_isSameRun_26 ?_
    refine v_icmp_ne dX8_isSameRun_27 (by decide : _ = ((34 : Nat) : Int)) (fun q => ?_) (fun q => ?_)
    · replace hF := brF q hF
      refine v_iconst (v := 0) dX8_isSameRun_34 (by decide) ?_
      obtain ⟨rfl, rfl⟩ := ret_use hF
      exact v_zret rfl (Or.inl rfl) dX8_isSameRun_35
    · replace hF := brT (Decidable.not_not.mp q) hF
      refine v_iconst (v := 1) dX8_isSameRun_30 (by decide) ?_
      refine v_goto (tgt := 35) dX8_isSameRun_31 (by decide) ?_
      obtain ⟨rfl, rfl⟩ := ret_use hF
      exact v_zret rfl (Or.inr rfl) dX8_isSameRun_35
theorem dX8_unitsSatOn_0 : decode cX8_unitsSatOn 0 = .ok (.iconst 0, 1) := by decide +kernel
theorem dX8_unitsSatOn_1 : decode cX8_unitsSatOn 1 = .ok (.istore_n 1, 1) := by decide +kernel
theorem dX8_unitsSatOn_2 : decode cX8_unitsSatOn 2 = .ok (.iconst 0, 1) := by decide +kernel
theorem dX8_unitsSatOn_3 : decode cX8_unitsSatOn 3 = .ok (.istore_n 2, 1) := by decide +kernel
theorem dX8_unitsSatOn_4 : decode cX8_unitsSatOn 4 = .ok (.iload_n 2, 1) := by decide +kernel
theorem dX8_unitsSatOn_5 : decode cX8_unitsSatOn 5 = .ok (.aload_n 0, 1) := by decide +kernel
theorem dX8_unitsSatOn_6 : decode cX8_unitsSatOn 6 = .ok (.getfield 9, 3) := by decide +kernel
theorem dX8_unitsSatOn_9 : decode cX8_unitsSatOn 9 = .ok (.arraylength, 1) := by decide +kernel
theorem dX8_unitsSatOn_10 : decode cX8_unitsSatOn 10 = .ok (.if_icmp .ge 30, 3) := by decide +kernel
theorem dX8_unitsSatOn_13 : decode cX8_unitsSatOn 13 = .ok (.iload_n 1, 1) := by decide +kernel
theorem dX8_unitsSatOn_14 : decode cX8_unitsSatOn 14 = .ok (.aload_n 0, 1) := by decide +kernel
theorem dX8_unitsSatOn_15 : decode cX8_unitsSatOn 15 = .ok (.iload_n 2, 1) := by decide +kernel
theorem dX8_unitsSatOn_16 : decode cX8_unitsSatOn 16 = .ok (.invokevirtual 35, 3) := by decide +kernel
theorem dX8_unitsSatOn_19 : decode cX8_unitsSatOn 19 = .ok (.ifCond .eq 12, 3) := by decide +kernel
theorem dX8_unitsSatOn_22 : decode cX8_unitsSatOn 22 = .ok (.aload_n 0, 1) := by decide +kernel
theorem dX8_unitsSatOn_23 : decode cX8_unitsSatOn 23 = .ok (.getfield 15, 3) := by decide +kernel
theorem dX8_unitsSatOn_26 : decode cX8_unitsSatOn 26 = .ok (.iload_n 2, 1) := by decide +kernel
theorem dX8_unitsSatOn_27 : decode cX8_unitsSatOn 27 = .ok (.iaload, 1) := by decide +kernel
theorem dX8_unitsSatOn_28 : decode cX8_unitsSatOn 28 = .ok (.goto 4, 3) := by decide +kernel
theorem dX8_unitsSatOn_31 : decode cX8_unitsSatOn 31 = .ok (.iconst 0, 1) := by decide +kernel
theorem dX8_unitsSatOn_32 : decode cX8_unitsSatOn 32 = .ok (.iadd, 1) := by decide +kernel
theorem dX8_unitsSatOn_33 : decode cX8_unitsSatOn 33 = .ok (.istore_n 1, 1) := by decide +kernel
theorem dX8_unitsSatOn_34 : decode cX8_unitsSatOn 34 = .ok (.iinc 2 1, 3) := by decide +kernel
theorem dX8_unitsSatOn_37 : decode cX8_unitsSatOn 37 = .ok (.goto (-33), 3) := by decide +kernel
theorem dX8_unitsSatOn_40 : decode cX8_unitsSatOn 40 = .ok (.iload_n 1, 1) := by decide +kernel
theorem dX8_unitsSatOn_41 : decode cX8_unitsSatOn 41 = .ok (.ireturn, 1) := by decide +kernel
def fX8_unitsSatOn_L4 : Nat → Int32 → Int32 → Hp → Option ((Int32 × Int32) × Hp)
  | 0, _, _, _ => none
  | n + 1, a1, a2, h => lb (gR h 8 0 0) (fun o1 => mt o1 none (fun z2 => br (((Int32.ofNat 12)) ≤ a2) (some ((a1, a2), h)) (bd (fX8_isSitting 0 a2 h) (fun r3 h4 => br (r3 = 0) (lb (a1 + 0) (fun v5 => lb (a2 + 1) (fun v6 => fX8_unitsSatOn_L4 n v5 v6 h4))) (lb (gR h4 8 0 1) (fun o7 => mt o7 none (fun z8 => gd (ib a2 12) (lb (a1 + (gI h4 42 z8 (ix a2))) (fun v10 => lb (a2 + 1) (fun v11 => fX8_unitsSatOn_L4 n v10 v11 h4))))))))))
def fX8_unitsSatOn (h : Hp) : Option (Int32 × Hp) := bd (fX8_unitsSatOn_L4 FU 0 0 h) (fun t13 h12 => lb t13.1 (fun v14 => lb t13.2 (fun v15 => some (v14, h12))))
set_option maxRecDepth 20000 in
theorem tX8_unitsSatOn_L4 {X : Cz} {h0 : Hp} {r : Option AV} {hE : Hp} : ∀ (n : Nat) (a1 : Int32) (a2 : Int32) (h : Hp) (z : (Int32 × Int32) × Hp), fX8_unitsSatOn_L4 n a1 a2 h = some z → V X mX8_unitsSatOn true h0 40 [(0, zr 8 0), (1, zi z.1.1), (2, zi z.1.2)] [] z.2 r hE → V X mX8_unitsSatOn true h0 4 [(0, zr 8 0), (1, zi a1), (2, zi a2)] [] h r hE := by
  intro n
  induction n with
  | zero => intro a1 a2 h z hF k; cases hF
  | succ n ih =>
    intro a1 a2 h z hF k
    rw [fX8_unitsSatOn_L4] at hF
    refine v_iload_n (j := 2) dX8_unitsSatOn_4 rfl ?_
    refine v_aload_n (j := 0) dX8_unitsSatOn_5 rfl ?_
    refine v_getR (c := 8) (k2 := 41) rfl rfl rfl cz8 flX8_9 dX8_unitsSatOn_6 ?_
    refine v_topq fun o1 eo1 => ?_
    replace hF := lb_use eo1 hF
    clear eo1
    replace hF := mt_use hF
    obtain ⟨z2, ez2, hF⟩ := hF
    subst ez2
    refine v_alen rfl dX8_unitsSatOn_9 ?_
    refine v_icmp_ge dX8_unitsSatOn_10 (by decide : _ = ((40 : Nat) : Int)) (fun q => ?_) (fun q => ?_)
    · replace hF := brT q hF
      cases hF
      exact k
    · replace hF := brF q hF
      refine v_iload_n (j := 1) dX8_unitsSatOn_13 rfl ?_
      refine v_aload_n (j := 0) dX8_unitsSatOn_14 rfl ?_
      refine v_iload_n (j := 2) dX8_unitsSatOn_15 rfl ?_
      replace hF := bd_use hF
      obtain ⟨r3, h4, er3, hF⟩ := hF
      refine v_cV (hm := h4) (av := [zi a2]) (st := [zi a1]) (stn := [zi r3, zi a1]) (tX8_isSitting er3) lcX8_isSitting mlX8_35 imX8_isSitting seX8_isSitting rfl rfl rfl rfl ⟨by decide, by decide⟩ (Nat.le_of_ble_eq_true rfl) dX8_unitsSatOn_16 rfl rfl ?_
      clear er3
      refine v_if_eq dX8_unitsSatOn_19 (by decide : _ = ((31 : Nat) : Int)) (fun q => ?_) (fun q => ?_)
      · replace hF := brT q hF
        refine v_iconst (v := 0) dX8_unitsSatOn_31 (by decide) ?_
        refine v_iadd dX8_unitsSatOn_32 ?_
        refine v_topi fun v5 ev5 => ?_
        replace hF := lb_use ev5 hF
        clear ev5
        refine v_istore_n (ls' := [(1, zi v5), (0, zr 8 0), (2, zi a2)]) dX8_unitsSatOn_33 (by decide) rfl ?_
        obtain ⟨v6, ev6⟩ : ∃ y : Int32, y = a2 + 1 := ⟨_, rfl⟩
        replace hF := lb_use ev6 hF
        refine v_iinc (j := 2) (v := v6) (ls' := [(2, zi v6), (1, zi v5), (0, zr 8 0)]) dX8_unitsSatOn_34 rfl (by rw [ev6]; rfl) (by decide) rfl ?_
        clear ev6
        refine v_goto (tgt := 4) dX8_unitsSatOn_37 (by decide) ?_
        refine v_sub [2, 1, 0] rfl ?_
        exact ih v5 v6 h4 _ hF k
      · replace hF := brF q hF
        refine v_aload_n (j := 0) dX8_unitsSatOn_22 rfl ?_
        refine v_getR (c := 8) (k2 := 42) rfl rfl rfl cz8 flX8_15 dX8_unitsSatOn_23 ?_
        refine v_topq fun o7 eo7 => ?_
        replace hF := lb_use eo7 hF
        clear eo7
        refine v_iload_n (j := 2) dX8_unitsSatOn_26 rfl ?_
        replace hF := mt_use hF
        obtain ⟨z8, ez8, hF⟩ := hF
        subst ez8
        replace hF := gd_use hF
        obtain ⟨q9, hF⟩ := hF
        refine v_iald rfl q9 dX8_unitsSatOn_27 ?_
        refine v_goto (tgt := 32) dX8_unitsSatOn_28 (by decide) ?_
        refine v_iadd dX8_unitsSatOn_32 ?_
        refine v_topi fun v10 ev10 => ?_
        replace hF := lb_use ev10 hF
        clear ev10
        refine v_istore_n (ls' := [(1, zi v10), (0, zr 8 0), (2, zi a2)]) dX8_unitsSatOn_33 (by decide) rfl ?_
        obtain ⟨v11, ev11⟩ : ∃ y : Int32, y = a2 + 1 := ⟨_, rfl⟩
        replace hF := lb_use ev11 hF
        refine v_iinc (j := 2) (v := v11) (ls' := [(2, zi v11), (1, zi v10), (0, zr 8 0)]) dX8_unitsSatOn_34 rfl (by rw [ev11]; rfl) (by decide) rfl ?_
        clear ev11
        refine v_goto (tgt := 4) dX8_unitsSatOn_37 (by decide) ?_
        refine v_sub [2, 1, 0] rfl ?_
        exact ih v10 v11 h4 _ hF k
set_option maxRecDepth 20000 in
theorem tX8_unitsSatOn {X : Cz} {h hE : Hp} {rE : Int32} (hF : fX8_unitsSatOn h = some (rE, hE)) : Ct X mX8_unitsSatOn true [zr 8 0] h (some (zi rE)) hE := by
  refine Ct_of (by decide) (Nat.le_of_ble_eq_true rfl) (ls := [(0, zr 8 0)]) rfl ?_
  unfold fX8_unitsSatOn at hF
  refine v_iconst (v := 0) dX8_unitsSatOn_0 (by decide) ?_
  refine v_istore_n (ls' := [(1, zi 0), (0, zr 8 0)]) dX8_unitsSatOn_1 (by decide) rfl ?_
  refine v_iconst (v := 0) dX8_unitsSatOn_2 (by decide) ?_
  refine v_istore_n (ls' := [(2, zi 0), (1, zi 0), (0, zr 8 0)]) dX8_unitsSatOn_3 (by decide) rfl ?_
  refine v_sub [2, 1, 0] rfl ?_
  replace hF := bd_use hF
  obtain ⟨t13, h12, et13, hF⟩ := hF
  refine tX8_unitsSatOn_L4 _ 0 0 h _ et13 ?_
  clear et13
  obtain ⟨v14, v15⟩ := t13
  replace hF := lb_use (x := v14) rfl hF
  replace hF := lb_use (x := v15) rfl hF
  refine v_iload_n (j := 1) dX8_unitsSatOn_40 rfl ?_
  obtain ⟨rfl, rfl⟩ := ret_use hF
  exact v_iret rfl dX8_unitsSatOn_41
