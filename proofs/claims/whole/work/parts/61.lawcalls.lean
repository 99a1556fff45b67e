/-! ===== the law's calls ===== -/
section LCalls
variable {X : Cz} {b L : Nat} {xs : Nat → Int32} {bb : Bool} {pc : Nat} {ls ls' : List (Nat × AV)} {st st' stn : List AV} {h hm : Hp} {Mc : Mi} {rc : Option AV}
theorem zw_ex {h : Hp} {ad ad1 : Ad} {v : AV} (hv : wl h v) (e : Ex h ad ad1) : zw b ad1 v = zw b ad v := by
  rcases v with x | x | _ | q
  · rfl
  · rfl
  · rfl
  · show (if q.1 = 9999 then Value.ref b else Value.ref (ad1 q.1 q.2)) = (if q.1 = 9999 then Value.ref b else Value.ref (ad q.1 q.2))
    by_cases z : q.1 = 9999
    · rw [if_pos z, if_pos z]
    · rw [if_neg z, if_neg z, e q.1 q.2 ((hv q rfl).resolve_left z)]
theorem zws_ex {h : Hp} {ad ad1 : Ad} {l : List AV} (hv : ∀ v ∈ l, wl h v) (e : Ex h ad ad1) : l.map (zw b ad1) = l.map (zw b ad) := List.map_congr_left fun v h1 => zw_ex (hv v h1) e
theorem zwl_ex {h : Hp} {ad ad1 : Ad} {l : List (Nat × AV)} (hv : ∀ q ∈ l, wl h q.2) (e : Ex h ad ad1) : (l.map fun q => (q.1, zw b ad1 q.2)) = l.map fun q => (q.1, zw b ad q.2) := List.map_congr_left fun v h1 => by rw [zw_ex (hv v h1) e]
/-- no reference -/
def nrf (v : AV) : Bool := match v with
  | .inr (.inr _) => false
  | _ => true
theorem nrf_z {v : AV} (hv : nrf v = true) (ad : Ad) : zw b ad v = zv ad v := by
  rcases v with x | x | _ | q
  · rfl
  · rfl
  · cases hv
  · cases hv
theorem nrf_l {v : AV} (hv : nrf v = true) (h : Hp) : lz h v := by
  rcases v with x | x | _ | q
  · exact lz_i h x
  · exact lz_j h x
  · cases hv
  · cases hv
theorem stw_w (ad : Ad) (st : List AV) : ((st.map (zw b ad)).map fun v => v.category).sum = stw st := by
  unfold stw
  rw [List.map_map]
  congr 1
  refine List.map_congr_left fun v _ => ?_
  rcases v with x | x | _ | q
  · rfl
  · rfl
  · rfl
  · show (if q.1 = 9999 then Value.ref b else Value.ref (ad q.1 q.2)).category = 1
    by_cases z : q.1 = 9999
    · rw [if_pos z]; rfl
    · rw [if_neg z]; rfl
theorem lp_call {p : Program} {s : State} {m : MethodId} {meth : Method} {c : Code} {H H1 : Heap} {locs locs1 : List Loc} {S : Array Slot} {ad ad1 : Ad} (P : LPz X b L xs bb ls st' h p s m meth c H locs S ad) (hl : le h hm) (hs : ∀ v ∈ st, wl h v) (Z : Hz X hm ad1 H1) (ex : Ex h ad ad1) (hr : ∀ v, rc = some v → lz hm v) (hly : bb = true → Ly hm) (hS : va_S (AA X) s.heap H1 locs1) (hC : gC hm ≤ 600000 ∧ gS hm ≤ 7302249) : LPz X b L xs bb ls (rc.toList ++ st) hm p s m meth c H1 locs1 S ad1 := by
  obtain ⟨A, e1, K, -, -, -, -, lv, wl1, -⟩ := P
  refine ⟨A, e1, K, Z, hly, hS, hC, by rw [zwl_ex wl1 ex]; exact lv, fun q hq => (wl1 q hq).up hl, ?_⟩
  have h2 : ∀ v ∈ st, wl hm v := fun v hv => (hs v hv).up hl
  cases rc with
  | none => exact h2
  | some v => exact wls_c (fun q e => Or.inr (hr v rfl q e)) h2
theorem rc_zw (ad1 : Ad) (hr : ∀ v, rc = some v → nrf v = true) : (rc.map (zv ad1)).toList = rc.toList.map (zw b ad1) := by
  cases rc with
  | none => rfl
  | some v => show [zv ad1 v] = [zw b ad1 v]; rw [nrf_z (hr v rfl)]
theorem l_cV {k c np idx : Nat} {av : List AV} {q : vw_C} (C : Ct X Mc bb (zr k 0 :: av) h rc hm) (lc : Lc Mc np) (hl : Cond.methodLink RL idx Mc.1 ∈ tbz) (hin : Cond.instanceMethod Mc.1 ∈ tbz) (hse : Cond.selects Mc.1.cls Mc.1 Mc.1 ∈ tbz) (hk : kd k = .inl c) (hq : classes[c]? = some q) (hqc : q.1 = Mc.1.cls) (hn : av.length = np) (ft : Mc.2.2.2.2.1 + 1 ≤ 10 ∧ 8 + (Mc.2.2.1 + 11) + Mc.2.2.2.2.2 ≤ 416) (hst : stw st ≤ 8) (hd : decode code pc = .ok (.invokevirtual idx, 3)) (hst' : av.reverse ++ zr k 0 :: st = st') (hsn : rc.toList ++ st = stn) (hk9 : ¬ k = 9999) (hav : av.all nrf = true) (hrc : ∀ v, rc = some v → nrf v = true) (hC : gC hm ≤ 600000 ∧ gS hm ≤ 7302249) (kk : LV X b L xs bb (pc + 3) ls stn hm) : LV X b L xs bb pc ls st' h := by
  subst hst'
  subst hsn
  intro p l e s m below meth c' H locs S ad P
  have hts := tbz_lw P.1.2.2.2.2.2.1
  have hss : ∀ v ∈ zr k 0 :: st, wl h v := fun v hv => P.k v (List.mem_append_right _ hv)
  have hkl : lz h (zr k 0) := lz_r ((hss _ List.mem_cons_self (k, 0) rfl).resolve_left hk9)
  have hal : lzs h (zr k 0 :: av) := lzs_c hkl fun v hv => nrf_l (List.all_eq_true.mp hav v hv) h
  have k1 := C.1.1
  have k2 := C.1.2.1
  have hx : zw b ad (zr k 0) = .ref (ad k 0) := if_neg hk9
  have ha : av.map (zw b ad) = av.map (zv ad) := List.map_congr_left fun v hv => nrf_z (List.all_eq_true.mp hav v hv) ad
  obtain ⟨-, cellB, g1, g2, g3, -⟩ := okc_o hk (P.2.2.2.1.1 k 0 (hkl (k, 0) rfl))
  have cw : CallW room_1 s #[Value.ref b] RL Mc.1.cls idx Mc.1 Mc.2.1 Mc.2.2.1 Mc.2.2.2.1 (.code Mc.1 Mc.2.1 Mc.2.2.1 Mc.2.2.2.1 :: tbz) (rmz Mc (gC hm - gC h) (gS hm - gS h)) (gC hm - gC h) (gS hm - gS h) np :=
    ⟨callB_of np hts (tbz_good lc.1) rfl rfl rfl (hts _ lc.2.1) (hts _ hl) lc.2.2 ft, hts _ hin, hts _ hse⟩
  refine W_run (va_runV (As := av.map (zv ad)) (rest := st.map (zw b ad)) (b := ad k 0) (Ts := tbz) (cc := code) (nL := 4) ⟨P.1.1, P.1.2.1, P.1.2.2.2.1, P.1.2.2.2.2.1, hts⟩ (C.2 l ad) cw ⟨pz_blind, ⟨cellB, g1, by rw [g3]; rfl, by rw [g2, ← hqc]; exact (P.2.2.1.1.1 c q hq).2.1⟩, fun U hU hW => ⟨rfl, by rw [hU]; exact P.2.2.2.1, P.2.2.1.warm hW, hal, P.2.2.2.2.1⟩⟩ rfl (by rw [List.length_map]; exact hn) P.2.2.2.2.2.2.2.1.1 (by show (av.reverse ++ zr k 0 :: st).map (zw b ad) = _; rw [List.map_append, List.map_reverse, ha, List.map_cons, hx]) (lv_room (by rw [stw_w]; exact hst)) hd ⟨by show gC h + (gC hm - gC h) ≤ 600000; omega, by show gS h + (gS hm - gS h) ≤ 7302249; omega⟩) P.2.2.2.2.2.1 fun ad1 H1 locs1 Z ex hlz hly hS => ?_
  have K := kk p l e s m below meth c' H1 locs1 S ad1 (lp_call P C.1 (wls_t hss) Z ex hlz hly hS hC)
  rw [show gC hm = gC h + (gC hm - gC h) by omega, show gS hm = gS h + (gS hm - gS h) by omega, List.map_append, zws_ex (wls_t hss) ex, ← rc_zw ad1 hrc] at K
  exact K
theorem l_cI {k n np idx : Nat} (C : Ct X Mc bb [zr k n] h none hm) (lc : Lc Mc np) (hl : Cond.methodLink RL idx Mc.1 ∈ tbz) (hin : Cond.instanceMethod Mc.1 ∈ tbz) (hi : Mc.1.name = "<init>") (hrt : Mc.2.2.2.1 = none) (hn : 0 = np) (ft : Mc.2.2.2.2.1 + 1 ≤ 10 ∧ 8 + (Mc.2.2.1 + 11) + Mc.2.2.2.2.2 ≤ 416) (hst : stw st ≤ 8) (hd : decode code pc = .ok (.invokespecial idx, 3)) (hk9 : ¬ k = 9999) (hC : gC hm ≤ 600000 ∧ gS hm ≤ 7302249) (kk : LV X b L xs bb (pc + 3) ls st hm) : LV X b L xs bb pc ls (zr k n :: st) h := by
  intro p l e s m below meth c' H locs S ad P
  have hts := tbz_lw P.1.2.2.2.2.2.1
  have hss := P.k
  have hkl : lz h (zr k n) := lz_r ((hss _ List.mem_cons_self (k, n) rfl).resolve_left hk9)
  have k1 := C.1.1
  have k2 := C.1.2.1
  have hx : zw b ad (zr k n) = .ref (ad k n) := if_neg hk9
  have hG := tbz_good lc.1
  rw [hrt] at hG
  have cw : CallB room_1 s #[Value.ref b] RL idx Mc.1 Mc.2.1 Mc.2.2.1 none (.code Mc.1 Mc.2.1 Mc.2.2.1 none :: tbz) (rmz Mc (gC hm - gC h) (gS hm - gS h)) (gC hm - gC h) (gS hm - gS h) np ∧ Mc.1.name = "<init>" ∧ (Cond.instanceMethod Mc.1).before #[Value.ref b] s = true :=
    ⟨callB_of np hts hG rfl rfl rfl (hts _ lc.2.1) (hts _ hl) lc.2.2 ft, hi, hts _ hin⟩
  have hM := C.2 l ad
  rw [hrt] at hM
  refine W_run (va_runI (As := []) (rest := st.map (zw b ad)) (b := ad k n) (Ts := tbz) (cc := code) (nL := 4) ⟨P.1.1, P.1.2.1, P.1.2.2.2.1, P.1.2.2.2.2.1, hts⟩ hM cw ⟨pz_blind, fun U hU hW => ⟨rfl, by rw [hU]; exact P.2.2.2.1, P.2.2.1.warm hW, (fun v hv => by rcases List.mem_cons.mp hv with e | e; rw [e]; exact hkl; cases e), P.2.2.2.2.1⟩⟩ rfl hn P.2.2.2.2.2.2.2.1.1 (by show (zr k n :: st).map (zw b ad) = _; rw [List.map_cons, hx]; rfl) (lv_room (by rw [stw_w]; exact hst)) hd ⟨by show gC h + (gC hm - gC h) ≤ 600000; omega, by show gS h + (gS hm - gS h) ≤ 7302249; omega⟩) P.2.2.2.2.2.1 fun ad1 H1 locs1 Z ex hlz hly hS => ?_
  have K := kk p l e s m below meth c' H1 locs1 S ad1 (lp_call (rc := none) P C.1 (wls_t hss) Z ex (fun v z => by cases z) hly hS hC)
  rw [show gC hm = gC h + (gC hm - gC h) by omega, show gS hm = gS h + (gS hm - gS h) by omega, zws_ex (wls_t hss) ex] at K
  exact K
theorem l_new {k c idx : Nat} {q : vw_C} (hk : kd k = .inl c) (hc13 : c < 13) (hq : classes[c]? = some q) (hw : Cond.classLink RL idx q.1 ∈ tbz) (hc : Cl c) (hy : bb = false) (hk9 : ¬ k = 9999) (hd : decode code pc = .ok (.new idx, 3)) (hC : gC h + 1 ≤ 600000 ∧ gS h + nf c ≤ 7302249) (kk : LV X b L xs bb (pc + 3) ls (zr k (gN h k) :: st) (nw h k (nf c))) : LV X b L xs bb pc ls st h := by
  intro p l e s m below meth c' H locs S ad P
  obtain ⟨q', ty, hq', hnf, hin, hty, hnn, htb, hins, hini⟩ := hc
  cases hq.symm.trans hq'
  have hts := tbz_lw P.1.2.2.2.2.2.1
  have hKn := P.2.2.1.1.1 c _ hq
  refine W.newcK (n := q.2.2) P.1.1 P.1.2.1 P.1.2.2.2.2.1 (hts _ hw) (hts _ hins) (hts _ hini) rfl hd (by show gC h + 1 ≤ 600000; omega) (by show gS h + q.2.2 ≤ 7302249; omega) hKn.2.1 rfl fun H1 kC hkC e1 z1 o1 => ?_
  have ex := adn_ex ad h k H.size
  have le2 := nw_le h k (nf c)
  have ok : okc X (nw h k (nf c)) (adn ad h k H.size) H1 k (gN h k) := by
    refine okc_o' hk hc13 ?_
    rw [adn_at, ← hnf]
    refine (u_born ty hts hin hKn hkC e1 hty).to fun j hj => ?_
    rw [ov_nw]
    have := htb j hj
    generalize ft c j = t at this ⊢
    generalize ty j = y at this ⊢
    revert this
    unfold tyb
    split <;> first | (intro _; rfl) | (intro z; cases z)
  obtain ⟨A, eX, K, Z, Y, SS, hCC, lv, wl1, wl2⟩ := P
  have K2 := kk p l e s m below meth c' H1 locs S (adn ad h k H.size) ⟨A, eX, K, Z.new ok z1 o1, (fun hb => by rw [hy] at hb; cases hb), ⟨Nat.le_trans SS.1 (by omega), fun x q1 q2 => (o1 x (Nat.lt_of_lt_of_le q1 SS.1)).trans (SS.2.1 x q1 q2), SS.2.2⟩, hC, by rw [zwl_ex wl1 ex]; exact lv, fun q hq => (wl1 q hq).up le2, wls_c (fun x z => by cases z; exact Or.inr (by show gN h k < gN (nw h k (nf c)) k; rw [nw_N]; exact Nat.lt_succ_self _)) fun v hv => (wl2 v hv).up le2⟩
  rw [List.map_cons, show zw b (adn ad h k H.size) (zr k (gN h k)) = .ref H.size from (if_neg hk9).trans (congrArg Value.ref (adn_at ad h k H.size)), zws_ex wl2 ex] at K2
  rw [show q.2.2 = nf c from hnf]
  exact K2
theorem l_ly (hy : Ly h) (kk : LV X b L xs true pc ls st h) : LV X b L xs false pc ls st h := fun p l e s m below meth c' H locs S ad P => kk p l e s m below meth c' H locs S ad ⟨P.1, P.2.1, P.2.2.1, P.2.2.2.1, fun _ => hy, P.2.2.2.2.2⟩
end LCalls
section LMac
variable {X : Cz} {b L : Nat} {xs : Nat → Int32} {bb : Bool} {pc : Nat} {ls : List (Nat × AV)} {st : List AV} {h : Hp}
theorem l_lshl {x : Int64} {y : Int32} (hd : decode code pc = .ok (.lshl, 1)) (k : LV X b L xs bb (pc + 1) ls (zj (x <<< (y.toInt64 &&& 63)) :: st) h) : LV X b L xs bb pc ls (zi y :: zj x :: st) h := fun p l e s m below meth c H locs S ad P => lv_lshl P.1.1 P.1.2.1 hd rfl (k p l e s m below meth c H locs S ad (P.ns (wls_c (wl_j h _) (wls_t (wls_t P.k)))))
theorem l_land {x y : Int64} (hd : decode code pc = .ok (.land, 1)) (k : LV X b L xs bb (pc + 1) ls (zj (x &&& y) :: st) h) : LV X b L xs bb pc ls (zj y :: zj x :: st) h := fun p l e s m below meth c H locs S ad P => lv_land P.1.1 P.1.2.1 hd (k p l e s m below meth c H locs S ad (P.ns (wls_c (wl_j h _) (wls_t (wls_t P.k)))))
theorem l_lor {x y : Int64} (hd : decode code pc = .ok (.lor, 1)) (k : LV X b L xs bb (pc + 1) ls (zj (x ||| y) :: st) h) : LV X b L xs bb pc ls (zj y :: zj x :: st) h := fun p l e s m below meth c H locs S ad P => lv_lor P.1.1 P.1.2.1 hd (k p l e s m below meth c H locs S ad (P.ns (wls_c (wl_j h _) (wls_t (wls_t P.k)))))
theorem l_ldc2 {i : Nat} {v : Int64} (hd : decode code pc = .ok (.ldc2_w i, 3)) (hw : Cond.constantLong RL i v ∈ tbz) (k : LV X b L xs bb (pc + 3) ls (zj v :: st) h) : LV X b L xs bb pc ls st h := fun p l e s m below meth c H locs S ad P => lv_ldc2 P.1.1 P.1.2.1 P.1.2.2.2.2.1 (tbz_lw P.1.2.2.2.2.2.1 _ hw) hd (k p l e s m below meth c H locs S ad (P.ns (wls_c (wl_j h _) P.k)))
/-- the law's locals within its loop -/
abbrev lsd (i : Int32) : List (Nat × AV) := [(3, zi i), (2, zr 12 0), (1, zr 11 0), (0, zs)]
theorem ibk {i v : Int32} {w : Nat} (hi : 0 ≤ i.toInt ∧ i.toInt + 9 ≤ (L : Int)) (hL : L ≤ 4608) (hv : v.toInt = (w : Int)) (hw : w < 9) : ib (i + v) L ∧ ix (i + v) = ix i + w := by
  have e : (i + v).toInt = i.toInt + (w : Int) := by
    rw [Int32.toInt_add, hv]
    exact Int.bmod_eq_of_le (by omega) (by omega)
  refine ⟨⟨by omega, by omega⟩, ?_⟩
  unfold ix
  omega
theorem l_sc {i v : Int32} {n : Int} {w : Nat} (hi : 0 ≤ i.toInt ∧ i.toInt + 9 ≤ (L : Int)) (hL : L ≤ 4608) (d0 : decode code pc = .ok (.aload_n 0, 1)) (d1 : decode code (pc + 1) = .ok (.iload_n 3, 1)) (d2 : decode code (pc + 1 + 1) = .ok (.iconst n, 1)) (hv : Int32.ofInt n = v) (hvw : v.toInt = (w : Int)) (hw : w < 9) (d3 : decode code (pc + 1 + 1 + 1) = .ok (.iadd, 1)) (d4 : decode code (pc + 1 + 1 + 1 + 1) = .ok (.iaload, 1)) (k : LV X b L xs bb (pc + 5) (lsd i) (zi (xs (ix i + w)) :: st) h) : LV X b L xs bb pc (lsd i) st h := by
  obtain ⟨q1, q2⟩ := ibk hi hL hvw hw
  refine l_aload_n (j := 3) (q := (9999, 0)) d0 rfl ?_
  refine l_iload_n (j := 0) d1 rfl ?_
  refine l_iconst d2 hv ?_
  refine l_iadd d3 ?_
  refine l_sld q1 d4 ?_
  rw [q2]
  exact k
theorem l_sb {i v : Int32} {n : Int} {w : Nat} (hi : 0 ≤ i.toInt ∧ i.toInt + 9 ≤ (L : Int)) (hL : L ≤ 4608) (d0 : decode code pc = .ok (.aload_n 0, 1)) (d1 : decode code (pc + 1) = .ok (.iload_n 3, 1)) (d2 : decode code (pc + 1 + 1) = .ok (.bipush n, 2)) (hv : (Int8.ofInt n).toInt32 = v) (hvw : v.toInt = (w : Int)) (hw : w < 9) (d3 : decode code (pc + 1 + 1 + 2) = .ok (.iadd, 1)) (d4 : decode code (pc + 1 + 1 + 2 + 1) = .ok (.iaload, 1)) (k : LV X b L xs bb (pc + 6) (lsd i) (zi (xs (ix i + w)) :: st) h) : LV X b L xs bb pc (lsd i) st h := by
  obtain ⟨q1, q2⟩ := ibk hi hL hvw hw
  refine l_aload_n (j := 3) (q := (9999, 0)) d0 rfl ?_
  refine l_iload_n (j := 0) d1 rfl ?_
  refine l_bipush d2 hv ?_
  refine l_iadd d3 ?_
  refine l_sld q1 d4 ?_
  rw [q2]
  exact k
end LMac
