/-! ===== rows: arrays, new cells, returns ===== -/
def ix (i : Int32) : Nat := i.toInt.toNat
abbrev ib (i : Int32) (n : Nat) : Prop := 0 ≤ i.toInt ∧ i.toInt < (n : Int)
theorem ib_in {i : Int32} {n : Nat} (h : ib i n) : vp_in i n := by
  rintro (q | q)
  · have := Int32.lt_iff_toInt_lt.mp q
    have h0 := h.1
    simp at this
    omega
  · have q : n ≤ i.toInt.toNat := q
    have h0 := h.1
    have h2 := h.2
    omega
def tyA (t : Nat) : FieldType := if t = 0 then .int else if t = 1 then .boolean else if t = 2 then .long else if t = 3 then .object RX8 else if t = 4 then .object RX5 else .object RX2
section Arrs
variable {X : Cz} {M : Mi} {b : Bool} {h0 : Hp} {pc : Nat} {ls ls' : List (Nat × AV)} {st st' : List AV} {h h' : Hp} {r : Option AV} {h1 : Hp}
theorem Kz.arr {U : State} (K : Kz X U) {t : Nat} (ht : t < 6) : ArrOfT U (X.2.2.2 t) (tyA t) ∧ va_RA U (X.2.2.2 t) (tyA t) := by
  match t, ht with
  | 0, _ => exact K.1.2 0 _ rfl
  | 1, _ => exact K.1.2 1 _ rfl
  | 2, _ => exact K.1.2 2 _ rfl
  | 3, _ => exact K.1.2 3 _ rfl
  | 4, _ => exact K.1.2 4 _ rfl
  | 5, _ => exact K.1.2 5 _ rfl
theorem hin_of {c : ClassId} {n : Nat} {f : Nat → Value} {i : Int32} (h : ib i n) : ¬ (i < 0 ∨ (arrV c n f).slots.size ≤ i.toNatClampNeg) := by
  rw [arrV_size]; exact ib_in h
theorem rd_of {c : ClassId} {n : Nat} {f : Nat → Value} {i : Int32} (h : ib i n) : (arrV c n f).slots[i.toNatClampNeg]? = some (f (ix i)) := arrV_read _ _ (Nat.not_le.mp fun q => ib_in h (Or.inr q))
theorem v_iald {k n len : Nat} {i : Int32} (hk : kd k = .inr (0, len)) (hi : ib i len) (hd : decode M.2.1 pc = .ok (.iaload, 1)) (kk : V X M b h0 (pc + 1) ls (zi (gI h k n (ix i)) :: st) h r h1) : V X M b h0 pc ls (zi i :: zr k n :: st) h r h1 := by
  refine ⟨kk.1, fun l p e s m args below meth c' H locs L ad ad0 P => ?_⟩
  exact W.iald (v := .int (gI h k n (ix i))) P.1.1 P.1.2.1 (okc_a hk (P.ok P.hs.t.h)).2 ((P.1.2.2.2.2.2.2.2.2.1.arr (t := 0) (by decide)).1 _ _) (fun q => by cases q) (hin_of hi) (rd_of hi) rfl rfl hd (kk.2 l p e s m args below meth c' H locs L ad ad0 (P.ns (lzs_c (lz_i h _) P.hs.t.t)))
theorem v_zald {k n len : Nat} {i : Int32} (hk : kd k = .inr (1, len)) (hi : ib i len) (hd : decode M.2.1 pc = .ok (.baload, 1)) (kk : V X M b h0 (pc + 1) ls (zi (gI h k n (ix i)) :: st) h r h1) : V X M b h0 pc ls (zi i :: zr k n :: st) h r h1 := by
  refine ⟨kk.1, fun l p e s m args below meth c' H locs L ad ad0 P => ?_⟩
  exact W.zald (v := .int (gI h k n (ix i))) P.1.1 P.1.2.1 (okc_a hk (P.ok P.hs.t.h)).2 ((P.1.2.2.2.2.2.2.2.2.1.arr (t := 1) (by decide)).1 _ _) (fun q => by cases q) (hin_of hi) (rd_of hi) rfl rfl hd (kk.2 l p e s m args below meth c' H locs L ad ad0 (P.ns (lzs_c (lz_i h _) P.hs.t.t)))
theorem v_lald {k n len : Nat} {i : Int32} (hk : kd k = .inr (2, len)) (hi : ib i len) (hd : decode M.2.1 pc = .ok (.laload, 1)) (kk : V X M b h0 (pc + 1) ls (zj (gJ h k n (ix i)) :: st) h r h1) : V X M b h0 pc ls (zi i :: zr k n :: st) h r h1 := by
  refine ⟨kk.1, fun l p e s m args below meth c' H locs L ad ad0 P => ?_⟩
  exact W.lald (v := .long (gJ h k n (ix i))) P.1.1 P.1.2.1 (okc_a hk (P.ok P.hs.t.h)).2 ((P.1.2.2.2.2.2.2.2.2.1.arr (t := 2) (by decide)).1 _ _) (fun q => by cases q) (hin_of hi) (rd_of hi) rfl rfl hd (kk.2 l p e s m args below meth c' H locs L ad ad0 (P.ns (lzs_c (lz_j h _) P.hs.t.t)))
theorem v_aald {k n len t k2 : Nat} {i : Int32} (hk : kd k = .inr (t, len)) (ht : t = 3 ∨ t = 4 ∨ t = 5) (hk2 : ek t = k2) (hi : ib i len) (hd : decode M.2.1 pc = .ok (.aaload, 1)) (kk : V X M b h0 (pc + 1) ls (zq k2 (gR h k n (ix i)) :: st) h r h1) : V X M b h0 pc ls (zi i :: zr k n :: st) h r h1 := by
  subst hk2
  refine ⟨kk.1, fun l p e s m args below meth c' H locs L ad ad0 P => ?_⟩
  have hlv : ∀ q, gR h k n (ix i) = some q → q < gN h (ek t) := fun q e => by
    have := P.2.1.2.2.2.1 k n (ix i) q (P.hs.t.h (k, n) rfl) e
    unfold sk at this
    rw [hk] at this
    exact this
  have K := kk.2 l p e s m args below meth c' H locs L ad ad0 (P.ns (lzs_c (lz_q hlv) P.hs.t.t))
  have ev : aw ad h k n t (ix i) = zv ad (zq (ek t) (gR h k n (ix i))) := by
    unfold aw
    rw [if_neg (by omega), if_neg (by omega)]
  rcases ht with rfl | rfl | rfl
  · exact W.aald (v := zv ad (zq (ek 3) (gR h k n (ix i)))) (ty := .object RX8) P.1.1 P.1.2.1 (okc_a hk (P.ok P.hs.t.h)).2 ((P.1.2.2.2.2.2.2.2.2.1.arr (t := 3) (by decide)).1 _ _) rfl (fun q => by cases q) (hin_of hi) ((rd_of hi).trans (congrArg some ev)) rfl rfl hd K
  · exact W.aald (v := zv ad (zq (ek 4) (gR h k n (ix i)))) (ty := .object RX5) P.1.1 P.1.2.1 (okc_a hk (P.ok P.hs.t.h)).2 ((P.1.2.2.2.2.2.2.2.2.1.arr (t := 4) (by decide)).1 _ _) rfl (fun q => by cases q) (hin_of hi) ((rd_of hi).trans (congrArg some ev)) rfl rfl hd K
  · exact W.aald (v := zv ad (zq (ek 5) (gR h k n (ix i)))) (ty := .object RX2) P.1.1 P.1.2.1 (okc_a hk (P.ok P.hs.t.h)).2 ((P.1.2.2.2.2.2.2.2.2.1.arr (t := 5) (by decide)).1 _ _) rfl (fun q => by cases q) (hin_of hi) ((rd_of hi).trans (congrArg some ev)) rfl rfl hd K
theorem v_iast {k n len : Nat} {i v : Int32} (hk : kd k = .inr (0, len)) (hi : ib i len) (hd : decode M.2.1 pc = .ok (.iastore, 1)) (kk : V X M b h0 (pc + 1) ls st (sI h k n (ix i) v) r h1) : V X M b h0 pc ls (zi v :: zi i :: zr k n :: st) h r h1 := by
  refine ⟨kk.1, fun l p e s m args below meth c' H locs L ad ad0 P => ?_⟩
  have hn := P.hs.t.t.h (k, n) rfl
  refine W.iast P.1.1 P.1.2.1 (okc_a hk (P.ok P.hs.t.t.h)).2 ((P.1.2.2.2.2.2.2.2.2.1.arr (t := 0) (by decide)).1 _ _) (fun q => by cases q) (hin_of hi) rfl rfl hd fun H1 e1 z1 oq => ?_
  refine kk.2 l p e s m args below meth c' H1 _ L ad ad0 (P.up hn rfl (fun _ => rfl) rfl rfl sm_I (okc_a' hk (Nat.le_of_ble_eq_true rfl) ?_) z1 oq (fun i q e => P.2.1.2.2.2.1 k n i q hn e) (fun _ L => L) P.hs.t.t.t)
  rw [aw_I (Or.inl rfl), ← arrV_store]
  exact e1
theorem v_zast {k n len : Nat} {i v : Int32} (hk : kd k = .inr (1, len)) (hi : ib i len) (hd : decode M.2.1 pc = .ok (.bastore, 1)) (kk : V X M b h0 (pc + 1) ls st (sI h k n (ix i) (v &&& 1)) r h1) : V X M b h0 pc ls (zi v :: zi i :: zr k n :: st) h r h1 := by
  refine ⟨kk.1, fun l p e s m args below meth c' H locs L ad ad0 P => ?_⟩
  have hn := P.hs.t.t.h (k, n) rfl
  refine W.zast P.1.1 P.1.2.1 (okc_a hk (P.ok P.hs.t.t.h)).2 ((P.1.2.2.2.2.2.2.2.2.1.arr (t := 1) (by decide)).1 _ _) (fun q => by cases q) (hin_of hi) rfl rfl hd fun H1 e1 z1 oq => ?_
  refine kk.2 l p e s m args below meth c' H1 _ L ad ad0 (P.up hn rfl (fun _ => rfl) rfl rfl sm_I (okc_a' hk (Nat.le_of_ble_eq_true rfl) ?_) z1 oq (fun i q e => P.2.1.2.2.2.1 k n i q hn e) (fun _ L => L) P.hs.t.t.t)
  rw [aw_I (Or.inr rfl), ← arrV_store]
  exact e1
theorem v_last {k n len : Nat} {i : Int32} {v : Int64} (hk : kd k = .inr (2, len)) (hi : ib i len) (hd : decode M.2.1 pc = .ok (.lastore, 1)) (kk : V X M b h0 (pc + 1) ls st (sJ h k n (ix i) v) r h1) : V X M b h0 pc ls (zj v :: zi i :: zr k n :: st) h r h1 := by
  refine ⟨kk.1, fun l p e s m args below meth c' H locs L ad ad0 P => ?_⟩
  have hn := P.hs.t.t.h (k, n) rfl
  refine W.last P.1.1 P.1.2.1 (okc_a hk (P.ok P.hs.t.t.h)).2 ((P.1.2.2.2.2.2.2.2.2.1.arr (t := 2) (by decide)).1 _ _) (fun q => by cases q) (hin_of hi) rfl rfl hd fun H1 e1 z1 oq => ?_
  refine kk.2 l p e s m args below meth c' H1 _ L ad ad0 (P.up hn rfl (fun _ => rfl) rfl rfl sm_J (okc_a' hk (Nat.le_of_ble_eq_true rfl) ?_) z1 oq (fun i q e => P.2.1.2.2.2.1 k n i q hn e) (fun _ L => L) P.hs.t.t.t)
  rw [aw_J, ← arrV_store]
  exact e1
theorem v_aast {k n len t k2 z : Nat} {i : Int32} {q : vw_C} (hk : kd k = .inr (t, len)) (ht : t = 3 ∨ t = 4 ∨ t = 5) (hk2 : ek t = k2) (hkk : kd k2 = .inl k2) (hq : classes[k2]? = some q) (htq : tyA t = .object q.1) (hy : b = false ∨ lyk k = true) (hi : ib i len) (hd : decode M.2.1 pc = .ok (.aastore, 1)) (kk : V X M b h0 (pc + 1) ls st (sR h k n (ix i) (some z)) r h1) : V X M b h0 pc ls (zr k2 z :: zi i :: zr k n :: st) h r h1 := by
  refine ⟨kk.1, fun l p e s m args below meth c' H locs L ad ad0 P => ?_⟩
  have hn := P.hs.t.t.h (k, n) rfl
  have K := P.1.2.2.2.2.2.2.2.2.1
  obtain ⟨-, cellV, g1, g2, g3, -⟩ := okc_o hkk (P.ok P.hs.h)
  have hcls := (K.1.1 k2 q hq).2
  have hRA := (K.arr (t := t) (by omega)).2
  rw [htq] at hRA
  obtain ⟨kA, comp, k1, k3, k4, -⟩ := hRA
  have hcomp : comp = X.2.1 k2 := Option.some.inj (k4.symm.trans hcls.1)
  subst hcomp
  obtain ⟨kC, hkC, -⟩ := hcls.2
  have h0' : ¬ i < 0 := fun z => ib_in hi (Or.inl z)
  have hlt : i.toNatClampNeg < len := Nat.not_le.mp fun z => ib_in hi (Or.inr z)
  refine W.aast P.1.1 P.1.2.1 (okc_a hk (P.ok P.hs.t.t.h)).2 (fun q h => by cases h) (fun h => by cases h) k1 k3 rfl hkC ⟨h0', by rw [arrV_size]; exact hlt⟩ g1 (fun q h => by rw [g3] at h; cases h) (by rw [g2]; exact hkC) (by rw [g2]; exact va_assign hcls) rfl rfl hd fun H1 e1 z1 oq => ?_
  refine kk.2 l p e s m args below meth c' H1 _ L ad ad0 (P.up hn rfl (fun _ => rfl) rfl rfl sm_R (okc_a' hk (by show t < 6; omega) ?_) z1 oq (sR_ref (o := some z) (k2 := k2) (by unfold sk; rw [hk]; exact hk2) (fun i q e => P.2.1.2.2.2.1 k n i q hn e) P.hs.h) (fun hb L => by
    rcases hy with hy | hy
    · rw [hy] at hb; cases hb
    · exact Ly_R (lyf_k hy) L) P.hs.t.t.t)
  rw [aw_R (by show ¬ (t = 0 ∨ t = 1); omega) (by show ¬ t = 2; omega), ← arrV_store, hk2]
  exact e1
theorem v_alen {k n len t : Nat} (hk : kd k = .inr (t, len)) (hd : decode M.2.1 pc = .ok (.arraylength, 1)) (kk : V X M b h0 (pc + 1) ls (zi (Int32.ofNat len) :: st) h r h1) : V X M b h0 pc ls (zr k n :: st) h r h1 := by
  refine ⟨kk.1, fun l p e s m args below meth c' H locs L ad ad0 P => ?_⟩
  obtain ⟨h6, ha⟩ := okc_a hk (P.ok P.hs.h)
  exact W.alen (n := Int32.ofNat len) P.1.1 P.1.2.1 ha ((P.1.2.2.2.2.2.2.2.2.1.arr (t := t) h6).1 _ _) (by rw [arrV_size] <;> rfl) rfl rfl hd (kk.2 l p e s m args below meth c' H locs L ad ad0 (P.ns (lzs_c (lz_i h _) P.hs.t)))
theorem ov_nw {ad : Ad} {k z c : Nat} (j : Nat) : ov ad (nw h k z) k (gN h k) c j = if ft c j = 0 ∨ ft c j = 3 then .int 0 else if ft c j = 1 then .long 0 else .null := by
  unfold ov
  rw [show gI (nw h k z) k (gN h k) j = 0 from if_pos ⟨rfl, rfl⟩, show gJ (nw h k z) k (gN h k) j = 0 from if_pos ⟨rfl, rfl⟩, show gR (nw h k z) k (gN h k) j = none from if_pos ⟨rfl, rfl⟩]
  rfl
theorem aw_nw {ad : Ad} {k z t : Nat} : aw ad (nw h k z) k (gN h k) t = fun _ => if t = 0 ∨ t = 1 then .int 0 else if t = 2 then .long 0 else .null := by
  funext j
  unfold aw
  rw [show gI (nw h k z) k (gN h k) j = 0 from if_pos ⟨rfl, rfl⟩, show gJ (nw h k z) k (gN h k) j = 0 from if_pos ⟨rfl, rfl⟩, show gR (nw h k z) k (gN h k) j = none from if_pos ⟨rfl, rfl⟩]
  rfl
end Arrs
