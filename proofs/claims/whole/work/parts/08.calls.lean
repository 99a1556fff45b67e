/-! ===== rows: new cells, returns, calls, a method's entry ===== -/
section News
variable {X : Cz} {M : Mi} {b : Bool} {h0 : Hp} {pc : Nat} {ls ls' : List (Nat × AV)} {st st' : List AV} {h h' : Hp} {r : Option AV} {h1 : Hp}
theorem pm_nw {k z : Nat} {p : Program} {s : State} {m : MethodId} {args : Array Value} {meth : Method} {cd : Code} {H H1 : Heap} {locs : List Loc} {L : Array Slot} {ad ad0 : Ad} (P : Pm X M b h0 ls st h p s m args meth cd H locs L ad ad0) (hs : lzs h st') (hy : b = false ∨ lyk k = true) (ok : okc X (nw h k z) (adn ad h k H.size) H1 k (gN h k)) (z1 : H1.size = H.size + 1) (oq : ∀ q : Nat, q < H.size → H1[q]? = H[q]?) :
    Pm X M b h0 ls (zr k (gN h k) :: st') (nw h k z) p s m args meth cd H1 locs L (adn ad h k H.size) ad0 := by
  obtain ⟨E, Z, Y, l1, l2, l3, S, X1, le1⟩ := P
  have le2 := nw_le h k z
  refine ⟨E, Z.new ok z1 oq, fun hb => ?_, l1.up le2, lzs_c (lz_r ?_) (hs.up le2), ?_, ?_, X1.tr le1 (adn_ex ad h k H.size), le1.tr le2⟩
  · rcases hy with hy | hy
    · rw [hy] at hb; cases hb
    · exact Ly_nw hy (Y hb)
  · rw [nw_N]; exact Nat.lt_succ_self _
  · rw [zl_ex l1 (adn_ex ad h k H.size)]; exact l3
  · exact ⟨Nat.le_trans S.1 (by omega), fun x q1 q2 => (oq x (Nat.lt_of_lt_of_le q1 S.1)).trans (S.2.1 x q1 q2), S.2.2⟩
theorem adn_at (ad : Ad) (h : Hp) (k a : Nat) : adn ad h k a k (gN h k) = a := if_pos ⟨rfl, rfl⟩
theorem v_new {k c idx : Nat} {q : vw_C} (hk : kd k = .inl c) (hc13 : c < 13) (hq : classes[c]? = some q) (hw : Cond.classLink M.1.cls idx q.1 ∈ tbz) (hc : Cl c) (hy : b = false ∨ lyk k = true) (hd : decode M.2.1 pc = .ok (.new idx, 3)) (kk : V X M b h0 (pc + 3) ls (zr k (gN h k) :: st) (nw h k (nf c)) r h1) : V X M b h0 pc ls st h r h1 := by
  refine ⟨(nw_le h k (nf c)).tr kk.1, fun l p e s m args below meth c' H locs L ad ad0 P => ?_⟩
  obtain ⟨q', ty, hq', hnf, hin, hty, hnn, htb, hins, hini⟩ := hc
  cases hq.symm.trans hq'
  have hts := P.1.2.2.2.1
  have hle : gC h0 ≤ gC h ∧ gS h0 ≤ gS h := ⟨P.2.2.2.2.2.2.2.2.1, P.2.2.2.2.2.2.2.2.2.1⟩
  have k1 : gC h + 1 ≤ gC h1 := kk.1.1
  have k2 : gS h + nf c ≤ gS h1 := kk.1.2.1
  have hKn := P.1.2.2.2.2.2.2.2.2.1.1.1 c _ hq
  refine W.newcK (n := q.2.2) P.1.1 P.1.2.1 P.1.2.2.2.2.1 (hts _ hw) (hts _ hins) (hts _ hini) rfl hd (by show gC h - gC h0 + 1 ≤ gC h1 - gC h0; omega) (by show gS h - gS h0 + q.2.2 ≤ gS h1 - gS h0; omega) hKn.2.1 rfl fun H1 kC hkC e1 z1 o1 => ?_
  have hst : (st.map (zv ad)) = st.map (zv (adn ad h k H.size)) := (zs_ex P.hs (adn_ex ad h k H.size)).symm
  have K := kk.2 l p e s m args below meth c' H1 locs L (adn ad h k H.size) ad0 (pm_nw P P.hs hy (okc_o' hk hc13 ?_) z1 o1)
  · rw [show gC (nw h k (nf c)) - gC h0 = gC h - gC h0 + 1 by show gC h + 1 - gC h0 = _; omega, show gS (nw h k (nf c)) - gS h0 = gS h - gS h0 + q.2.2 by show gS h + nf c - gS h0 = _; omega] at K
    rw [List.map_cons, show zv (adn ad h k H.size) (zr k (gN h k)) = .ref H.size from congrArg Value.ref (adn_at ad h k H.size), ← hst] at K
    exact K
  · rw [adn_at, ← hnf]
    refine (u_born ty hts hin hKn hkC e1 hty).to fun j hj => ?_
    rw [ov_nw]
    have := htb j hj
    generalize ft c j = t at this ⊢
    generalize ty j = y at this ⊢
    revert this
    unfold tyb
    split <;> first | (intro _; rfl) | (intro z; cases z)
theorem v_newa {k t len idx : Nat} {at0 : ArrayType} {n : Int32} (hk : kd k = .inr (t, len)) (ht : t < 3) (hta : newarray.typeOf at0 = tyA t) (hw : Cond.arrayClass (newarray.typeOf at0) ∈ tbz) (hn : ¬ n < 0) (hN : n.toNatClampNeg = len) (hby : len * componentBytes (newarray.typeOf at0) ≤ 536870912) (hy : b = false ∨ lyk k = true) (hd : decode M.2.1 pc = .ok (.newarray at0, 2)) (kk : V X M b h0 (pc + 2) ls (zr k (gN h k) :: st) (nw h k len) r h1) : V X M b h0 pc ls (zi n :: st) h r h1 := by
  refine ⟨(nw_le h k len).tr kk.1, fun l p e s m args below meth c' H locs L ad ad0 P => ?_⟩
  have hts := P.1.2.2.2.1
  have hle : gC h0 ≤ gC h ∧ gS h0 ≤ gS h := ⟨P.2.2.2.2.2.2.2.2.1, P.2.2.2.2.2.2.2.2.2.1⟩
  have k1 : gC h + 1 ≤ gC h1 := kk.1.1
  have k2 : gS h + len ≤ gS h1 := kk.1.2.1
  refine va_newaK P.1.1 P.1.2.1 (hts _ hw) rfl hd rfl hn hN hby (by show gC h - gC h0 + 1 ≤ gC h1 - gC h0; omega) (by show gS h - gS h0 + len ≤ gS h1 - gS h0; omega) rfl fun H1 cA e1 z1 o1 hAr hNm => ?_
  have hst : (st.map (zv ad)) = st.map (zv (adn ad h k H.size)) := (zs_ex P.hs.t (adn_ex ad h k H.size)).symm
  have hcA : X.2.2.2 t = cA := by
    have h9 := (P.1.2.2.2.2.2.2.2.2.1.arr (t := t) (by omega)).2
    rw [hta] at hNm
    match t, ht with
    | 0, _ => exact Option.some.inj (h9.symm.trans hNm)
    | 1, _ => exact Option.some.inj (h9.symm.trans hNm)
    | 2, _ => exact Option.some.inj (h9.symm.trans hNm)
  have K := kk.2 l p e s m args below meth c' H1 locs L (adn ad h k H.size) ad0 (pm_nw P P.hs.t hy (okc_a' hk (by show t < 6; omega) ?_) z1 o1)
  · rw [show gC (nw h k len) - gC h0 = gC h - gC h0 + 1 by show gC h + 1 - gC h0 = _; omega, show gS (nw h k len) - gS h0 = gS h - gS h0 + len by show gS h + len - gS h0 = _; omega] at K
    rw [List.map_cons, show zv (adn ad h k H.size) (zr k (gN h k)) = .ref H.size from congrArg Value.ref (adn_at ad h k H.size), ← hst] at K
    exact K
  · rw [adn_at, aw_nw, e1]
    show _ = some (arrV (X.2.2.2 t) len _)
    rw [hcA, hta]
    match t, ht with
    | 0, _ => rfl
    | 1, _ => rfl
    | 2, _ => rfl
theorem v_newq {k t len idx : Nat} {C : String} {n : Int32} (hk : kd k = .inr (t, len)) (ht : t = 3 ∨ t = 4 ∨ t = 5) (hta : tyA t = .object C) (hw : Cond.classLink M.1.cls idx C ∈ tbz) (hn : ¬ n < 0) (hN : n.toNatClampNeg = len) (hby : len * 4 ≤ 536870912) (hy : b = false ∨ lyk k = true) (hd : decode M.2.1 pc = .ok (.anewarray idx, 3)) (kk : V X M b h0 (pc + 3) ls (zr k (gN h k) :: st) (nw h k len) r h1) : V X M b h0 pc ls (zi n :: st) h r h1 := by
  refine ⟨(nw_le h k len).tr kk.1, fun l p e s m args below meth c' H locs L ad ad0 P => ?_⟩
  have hts := P.1.2.2.2.1
  have hle : gC h0 ≤ gC h ∧ gS h0 ≤ gS h := ⟨P.2.2.2.2.2.2.2.2.1, P.2.2.2.2.2.2.2.2.2.1⟩
  have k1 : gC h + 1 ≤ gC h1 := kk.1.1
  have k2 : gS h + len ≤ gS h1 := kk.1.2.1
  have hover : va_AO C s := by
    have K := P.1.2.2.2.2.2.2.2.2.1.2.2
    rcases ht with rfl | rfl | rfl
    · cases hta; exact K.1
    · cases hta; exact K.2.1
    · cases hta; exact K.2.2
  subst hN
  refine W.anew P.1.1 P.1.2.1 P.1.2.2.2.2.1 (hts _ hw) (va_AO.use hover) rfl hd rfl hn hby (by show gC h - gC h0 + 1 ≤ gC h1 - gC h0; omega) (by show gS h - gS h0 + n.toNatClampNeg ≤ gS h1 - gS h0; omega) fun cA kA comp f1 f2 f3 f4 => ?_
  generalize hH1 : H.push ({ cls := cA, slots := Array.replicate n.toNatClampNeg .null, vm := .none } : Cell) = H1
  have z1 : H1.size = H.size + 1 := by rw [← hH1, Array.size_push]
  have e1 : H1[H.size]? = some (arrV cA n.toNatClampNeg (fun _ => .null)) := by rw [← hH1, Array.getElem?_push_size, ← arrV_new]
  have o1 : ∀ q : Nat, q < H.size → H1[q]? = H[q]? := fun q hq => by rw [← hH1, Array.getElem?_push, if_neg (Nat.ne_of_lt hq)]
  have hst : (st.map (zv ad)) = st.map (zv (adn ad h k H.size)) := (zs_ex P.hs.t (adn_ex ad h k H.size)).symm
  have hcA : X.2.2.2 t = cA := by
    have h9 := (P.1.2.2.2.2.2.2.2.2.1.arr (t := t) (by omega)).2
    rw [hta] at h9
    obtain ⟨kA', comp', g1, g2, g3, g4⟩ := h9
    exact Option.some.inj (g4.symm.trans f1)
  have K := kk.2 l p e s m args below meth c' H1 locs L (adn ad h k H.size) ad0 (pm_nw P P.hs.t hy (okc_a' hk (by show t < 6; omega) ?_) z1 o1)
  · rw [show gC (nw h k n.toNatClampNeg) - gC h0 = gC h - gC h0 + 1 by show gC h + 1 - gC h0 = _; omega, show gS (nw h k n.toNatClampNeg) - gS h0 = gS h - gS h0 + n.toNatClampNeg by show gS h + n.toNatClampNeg - gS h0 = _; omega] at K
    rw [List.map_cons, show zv (adn ad h k H.size) (zr k (gN h k)) = .ref H.size from congrArg Value.ref (adn_at ad h k H.size), ← hst] at K
    exact K
  · rw [adn_at, aw_nw, e1]
    show _ = some (arrV (X.2.2.2 t) n.toNatClampNeg _)
    rw [hcA]
    rcases ht with rfl | rfl | rfl <;> rfl
/-- the end of a method -/
theorem Pm.qd {p : Program} {s : State} {m : MethodId} {args : Array Value} {meth : Method} {cd : Code} {H : Heap} {locs : List Loc} {L : Array Slot} {ad ad0 : Ad} {av : Array Value} (P : Pm X M b h0 ls st h p s m args meth cd H locs L ad ad0) {o : Option AV} (ho : ∀ v, o = some v → lz h v) (t : State) (ht : t.heap = H) : Qd X b h0 ad0 o h av s (.returned (o.map (zv ad))) t := by
  obtain ⟨E, Z, Y, l1, l2, l3, S, X1, le1⟩ := P
  exact ⟨⟨ad, rfl, by rw [ht]; exact Z, X1, ho, Y⟩, S.F ht⟩
theorem v_iret {v : Int32} (hr : M.2.2.2.1 = some .int) (hd : decode M.2.1 pc = .ok (.ireturn, 1)) : V X M b h0 pc ls [zi v] h (some (zi v)) h :=
  ⟨le.rf h, fun l p e s m args below meth c H locs L ad ad0 P => W.iret P.1.1 P.1.2.1 (P.1.2.2.1.trans hr) (fun t ht _ => P.qd (o := some (zi v)) (fun _ e => by cases e; exact lz_i h v) t ht) P.2.2.2.2.2.2.1.2.2 hd P.1.2.2.2.2.2.2.1⟩
theorem v_zret {v : Int32} (hr : M.2.2.2.1 = some .boolean) (hv : v = 0 ∨ v = 1) (hd : decode M.2.1 pc = .ok (.ireturn, 1)) : V X M b h0 pc ls [zi v] h (some (zi v)) h :=
  ⟨le.rf h, fun l p e s m args below meth c H locs L ad ad0 P => W.zret P.1.1 P.1.2.1 (P.1.2.2.1.trans hr) (nar_b hv).1 (fun t ht _ => P.qd (o := some (zi v)) (fun _ e => by cases e; exact lz_i h v) t ht) P.2.2.2.2.2.2.1.2.2 hd P.1.2.2.2.2.2.2.1⟩
theorem v_lret {v : Int64} (hr : M.2.2.2.1 = some .long) (hd : decode M.2.1 pc = .ok (.lreturn, 1)) : V X M b h0 pc ls [zj v] h (some (zj v)) h :=
  ⟨le.rf h, fun l p e s m args below meth c H locs L ad ad0 P => W.lret P.1.1 P.1.2.1 (P.1.2.2.1.trans hr) (fun t ht _ => P.qd (o := some (zj v)) (fun _ e => by cases e; exact lz_j h v) t ht) P.2.2.2.2.2.2.1.2.2 hd P.1.2.2.2.2.2.2.1⟩
theorem v_vret (hr : M.2.2.2.1 = none) (hd : decode M.2.1 pc = .ok (.return_, 1)) : V X M b h0 pc ls [] h none h :=
  ⟨le.rf h, fun l p e s m args below meth c H locs L ad ad0 P => W.vret P.1.1 P.1.2.1 (P.1.2.2.1.trans hr) (fun t ht _ => P.qd (o := none) (fun _ e => by cases e) t ht) P.2.2.2.2.2.2.1.2.2 hd P.1.2.2.2.2.2.2.1⟩
theorem v_aret {o : Option Lb} {C : String} (hr : M.2.2.2.1 = some (.object C)) (hd : decode M.2.1 pc = .ok (.areturn, 1)) : V X M b h0 pc ls [.inr (.inr o)] h (some (.inr (.inr o))) h :=
  ⟨le.rf h, fun l p e s m args below meth c H locs L ad ad0 P => W.aret P.1.1 P.1.2.1 (P.1.2.2.1.trans hr) (Or.inl ⟨C, rfl⟩) (by
    cases o with
    | none => exact Or.inl rfl
    | some q => exact Or.inr ⟨_, rfl⟩) (fun t ht _ => P.qd (o := some (.inr (.inr o))) (fun _ e => by cases e; exact P.hs.h) t ht) P.2.2.2.2.2.2.1.2.2 hd P.1.2.2.2.2.2.2.1⟩
end News
section Calls
variable {X : Cz} {M Mc : Mi} {b : Bool} {h0 : Hp} {pc : Nat} {ls ls' : List (Nat × AV)} {st st' : List AV} {h h' hm : Hp} {r rc : Option AV} {h1 : Hp}
theorem Kz.same {u U : State} (K : Kz X u) (e : u.vm = U.vm) : Kz X U := by
  have hvm : u.vm.Alike U.vm := by rw [e]; exact Vm.Alike.refl _
  exact ⟨K.1.moved hvm, fun w hw => (K.2.1 w hw).same rfl e, K.2.2.1.moved hvm, K.2.2.2.1.moved hvm, K.2.2.2.2.moved hvm⟩
theorem Kz.warm {u U : State} (K : Kz X u) (e : u.WarmedH U.vm) : Kz X U :=
  ⟨K.1.moved e.alike, fun w hw => (K.2.1 w hw).warmM e, K.2.2.1.moved e.alike, K.2.2.2.1.moved e.alike, K.2.2.2.2.moved e.alike⟩
theorem pz_blind {av : List AV} {vs : List Value} {ad : Ad} : FrameBlind (va_Pc vs (Pz X b av h ad)) := fun a U g mk q => ⟨q.1, q.2.1, q.2.2.1.same (U := U.calling g mk a) rfl, q.2.2.2⟩
/-- behind a call -/
theorem W_run {p : Program} {l : Launch} {e : Env} {R : Room} {s : State} {m : MethodId} {args : Array Value} {below : List Frame} {meth : Method} {cd : Code} {H H0 : Heap} {locs : List Loc} {cells slots mc ms : Nat} {Q : State → Prop} {L : Array Slot} {rest st0 : List Value} {ad : Ad} {a : Array Value} (hr : va_Run p l e R s m args below meth cd H locs cells slots mc ms (F0 m pc L st0) rest (Qd X b h ad rc hm a) (AA X)) (hS : va_S (AA X) H0 H locs)
    (kk : ∀ (ad1 : Ad) (H1 : Heap) (locs1 : List Loc), Hz X hm ad1 H1 → Ex h ad ad1 → (∀ v, rc = some v → lz hm v) → (b = true → Ly hm) → va_S (AA X) H0 H1 locs1 → W p l e R s m args below meth cd H1 locs1 (cells + mc) (slots + ms) Q (F0 m (pc + 3) L ((rc.map (zv ad1)).toList ++ rest))) : W p l e R s m args below meth cd H locs cells slots Q (F0 m pc L st0) := by
  intro T hT X
  obtain ⟨v, st₀, t, T', L', h0, X', hL, e1, e2, ⟨⟨ad1, hv, hz, hx, hlz, hly⟩, hz2, hk⟩, st⟩ := hr T hT X
  cases hv
  rw [h0] at hz2 hk
  obtain ⟨t2, a1, b1⟩ := kk ad1 T'.heap (locs ++ L') (by rw [e1]; exact hz) hx hlz hly
    ⟨Nat.le_trans hS.1 (by rw [e1]; exact hz2), fun q q1 q2 => by rw [e1, hk q (Nat.lt_of_lt_of_le q1 hS.1) q2]; exact hS.2.1 q q1 q2, fun q hq => by
      rcases List.mem_append.mp hq with h | h
      · exact hS.2.2 q h
      · exact hL q h⟩ T' rfl X'
  exact ⟨t2, st t2 a1, b1⟩
/-- the words of the stack below the arguments -/
def stw (st : List AV) : Nat := (st.map fun v => if c2 v = true then 2 else 1).sum
theorem stw_eq (ad : Ad) (st : List AV) : ((st.map (zv ad)).map fun v => v.category).sum = stw st := by
  unfold stw
  rw [List.map_map]
  congr 1
  refine List.map_congr_left fun v _ => ?_
  rcases v with x | x | _ | q <;> rfl
/-- what the tables say of a call's callee: its code, its number of parameters -/
def Lc (Mc : Mi) (np : Nat) : Prop := Cond.code Mc.1 Mc.2.1 Mc.2.2.1 Mc.2.2.2.1 ∈ tbz ∧ Cond.initialized Mc.1.cls ∈ tbz ∧ Mc.1.cls ≠ "java/lang/invoke/MethodHandle" ∧ Mc.1.cls ≠ "java/lang/invoke/VarHandle" ∧ (parseMethodDescriptor Mc.1.desc).map (fun d => d.parameters.length) = some np
def Fits (M Mc : Mi) : Prop := Mc.2.2.2.2.1 + 1 ≤ M.2.2.2.2.1 ∧ 8 + (Mc.2.2.1 + 11) + Mc.2.2.2.2.2 ≤ M.2.2.2.2.2
theorem pm_call {av st : List AV} {p : Program} {s : State} {m : MethodId} {args : Array Value} {meth : Method} {cd : Code} {H H1 : Heap} {locs locs1 : List Loc} {L : Array Slot} {ad ad0 ad1 : Ad} (P : Pm X M b h0 ls st' h p s m args meth cd H locs L ad ad0) (hl : le h hm) (hs : lzs h st) (Z : Hz X hm ad1 H1) (ex : Ex h ad ad1) (hlz : ∀ v, rc = some v → lz hm v) (hly : b = true → Ly hm) (hS : va_S (AA X) s.heap H1 locs1) : Pm X M b h0 ls (rc.toList ++ st) hm p s m args meth cd H1 locs1 L ad1 ad0 := by
  obtain ⟨E, -, Y, l1, l2, l3, S, X1, le1⟩ := P
  refine ⟨E, Z, hly, l1.up hl, ?_, by rw [zl_ex l1 ex]; exact l3, hS, X1.tr le1 ex, le1.tr hl⟩
  cases rc with
  | none => exact hs.up hl
  | some v => exact lzs_c (hlz v rfl) (hs.up hl)
theorem v_callV {k n c np idx : Nat} {av : List AV} {q : vw_C} (C : Ct X Mc b (zr k n :: av) h rc hm) (lc : Lc Mc np) (hl : Cond.methodLink M.1.cls idx Mc.1 ∈ tbz) (hin : Cond.instanceMethod Mc.1 ∈ tbz) (hse : Cond.selects Mc.1.cls Mc.1 Mc.1 ∈ tbz) (hk : kd k = .inl c) (hq : classes[c]? = some q) (hqc : q.1 = Mc.1.cls) (hn : av.length = np) (ft : Fits M Mc) (hst : stw st ≤ 8) (hd : decode M.2.1 pc = .ok (.invokevirtual idx, 3)) (hst' : av.reverse ++ zr k n :: st = st') (kk : V X M b h0 (pc + 3) ls (rc.toList ++ st) hm r h1) : V X M b h0 pc ls st' h r h1 := by
  subst hst'
  refine ⟨C.1.tr kk.1, fun l p e s m args below meth c' H locs L ad ad0 P => ?_⟩
  have hts := P.1.2.2.2.1
  have hss : lzs h (zr k n :: st) := fun v hv => P.hs v (List.mem_append_right _ hv)
  have hav : lzs h (zr k n :: av) := lzs_c hss.h fun v hv => P.hs v (List.mem_append_left _ (List.mem_reverse.mpr hv))
  have hle : gC h0 ≤ gC h ∧ gS h0 ≤ gS h := ⟨P.2.2.2.2.2.2.2.2.1, P.2.2.2.2.2.2.2.2.2.1⟩
  have k1 := C.1.1
  have k2 := C.1.2.1
  have k3 := kk.1.1
  have k4 := kk.1.2.1
  obtain ⟨-, cellB, g1, g2, g3, -⟩ := okc_o hk (P.ok hss.h)
  have cw : CallW (rmz M (gC h1 - gC h0) (gS h1 - gS h0)) s args M.1.cls Mc.1.cls idx Mc.1 Mc.2.1 Mc.2.2.1 Mc.2.2.2.1 (.code Mc.1 Mc.2.1 Mc.2.2.1 Mc.2.2.2.1 :: tbz) (rmz Mc (gC hm - gC h) (gS hm - gS h)) (gC hm - gC h) (gS hm - gS h) np :=
    ⟨callB_of np hts (tbz_good lc.1) rfl rfl rfl (hts _ lc.2.1) (hts _ hl) lc.2.2 ft, hts _ hin, hts _ hse⟩
  refine W_run (va_runV (As := av.map (zv ad)) (rest := st.map (zv ad)) (b := ad k n) ⟨P.1.1, P.1.2.1, P.1.2.2.2.2.2.1, P.1.2.2.2.2.1, hts⟩ (C.2 l ad) cw ⟨pz_blind, ⟨cellB, g1, by rw [g3]; rfl, by rw [g2, ← hqc]; exact (P.1.2.2.2.2.2.2.2.2.1.1.1 c q hq).2.1⟩, fun U hU hW => ⟨rfl, by rw [hU]; exact P.2.1, P.1.2.2.2.2.2.2.2.2.1.warm hW, hav, P.2.2.1⟩⟩ rfl (by rw [List.length_map]; exact hn) P.2.2.2.2.2.1.1 (by show (av.reverse ++ zr k n :: st).map (zv ad) = _; rw [List.map_append, List.map_reverse]; rfl) (lv_room (by rw [stw_eq]; exact hst)) hd ⟨by show gC h - gC h0 + (gC hm - gC h) ≤ gC h1 - gC h0; omega, by show gS h - gS h0 + (gS hm - gS h) ≤ gS h1 - gS h0; omega⟩) P.2.2.2.2.2.2.1 fun ad1 H1 locs1 Z ex hlz hly hS => ?_
  have K := kk.2 l p e s m args below meth c' H1 locs1 L ad1 ad0 (pm_call (av := av) P C.1 hss.t Z ex hlz hly hS)
  rw [show gC hm - gC h0 = gC h - gC h0 + (gC hm - gC h) by omega, show gS hm - gS h0 = gS h - gS h0 + (gS hm - gS h) by omega, List.map_append, zs_ex hss.t ex] at K
  cases rc <;> exact K
theorem v_callS {np idx : Nat} {av : List AV} (C : Ct X Mc b av h rc hm) (lc : Lc Mc np) (hl : Cond.methodLink M.1.cls idx Mc.1 ∈ tbz) (hin : Cond.static Mc.1 ∈ tbz) (hn : av.length = np) (ft : Fits M Mc) (hst : stw st ≤ 8) (hd : decode M.2.1 pc = .ok (.invokestatic idx, 3)) (hst' : av.reverse ++ st = st') (kk : V X M b h0 (pc + 3) ls (rc.toList ++ st) hm r h1) : V X M b h0 pc ls st' h r h1 := by
  subst hst'
  refine ⟨C.1.tr kk.1, fun l p e s m args below meth c' H locs L ad ad0 P => ?_⟩
  have hts := P.1.2.2.2.1
  have hss : lzs h st := fun v hv => P.hs v (List.mem_append_right _ hv)
  have hav : lzs h av := fun v hv => P.hs v (List.mem_append_left _ (List.mem_reverse.mpr hv))
  have hle : gC h0 ≤ gC h ∧ gS h0 ≤ gS h := ⟨P.2.2.2.2.2.2.2.2.1, P.2.2.2.2.2.2.2.2.2.1⟩
  have k1 := C.1.1
  have k2 := C.1.2.1
  have k3 := kk.1.1
  have k4 := kk.1.2.1
  have cw : CallB (rmz M (gC h1 - gC h0) (gS h1 - gS h0)) s args M.1.cls idx Mc.1 Mc.2.1 Mc.2.2.1 Mc.2.2.2.1 (.code Mc.1 Mc.2.1 Mc.2.2.1 Mc.2.2.2.1 :: tbz) (rmz Mc (gC hm - gC h) (gS hm - gS h)) (gC hm - gC h) (gS hm - gS h) np ∧ (Cond.static Mc.1).before args s = true :=
    ⟨callB_of np hts (tbz_good lc.1) rfl rfl rfl (hts _ lc.2.1) (hts _ hl) lc.2.2 ft, hts _ hin⟩
  refine W_run (va_runS (As := av.map (zv ad)) (rest := st.map (zv ad)) ⟨P.1.1, P.1.2.1, P.1.2.2.2.2.2.1, P.1.2.2.2.2.1, hts⟩ (C.2 l ad) cw ⟨pz_blind, fun U hU hW => ⟨rfl, by rw [hU]; exact P.2.1, P.1.2.2.2.2.2.2.2.2.1.warm hW, hav, P.2.2.1⟩⟩ rfl (by rw [List.length_map]; exact hn) P.2.2.2.2.2.1.1 (by show (av.reverse ++ st).map (zv ad) = _; rw [List.map_append, List.map_reverse]) (lv_room (by rw [stw_eq]; exact hst)) hd ⟨by show gC h - gC h0 + (gC hm - gC h) ≤ gC h1 - gC h0; omega, by show gS h - gS h0 + (gS hm - gS h) ≤ gS h1 - gS h0; omega⟩) P.2.2.2.2.2.2.1 fun ad1 H1 locs1 Z ex hlz hly hS => ?_
  have K := kk.2 l p e s m args below meth c' H1 locs1 L ad1 ad0 (pm_call (av := av) P C.1 hss Z ex hlz hly hS)
  rw [show gC hm - gC h0 = gC h - gC h0 + (gC hm - gC h) by omega, show gS hm - gS h0 = gS h - gS h0 + (gS hm - gS h) by omega, List.map_append, zs_ex hss ex] at K
  cases rc <;> exact K
theorem v_callSN {np idx : Nat} {av : List AV} {host : String} (C : Ct X Mc b av h rc hm) (lc : Lc Mc np) (hl : (M.1.cls, idx, Mc.1, host) ∈ nst) (hin : Cond.static Mc.1 ∈ tbz) (hn : av.length = np) (ft : Fits M Mc) (hst : stw st ≤ 8) (hd : decode M.2.1 pc = .ok (.invokestatic idx, 3)) (hst' : av.reverse ++ st = st') (kk : V X M b h0 (pc + 3) ls (rc.toList ++ st) hm r h1) : V X M b h0 pc ls st' h r h1 := by
  subst hst'
  refine ⟨C.1.tr kk.1, fun l p e s m args below meth c' H locs L ad ad0 P => ?_⟩
  have hts := P.1.2.2.2.1
  have hss : lzs h st := fun v hv => P.hs v (List.mem_append_right _ hv)
  have hav : lzs h av := fun v hv => P.hs v (List.mem_append_left _ (List.mem_reverse.mpr hv))
  have hle : gC h0 ≤ gC h ∧ gS h0 ≤ gS h := ⟨P.2.2.2.2.2.2.2.2.1, P.2.2.2.2.2.2.2.2.2.1⟩
  have k1 := C.1.1
  have k2 := C.1.2.1
  have k3 := kk.1.1
  have k4 := kk.1.2.1
  have cw : va_CN (rmz M (gC h1 - gC h0) (gS h1 - gS h0)) s args M.1.cls idx Mc.1 host Mc.2.1 Mc.2.2.1 Mc.2.2.2.1 (.code Mc.1 Mc.2.1 Mc.2.2.1 Mc.2.2.2.1 :: tbz) (rmz Mc (gC hm - gC h) (gS hm - gS h)) (gC hm - gC h) (gS hm - gS h) np :=
    va_cnB np hts (tbz_good lc.1) rfl rfl rfl (P.1.2.2.2.2.2.2.2.2.1.2.1 _ hl) (hts _ lc.2.1) lc.2.2 ft
  refine W_run (va_runSN (As := av.map (zv ad)) (rest := st.map (zv ad)) ⟨P.1.1, P.1.2.1, P.1.2.2.2.2.2.1, P.1.2.2.2.2.1, hts⟩ (C.2 l ad) ⟨cw, hts _ hin, trivial⟩ ⟨pz_blind, fun U hU hW => ⟨rfl, by rw [hU]; exact P.2.1, P.1.2.2.2.2.2.2.2.2.1.warm hW, hav, P.2.2.1⟩⟩ rfl (by rw [List.length_map]; exact hn) P.2.2.2.2.2.1.1 (by show (av.reverse ++ st).map (zv ad) = _; rw [List.map_append, List.map_reverse]) (lv_room (by rw [stw_eq]; exact hst)) hd ⟨by show gC h - gC h0 + (gC hm - gC h) ≤ gC h1 - gC h0; omega, by show gS h - gS h0 + (gS hm - gS h) ≤ gS h1 - gS h0; omega⟩) P.2.2.2.2.2.2.1 fun ad1 H1 locs1 Z ex hlz hly hS => ?_
  have K := kk.2 l p e s m args below meth c' H1 locs1 L ad1 ad0 (pm_call (av := av) P C.1 hss Z ex hlz hly hS)
  rw [show gC hm - gC h0 = gC h - gC h0 + (gC hm - gC h) by omega, show gS hm - gS h0 = gS h - gS h0 + (gS hm - gS h) by omega, List.map_append, zs_ex hss ex] at K
  cases rc <;> exact K
theorem v_callI {k n np idx : Nat} {av : List AV} (C : Ct X Mc b (zr k n :: av) h rc hm) (lc : Lc Mc np) (hl : Cond.methodLink M.1.cls idx Mc.1 ∈ tbz) (hin : Cond.instanceMethod Mc.1 ∈ tbz) (hi : Mc.1.name = "<init>") (hrt : Mc.2.2.2.1 = none) (hn : av.length = np) (ft : Fits M Mc) (hst : stw st ≤ 8) (hd : decode M.2.1 pc = .ok (.invokespecial idx, 3)) (hst' : av.reverse ++ zr k n :: st = st') (kk : V X M b h0 (pc + 3) ls (rc.toList ++ st) hm r h1) : V X M b h0 pc ls st' h r h1 := by
  subst hst'
  refine ⟨C.1.tr kk.1, fun l p e s m args below meth c' H locs L ad ad0 P => ?_⟩
  have hts := P.1.2.2.2.1
  have hss : lzs h (zr k n :: st) := fun v hv => P.hs v (List.mem_append_right _ hv)
  have hav : lzs h (zr k n :: av) := lzs_c hss.h fun v hv => P.hs v (List.mem_append_left _ (List.mem_reverse.mpr hv))
  have hle : gC h0 ≤ gC h ∧ gS h0 ≤ gS h := ⟨P.2.2.2.2.2.2.2.2.1, P.2.2.2.2.2.2.2.2.2.1⟩
  have k1 := C.1.1
  have k2 := C.1.2.1
  have k3 := kk.1.1
  have k4 := kk.1.2.1
  have hG := tbz_good lc.1
  rw [hrt] at hG
  have cw : CallB (rmz M (gC h1 - gC h0) (gS h1 - gS h0)) s args M.1.cls idx Mc.1 Mc.2.1 Mc.2.2.1 none (.code Mc.1 Mc.2.1 Mc.2.2.1 none :: tbz) (rmz Mc (gC hm - gC h) (gS hm - gS h)) (gC hm - gC h) (gS hm - gS h) np ∧ Mc.1.name = "<init>" ∧ (Cond.instanceMethod Mc.1).before args s = true :=
    ⟨callB_of np hts hG rfl rfl rfl (hts _ lc.2.1) (hts _ hl) lc.2.2 ft, hi, hts _ hin⟩
  have hM := C.2 l ad
  rw [hrt] at hM
  refine W_run (va_runI (As := av.map (zv ad)) (rest := st.map (zv ad)) (b := ad k n) ⟨P.1.1, P.1.2.1, P.1.2.2.2.2.2.1, P.1.2.2.2.2.1, hts⟩ hM cw ⟨pz_blind, fun U hU hW => ⟨rfl, by rw [hU]; exact P.2.1, P.1.2.2.2.2.2.2.2.2.1.warm hW, hav, P.2.2.1⟩⟩ rfl (by rw [List.length_map]; exact hn) P.2.2.2.2.2.1.1 (by show (av.reverse ++ zr k n :: st).map (zv ad) = _; rw [List.map_append, List.map_reverse]; rfl) (lv_room (by rw [stw_eq]; exact hst)) hd ⟨by show gC h - gC h0 + (gC hm - gC h) ≤ gC h1 - gC h0; omega, by show gS h - gS h0 + (gS hm - gS h) ≤ gS h1 - gS h0; omega⟩) P.2.2.2.2.2.2.1 fun ad1 H1 locs1 Z ex hlz hly hS => ?_
  have K := kk.2 l p e s m args below meth c' H1 locs1 L ad1 ad0 (pm_call (av := av) P C.1 hss.t Z ex hlz hly hS)
  rw [show gC hm - gC h0 = gC h - gC h0 + (gC hm - gC h) by omega, show gS hm - gS h0 = gS h - gS h0 + (gS hm - gS h) by omega, List.map_append, zs_ex hss.t ex] at K
  cases rc <;> exact K
theorem v_callIN {k n np idx : Nat} {av : List AV} {host : String} (C : Ct X Mc b (zr k n :: av) h rc hm) (lc : Lc Mc np) (hl : (M.1.cls, idx, Mc.1, host) ∈ nst) (hin : Cond.instanceMethod Mc.1 ∈ tbz) (hi : Mc.1.name = "<init>") (hrt : Mc.2.2.2.1 = none) (hn : av.length = np) (ft : Fits M Mc) (hst : stw st ≤ 8) (hd : decode M.2.1 pc = .ok (.invokespecial idx, 3)) (hst' : av.reverse ++ zr k n :: st = st') (kk : V X M b h0 (pc + 3) ls (rc.toList ++ st) hm r h1) : V X M b h0 pc ls st' h r h1 := by
  subst hst'
  refine ⟨C.1.tr kk.1, fun l p e s m args below meth c' H locs L ad ad0 P => ?_⟩
  have hts := P.1.2.2.2.1
  have hss : lzs h (zr k n :: st) := fun v hv => P.hs v (List.mem_append_right _ hv)
  have hav : lzs h (zr k n :: av) := lzs_c hss.h fun v hv => P.hs v (List.mem_append_left _ (List.mem_reverse.mpr hv))
  have hle : gC h0 ≤ gC h ∧ gS h0 ≤ gS h := ⟨P.2.2.2.2.2.2.2.2.1, P.2.2.2.2.2.2.2.2.2.1⟩
  have k1 := C.1.1
  have k2 := C.1.2.1
  have k3 := kk.1.1
  have k4 := kk.1.2.1
  have hG := tbz_good lc.1
  rw [hrt] at hG
  have cw : va_CN (rmz M (gC h1 - gC h0) (gS h1 - gS h0)) s args M.1.cls idx Mc.1 host Mc.2.1 Mc.2.2.1 none (.code Mc.1 Mc.2.1 Mc.2.2.1 none :: tbz) (rmz Mc (gC hm - gC h) (gS hm - gS h)) (gC hm - gC h) (gS hm - gS h) np :=
    va_cnB np hts hG rfl rfl rfl (P.1.2.2.2.2.2.2.2.2.1.2.1 _ hl) (hts _ lc.2.1) lc.2.2 ft
  have hM := C.2 l ad
  rw [hrt] at hM
  refine W_run (va_runIN (As := av.map (zv ad)) (rest := st.map (zv ad)) (b := ad k n) ⟨P.1.1, P.1.2.1, P.1.2.2.2.2.2.1, P.1.2.2.2.2.1, hts⟩ hM ⟨cw, hi, hts _ hin⟩ ⟨pz_blind, fun U hU hW => ⟨rfl, by rw [hU]; exact P.2.1, P.1.2.2.2.2.2.2.2.2.1.warm hW, hav, P.2.2.1⟩⟩ rfl (by rw [List.length_map]; exact hn) P.2.2.2.2.2.1.1 (by show (av.reverse ++ zr k n :: st).map (zv ad) = _; rw [List.map_append, List.map_reverse]; rfl) (lv_room (by rw [stw_eq]; exact hst)) hd ⟨by show gC h - gC h0 + (gC hm - gC h) ≤ gC h1 - gC h0; omega, by show gS h - gS h0 + (gS hm - gS h) ≤ gS h1 - gS h0; omega⟩) P.2.2.2.2.2.2.1 fun ad1 H1 locs1 Z ex hlz hly hS => ?_
  have K := kk.2 l p e s m args below meth c' H1 locs1 L ad1 ad0 (pm_call (av := av) P C.1 hss.t Z ex hlz hly hS)
  rw [show gC hm - gC h0 = gC h - gC h0 + (gC hm - gC h) by omega, show gS hm - gS h0 = gS h - gS h0 + (gS hm - gS h) by omega, List.map_append, zs_ex hss.t ex] at K
  cases rc <;> exact K
theorem v_objI {k n idx : Nat} (hl : Cond.methodLink M.1.cls idx Lib.objectInit ∈ tbz) (hin : Cond.instanceMethod Lib.objectInit ∈ tbz) (hcode : Cond.code Lib.objectInit ⟨#[0xb1]⟩ 1 none ∈ tbz) (hfr : 1 ≤ M.2.2.2.2.1) (hlo : stw st + 12 ≤ M.2.2.2.2.2) (hd : decode M.2.1 pc = .ok (.invokespecial idx, 3)) (kk : V X M b h0 (pc + 3) ls st h r h1) : V X M b h0 pc ls (zr k n :: st) h r h1 := by
  refine ⟨kk.1, fun l p e s m args below meth c' H locs L ad ad0 P => ?_⟩
  have hts := P.1.2.2.2.1
  refine W.objInit P.1.1 P.1.2.1 P.1.2.2.2.2.1 (hts _ hl) (hts _ hin) (hts _ hcode) rfl (by rw [P.1.2.2.2.2.2.1]; exact P.2.2.2.2.2.1.1) rfl hd hfr ?_ ?_
  · show _ ≤ M.2.2.2.2.2
    rw [stw_eq]
    simpa [F0, JFrame.monitorRoom] using hlo
  · exact kk.2 l p e s m args below meth c' H locs L ad ad0 (P.ns P.hs.t)
/-- the locals at a method's entry -/
def la : Nat → List AV → List (Nat × AV)
  | _, [] => []
  | i, v :: vs => (i, v) :: la (if c2 v = true then i + 2 else i + 1) vs
theorem la_eq (ad : Ad) (av : List AV) : ∀ i, lv_args i (av.map (zv ad)) = zl ad (la i av) := by
  induction av with
  | nil => intro i; rfl
  | cons v vs ih =>
    intro i
    show (i, zv ad v) :: lv_args _ _ = (i, zv ad v) :: zl ad _
    rw [ih]
    congr 3
    rcases v with x | x | _ | q <;> rfl
theorem la_len (ad : Ad) (av : List AV) : (lg_sl (av.map (zv ad))).length = stw av := by
  induction av with
  | nil => rfl
  | cons v vs ih =>
    have e : lg_sl ((v :: vs).map (zv ad)) = (if (zv ad v).category = 2 then [.val (zv ad v), .second] else [.val (zv ad v)]) ++ lg_sl (vs.map (zv ad)) := rfl
    rw [e, List.length_append, ih]
    show _ = (if c2 v = true then 2 else 1) + stw vs
    rcases v with x | x | _ | q <;> rfl
theorem lzl_la {h : Hp} {av : List AV} (hv : lzs h av) : ∀ i, lzl h (la i av) := by
  induction av with
  | nil => intro i q hq; cases hq
  | cons v vs ih =>
    intro i q hq
    rcases List.mem_cons.mp hq with e | e
    · rw [e]; exact hv.h
    · exact ih hv.t _ q e
/-- a contract, from the walk of the body -/
theorem Ct_of {av : List AV} (hy : plainName M.1.cls = true) (hlen : stw av ≤ M.2.2.1) (hl : la 0 av = ls) (k : V X M b h 0 ls [] h r h1) : Ct X M b av h r h1 := by
  subst hl
  refine ⟨k.1, fun l ad => ?_⟩
  refine Met.ofW (cc := M.2.1) (maxL := M.2.2.1) (ret := M.2.2.2.1) hy rfl ?_
  intro p e s m args below meth c s₁ B hml hv
  obtain ⟨rfl, hZ, hK, hlz, hLy⟩ := hv
  have hts := atoms_spec (ws := Cond.code M.1 M.2.1 M.2.2.1 M.2.2.2.1 :: tbz) B.pre
  have hv := lv_entry (av.map (zv ad)) (n := M.2.2.1) (by rw [la_len]; exact hlen)
  rw [la_eq] at hv
  rw [lg_entry_eq]
  have K := k.2 l p e s m (av.map (zv ad)).toArray below meth c s.heap [] _ ad ad ⟨⟨B.exec, B.bytes, B.returns, fun w hw => hts w (List.mem_cons_of_mem _ hw), findClass_of_methodNamed B.named, hml, B.notSynchronized, (name_of_methodNamed B.named B.method).1, hK, hZ.2.2.2.2⟩, hZ, hLy, lzl_la hlz 0, (fun v hv => by cases hv), hv, va_S.rf, Ex.rf h ad, le.rf h⟩
  rw [Nat.sub_self, Nat.sub_self] at K
  exact K
end Calls
