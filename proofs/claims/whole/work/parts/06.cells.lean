/-! ===== rows that read and write cells ===== -/
def tyb : Nat → FieldType → Bool
  | 0, .int => true
  | 3, .boolean => true
  | 1, .long => true
  | 2, .object _ => true
  | 2, .array _ => true
  | _, _ => false
/-- what the tables say of class c -/
def Cl (c : Nat) : Prop := ∃ (q : vw_C) (ty : Nat → FieldType), classes[c]? = some q ∧ q.2.2 = nf c ∧ (∀ w ∈ u_ws q.1 q.2.1 q.2.2, w ∈ tbz) ∧ (∀ k, k < q.2.2 → parseFieldDescriptor (q.2.1 k).2.2.1 = some (ty k)) ∧ (∀ a, a < q.2.2 → ∀ b, b < q.2.2 → a ≠ b → (q.2.1 a).2.1 ≠ (q.2.1 b).2.1) ∧ (∀ k, k < q.2.2 → tyb (ft c k) (ty k) = true) ∧ Cond.instantiable q.1 q.2.2 ∈ tbz ∧ Cond.initialized q.1 ∈ tbz
/-- entry idx of the pool of class own is field f of class c -/
def Fl (own : String) (idx c f : Nat) (fin : Bool) : Prop := ∃ q : vw_C, classes[c]? = some q ∧ f < q.2.2 ∧ Cond.fieldLink own idx (q.2.1 f).1 (q.2.1 f).2.1 (q.2.1 f).2.2.1 ∈ tbz ∧ (q.2.1 f).2.2.2 = fin ∧ (q.2.1 f).1 = q.1
section Cells
variable {X : Cz} {M : Mi} {b : Bool} {h0 : Hp} {pc : Nat} {ls ls' : List (Nat × AV)} {st st' : List AV} {h h' : Hp} {r : Option AV} {h1 : Hp}
variable {p : Program} {l : Launch} {e : Env} {R : Room} {s : State} {m : MethodId} {args : Array Value} {below : List Frame} {meth : Method} {cd : Code} {H : Heap} {locs : List Loc} {cells slots : Nat} {Q : State → Prop} {L : Array Slot} {rest : List Value}
theorem W_get {c f idx : Nat} {fin : Bool} {a : Nat} {Vf : Nat → Value} (E : Cx X M p s m args meth cd) (hc : Cl c) (fl : Fl M.1.cls idx c f fin) (o : t_OB a (X.2.1 c) (nf c) (X.2.2.1 c) H Vf) (hd : decode M.2.1 pc = .ok (.getfield idx, 3)) (kk : W p l e R s m args below meth cd H locs cells slots Q (F0 m (pc + 3) L (Vf f :: rest))) : W p l e R s m args below meth cd H locs cells slots Q (F0 m pc L (.ref a :: rest)) := by
  obtain ⟨hx, hb, hr, hts, hown, hml, hlk, hnm, ⟨hK, -⟩, hbs⟩ := E
  obtain ⟨q, ty, hq, hnf, hin, hty, hnn, -⟩ := hc
  obtain ⟨q', hq', hf, hlink, -⟩ := fl
  cases hq.symm.trans hq'
  obtain ⟨cell, q1, q2, q3, q4⟩ := o
  obtain ⟨hS, hfc, kC, hkC, hkind⟩ := hK.1 c _ hq
  obtain ⟨cf, kf, fi, fd, hi, hsl⟩ := hS f hf
  refine W.getf hx hb hown (hts _ hlink) hi (u_facts hfc hkC (u_lays hts hin hf) hi).1 q1 (by rw [q3]; exact fun h => by cases h) (v := Vf f) ?_ rfl rfl hd kk
  rw [hsl, q4 f (by rw [← hnf]; exact hf)]
theorem W_apart {c : Nat} (E : Cx X M p s m args meth cd) (hc : Cl c) : ∀ x y, x < nf c → y < nf c → x ≠ y → (X.2.2.1 c) x ≠ (X.2.2.1 c) y := by
  obtain ⟨hx, hb, hr, hts, hown, hml, hlk, hnm, ⟨hK, -⟩, hbs⟩ := E
  obtain ⟨q, ty, hq, hnf, hin, hty, hnn, -⟩ := hc
  rw [← hnf]
  exact va_apart (own := M.1.cls) hts hin ty hty hnn hK hq
theorem W_put {c f idx : Nat} {a : Nat} {Vf : Nat → Value} {v : Value} {ty : FieldType} (E : Cx X M p s m args meth cd) (hc : Cl c) (fl : Fl M.1.cls idx c f false) (hd0 : ∀ q : vw_C, classes[c]? = some q → parseFieldDescriptor (q.2.1 f).2.2.1 = some ty) (hn : narrow ty v = v) (hfit : fits ty v = true) (o : t_OB a (X.2.1 c) (nf c) (X.2.2.1 c) H Vf) (hd : decode M.2.1 pc = .ok (.putfield idx, 3))
    (kk : ∀ (H1 : Heap) (z : Nat), t_OB a (X.2.1 c) (nf c) (X.2.2.1 c) H1 (updV Vf f v) → H1.size = H.size → (∀ q : Nat, q ≠ a → H1[q]? = H[q]?) → W p l e R s m args below meth cd H1 (locs ++ [⟨a, z⟩]) cells slots Q (F0 m (pc + 3) L rest)) : W p l e R s m args below meth cd H locs cells slots Q (F0 m pc L (v :: .ref a :: rest)) := by
  have hap := W_apart E hc
  obtain ⟨hx, hb, hr, hts, hown, hml, hlk, hnm, ⟨hK, -⟩, hbs⟩ := E
  obtain ⟨q, ty0, hq, hnf, hin, hty, hnn, -⟩ := hc
  obtain ⟨q', hq', hf, hlink, hfin, -⟩ := fl
  cases hq.symm.trans hq'
  obtain ⟨cell, q1, q2, q3, q4⟩ := o
  obtain ⟨hS, hfc, kC, hkC, hkind⟩ := hK.1 c _ hq
  obtain ⟨cf, kf, fi, fd, hi, hsl⟩ := hS f hf
  have hlay := hts _ (hin _ (u_in_lay hf))
  unfold u_lay at hlay
  rw [if_neg (by rw [hfin]; decide)] at hlay
  have hst := (u_facts hfc hkC (u_lays hts hin hf) hi).1
  have h6 := u_store hfc hkC hkind hlay hi (hd0 q hq) hn hfit
  have hf' : f < nf c := by rw [← hnf]; exact hf
  refine W.putK hx hb (f := fd) ⟨hown, hts _ hlink, ⟨_, _, _, hi⟩, hst⟩ (by rw [q2]; exact h6) q1 q3 (by rw [hsl]; exact k2_hasslot (q4 f hf')) rfl rfl hd fun H' e1 e2 e3 => ?_
  rw [hsl] at e1
  exact kk H' _ ⟨_, e1, q2, q3, t_set q4 hap hf' v⟩ e2 e3
theorem W_putF {c f idx : Nat} {a : Nat} {Vf : Nat → Value} {v : Value} {ty : FieldType} (E : Cx X M p s m args meth cd) (hc : Cl c) (fl : Fl M.1.cls idx c f true) (hi0 : M.1.name = "<init>") (hcl : ∀ q : vw_C, classes[c]? = some q → q.1 = M.1.cls) (hd0 : ∀ q : vw_C, classes[c]? = some q → parseFieldDescriptor (q.2.1 f).2.2.1 = some ty) (hn : narrow ty v = v) (hfit : fits ty v = true) (o : t_OB a (X.2.1 c) (nf c) (X.2.2.1 c) H Vf) (hd : decode M.2.1 pc = .ok (.putfield idx, 3))
    (kk : ∀ (H1 : Heap) (z : Nat), t_OB a (X.2.1 c) (nf c) (X.2.2.1 c) H1 (updV Vf f v) → H1.size = H.size → (∀ q : Nat, q ≠ a → H1[q]? = H[q]?) → W p l e R s m args below meth cd H1 (locs ++ [⟨a, z⟩]) cells slots Q (F0 m (pc + 3) L rest)) : W p l e R s m args below meth cd H locs cells slots Q (F0 m pc L (v :: .ref a :: rest)) := by
  have hap := W_apart E hc
  obtain ⟨hx, hb, hr, hts, hown, hml, hlk, hnm, ⟨hK, -⟩, hbs⟩ := E
  obtain ⟨q, ty0, hq, hnf, hin, hty, hnn, -⟩ := hc
  obtain ⟨q', hq', hf, hlink, hfin, hdecl⟩ := fl
  cases hq.symm.trans hq'
  obtain ⟨cell, q1, q2, q3, q4⟩ := o
  obtain ⟨hS, hfc, kC, hkC, hkind⟩ := hK.1 c _ hq
  obtain ⟨cf, kf, fi, fd, hi, hsl⟩ := hS f hf
  have hlay := hts _ (hin _ (u_in_lay hf))
  unfold u_lay at hlay
  rw [if_pos hfin] at hlay
  have hst := (u_facts hfc hkC (u_lays hts hin hf) hi).1
  have hcf : m.cls = cf := by
    obtain ⟨_, _, c', _, _, _, -, -, hf', -, -, -, hown2, -⟩ := Cond.laysFinal_spec hlay
    have e1 : c' = cf := by have := hi.symm.trans hf'; simp at this; exact this.1.symm
    rw [hdecl, hcl q hq] at hown2
    rw [← e1]; exact Option.some.inj (hown.symm.trans hown2)
  have h6 := u_fits hfc hkC hkind (Or.inr hlay) hi (hd0 q hq) hn hfit
  have hf' : f < nf c := by rw [← hnf]; exact hf
  refine W.putFinK hx hb hown (hts _ hlink) hi hst hcf (hnm.trans hi0) (by rw [q2]; exact h6) q1 q3 (by rw [hsl]; exact k2_hasslot (q4 f hf')) rfl rfl hd fun H' e1 e2 e3 => ?_
  rw [hsl] at e1
  exact kk H' _ ⟨_, e1, q2, q3, t_set q4 hap hf' v⟩ e2 e3
/-- the cell k n is written: the new state of the walk -/
theorem Pm.up {k n a z : Nat} {H1 : Heap} {ad ad0 : Ad} (P : Pm X M b h0 ls st h p s m args meth cd H locs L ad ad0) (hn : n < gN h k) (ea : ad k n = a) (eN : ∀ x, gN h' x = gN h x) (eC : gC h' = gC h) (eS' : gS h' = gS h) (eS : ∀ x y, ¬ (x = k ∧ y = n) → sm h h' x y) (ok : okc X h' ad H1 k n) (z1 : H1.size = H.size) (oq : ∀ q : Nat, q ≠ a → H1[q]? = H[q]?) (hr : ∀ i q, gR h' k n i = some q → q < gN h (sk k i)) (hL : b = true → Ly h → Ly h') (hs : lzs h st') : Pm X M b h0 ls st' h' p s m args meth cd H1 (locs ++ [⟨a, z⟩]) L ad ad0 := by
  subst ea
  obtain ⟨E, Z, Y, l1, l2, l3, S, X1, le1⟩ := P
  have le2 : le h h' := ⟨by rw [eC]; exact Nat.le_refl _, by rw [eS']; exact Nat.le_refl _, fun x => by rw [eN]; exact Nat.le_refl _⟩
  exact ⟨E, Z.upd hn eN eS ok z1 oq hr, fun hb => hL hb (Y hb), l1.up le2, hs.up le2, l3, S.put z1 oq (Z.2.2.1 k n hn), X1, le1.tr le2⟩
theorem Pm.ok {k n : Nat} {ad ad0 : Ad} (P : Pm X M b h0 ls st h p s m args meth cd H locs L ad ad0) (hv : lz h (zr k n)) : okc X h ad H k n := P.2.1.1 k n (hv (k, n) rfl)
end Cells
section Cells2
variable {X : Cz} {M : Mi} {b : Bool} {h0 : Hp} {pc : Nat} {ls ls' : List (Nat × AV)} {st st' : List AV} {h h' : Hp} {r : Option AV} {h1 : Hp}
theorem v_getI {k n c f idx : Nat} {fin : Bool} (hk : kd k = .inl c) (hf : ft c f = 0 ∨ ft c f = 3) (hc : Cl c) (fl : Fl M.1.cls idx c f fin) (hd : decode M.2.1 pc = .ok (.getfield idx, 3)) (kk : V X M b h0 (pc + 3) ls (zi (gI h k n f) :: st) h r h1) : V X M b h0 pc ls (zr k n :: st) h r h1 := by
  refine ⟨kk.1, fun l p e s m args below meth c' H locs L ad ad0 P => ?_⟩
  refine W_get P.1 hc fl (okc_o hk (P.ok P.hs.h)).2 hd ?_
  have := kk.2 l p e s m args below meth c' H locs L ad ad0 (P.ns (lzs_c (lz_i h _) P.hs.t))
  rw [show ov ad h k n c f = .int (gI h k n f) from if_pos hf]
  exact this
theorem v_getJ {k n c f idx : Nat} {fin : Bool} (hk : kd k = .inl c) (hf : ft c f = 1) (hc : Cl c) (fl : Fl M.1.cls idx c f fin) (hd : decode M.2.1 pc = .ok (.getfield idx, 3)) (kk : V X M b h0 (pc + 3) ls (zj (gJ h k n f) :: st) h r h1) : V X M b h0 pc ls (zr k n :: st) h r h1 := by
  refine ⟨kk.1, fun l p e s m args below meth c' H locs L ad ad0 P => ?_⟩
  refine W_get P.1 hc fl (okc_o hk (P.ok P.hs.h)).2 hd ?_
  have := kk.2 l p e s m args below meth c' H locs L ad ad0 (P.ns (lzs_c (lz_j h _) P.hs.t))
  rw [show ov ad h k n c f = .long (gJ h k n f) by unfold ov; rw [hf]; rfl]
  exact this
theorem lz_q {h : Hp} {k : Nat} {o : Option Nat} (ho : ∀ q, o = some q → q < gN h k) : lz h (zq k o) := by
  cases o with
  | none => exact lz_o h
  | some q => exact lz_r (ho q rfl)
/-- a reference, as the cell has it -/
theorem v_getR {k n c f idx k2 : Nat} {fin : Bool} (hk : kd k = .inl c) (hf : ft c f = 2) (hk2 : rk c f = k2) (hc : Cl c) (fl : Fl M.1.cls idx c f fin) (hd : decode M.2.1 pc = .ok (.getfield idx, 3)) (kk : V X M b h0 (pc + 3) ls (zq k2 (gR h k n f) :: st) h r h1) : V X M b h0 pc ls (zr k n :: st) h r h1 := by
  subst hk2
  refine ⟨kk.1, fun l p e s m args below meth c' H locs L ad ad0 P => ?_⟩
  refine W_get P.1 hc fl (okc_o hk (P.ok P.hs.h)).2 hd ?_
  have hlv : ∀ q, gR h k n f = some q → q < gN h (rk c f) := fun q e => by
    have := P.2.1.2.2.2.1 k n f q (P.hs.h (k, n) rfl) e
    unfold sk at this
    rw [hk] at this
    exact this
  have := kk.2 l p e s m args below meth c' H locs L ad ad0 (P.ns (lzs_c (lz_q hlv) P.hs.t))
  rw [show ov ad h k n c f = zv ad (zq (rk c f) (gR h k n f)) by unfold ov; rw [hf]; rfl]
  exact this
/-- a reference of a cell that is made once -/
theorem v_getL {k c f idx k2 : Nat} {fin : Bool} (hk : kd k = .inl c) (hf : ft c f = 2) (hk2 : rk c f = k2) (hm : (k, f) ∈ lyL) (hc : Cl c) (fl : Fl M.1.cls idx c f fin) (hd : decode M.2.1 pc = .ok (.getfield idx, 3)) (kk : V X M true h0 (pc + 3) ls (zr k2 0 :: st) h r h1) : V X M true h0 pc ls (zr k 0 :: st) h r h1 := by
  refine ⟨kk.1, fun l p e s m args below meth c' H locs L ad ad0 P => ?_⟩
  have hL : gR h k 0 f = some 0 := P.2.2.1 rfl (k, f) hm
  have K : V X M true h0 (pc + 3) ls (zq k2 (gR h k 0 f) :: st) h r h1 := by rw [hL]; exact kk
  exact (v_getR hk hf hk2 hc fl hd K).2 l p e s m args below meth c' H locs L ad ad0 P
theorem Cl.ty {c f : Nat} (hc : Cl c) (t : Nat) (hf : ft c f = t) (hlt : f < nf c) : ∃ ty : FieldType, tyb t ty = true ∧ ∀ q : vw_C, classes[c]? = some q → parseFieldDescriptor (q.2.1 f).2.2.1 = some ty := by
  obtain ⟨q, ty, hq, hnf, hin, hty, hnn, htb, -⟩ := hc
  refine ⟨ty f, by rw [← hf]; exact htb f (by rw [hnf]; exact hlt), fun q' hq' => ?_⟩
  cases hq.symm.trans hq'
  exact hty f (by rw [hnf]; exact hlt)
theorem nar_b {v : Int32} (hv : v = 0 ∨ v = 1) : narrow .boolean (.int v) = .int v ∧ fits .boolean (.int v) = true := by
  rcases hv with rfl | rfl <;> exact ⟨by decide, by decide⟩
theorem v_putI {k n c f idx : Nat} {v : Int32} (hk : kd k = .inl c) (hf : ft c f = 0) (hlt : f < nf c) (hc : Cl c) (fl : Fl M.1.cls idx c f false) (hd : decode M.2.1 pc = .ok (.putfield idx, 3)) (kk : V X M b h0 (pc + 3) ls st (sI h k n f v) r h1) : V X M b h0 pc ls (zi v :: zr k n :: st) h r h1 := by
  refine ⟨kk.1, fun l p e s m args below meth c' H locs L ad ad0 P => ?_⟩
  have hn := P.hs.t.h (k, n) rfl
  obtain ⟨ty, ht, hty⟩ := hc.ty 0 hf hlt
  cases ty <;> first | (cases ht; done) | skip
  refine W_put P.1 hc fl hty rfl rfl (okc_o hk (P.ok P.hs.t.h)).2 hd fun H1 z o1 z1 oq => ?_
  exact kk.2 l p e s m args below meth c' H1 _ L ad ad0 (P.up hn rfl (fun _ => rfl) rfl rfl sm_I (okc_o' hk (okc_o hk (P.ok P.hs.t.h)).1 (by rw [ov_I (Or.inl hf)]; exact o1)) z1 oq (fun i q e => P.2.1.2.2.2.1 k n i q hn e) (fun _ L => L) P.hs.t.t)
theorem v_putZ {k n c f idx : Nat} {v : Int32} (hk : kd k = .inl c) (hf : ft c f = 3) (hlt : f < nf c) (hc : Cl c) (fl : Fl M.1.cls idx c f false) (hv : v = 0 ∨ v = 1) (hd : decode M.2.1 pc = .ok (.putfield idx, 3)) (kk : V X M b h0 (pc + 3) ls st (sI h k n f v) r h1) : V X M b h0 pc ls (zi v :: zr k n :: st) h r h1 := by
  refine ⟨kk.1, fun l p e s m args below meth c' H locs L ad ad0 P => ?_⟩
  have hn := P.hs.t.h (k, n) rfl
  obtain ⟨ty, ht, hty⟩ := hc.ty 3 hf hlt
  cases ty <;> first | (cases ht; done) | skip
  refine W_put P.1 hc fl hty (nar_b hv).1 (nar_b hv).2 (okc_o hk (P.ok P.hs.t.h)).2 hd fun H1 z o1 z1 oq => ?_
  exact kk.2 l p e s m args below meth c' H1 _ L ad ad0 (P.up hn rfl (fun _ => rfl) rfl rfl sm_I (okc_o' hk (okc_o hk (P.ok P.hs.t.h)).1 (by rw [ov_I (Or.inr hf)]; exact o1)) z1 oq (fun i q e => P.2.1.2.2.2.1 k n i q hn e) (fun _ L => L) P.hs.t.t)
theorem v_putFI {k n c f idx : Nat} {v : Int32} (hk : kd k = .inl c) (hf : ft c f = 0) (hlt : f < nf c) (hc : Cl c) (fl : Fl M.1.cls idx c f true) (hi : M.1.name = "<init>") (hcl : ∀ q : vw_C, classes[c]? = some q → q.1 = M.1.cls) (hd : decode M.2.1 pc = .ok (.putfield idx, 3)) (kk : V X M b h0 (pc + 3) ls st (sI h k n f v) r h1) : V X M b h0 pc ls (zi v :: zr k n :: st) h r h1 := by
  refine ⟨kk.1, fun l p e s m args below meth c' H locs L ad ad0 P => ?_⟩
  have hn := P.hs.t.h (k, n) rfl
  obtain ⟨ty, ht, hty⟩ := hc.ty 0 hf hlt
  cases ty <;> first | (cases ht; done) | skip
  refine W_putF P.1 hc fl hi hcl hty rfl rfl (okc_o hk (P.ok P.hs.t.h)).2 hd fun H1 z o1 z1 oq => ?_
  exact kk.2 l p e s m args below meth c' H1 _ L ad ad0 (P.up hn rfl (fun _ => rfl) rfl rfl sm_I (okc_o' hk (okc_o hk (P.ok P.hs.t.h)).1 (by rw [ov_I (Or.inl hf)]; exact o1)) z1 oq (fun i q e => P.2.1.2.2.2.1 k n i q hn e) (fun _ L => L) P.hs.t.t)
theorem v_putJ {k n c f idx : Nat} {v : Int64} (hk : kd k = .inl c) (hf : ft c f = 1) (hlt : f < nf c) (hc : Cl c) (fl : Fl M.1.cls idx c f false) (hd : decode M.2.1 pc = .ok (.putfield idx, 3)) (kk : V X M b h0 (pc + 3) ls st (sJ h k n f v) r h1) : V X M b h0 pc ls (zj v :: zr k n :: st) h r h1 := by
  refine ⟨kk.1, fun l p e s m args below meth c' H locs L ad ad0 P => ?_⟩
  have hn := P.hs.t.h (k, n) rfl
  obtain ⟨ty, ht, hty⟩ := hc.ty 1 hf hlt
  cases ty <;> first | (cases ht; done) | skip
  refine W_put P.1 hc fl hty rfl rfl (okc_o hk (P.ok P.hs.t.h)).2 hd fun H1 z o1 z1 oq => ?_
  exact kk.2 l p e s m args below meth c' H1 _ L ad ad0 (P.up hn rfl (fun _ => rfl) rfl rfl sm_J (okc_o' hk (okc_o hk (P.ok P.hs.t.h)).1 (by rw [ov_J hf]; exact o1)) z1 oq (fun i q e => P.2.1.2.2.2.1 k n i q hn e) (fun _ L => L) P.hs.t.t)
theorem sR_ref {h : Hp} {k n f k2 : Nat} {o : Option Nat} (hk2 : sk k f = k2) (Z : ∀ i q, gR h k n i = some q → q < gN h (sk k i)) (hl : lz h (zq k2 o)) : ∀ i q, gR (sR h k n f o) k n i = some q → q < gN h (sk k i) := by
  intro i q e
  have e : (if k = k ∧ n = n ∧ i = f then o else gR h k n i) = some q := e
  by_cases hi : i = f
  · rw [if_pos ⟨rfl, rfl, hi⟩] at e
    subst e
    subst hi
    rw [hk2]
    exact hl (k2, q) rfl
  · rw [if_neg fun z => hi z.2.2] at e
    exact Z i q e
theorem fit_q {ty : FieldType} (ht : tyb 2 ty = true) (ad : Ad) (k : Nat) (o : Option Nat) : narrow ty (zv ad (zq k o)) = zv ad (zq k o) ∧ fits ty (zv ad (zq k o)) = true := by
  cases ty <;> first | (cases ht; done) | (cases o <;> exact ⟨rfl, rfl⟩)
theorem v_putR {k n c f idx k2 : Nat} {o : Option Nat} (hk : kd k = .inl c) (hf : ft c f = 2) (hlt : f < nf c) (hk2 : rk c f = k2) (hy : b = false ∨ lyf k f = true) (hc : Cl c) (fl : Fl M.1.cls idx c f false) (hd : decode M.2.1 pc = .ok (.putfield idx, 3)) (kk : V X M b h0 (pc + 3) ls st (sR h k n f o) r h1) : V X M b h0 pc ls (zq k2 o :: zr k n :: st) h r h1 := by
  refine ⟨kk.1, fun l p e s m args below meth c' H locs L ad ad0 P => ?_⟩
  have hn := P.hs.t.h (k, n) rfl
  obtain ⟨ty, ht, hty⟩ := hc.ty 2 hf hlt
  refine W_put P.1 hc fl hty (fit_q ht ad k2 o).1 (fit_q ht ad k2 o).2 (okc_o hk (P.ok P.hs.t.h)).2 hd fun H1 z o1 z1 oq => ?_
  exact kk.2 l p e s m args below meth c' H1 _ L ad ad0 (P.up hn rfl (fun _ => rfl) rfl rfl sm_R (okc_o' hk (okc_o hk (P.ok P.hs.t.h)).1 (by rw [ov_R hf, hk2]; exact o1)) z1 oq (sR_ref (by unfold sk; rw [hk]; exact hk2) (fun i q e => P.2.1.2.2.2.1 k n i q hn e) P.hs.h) (fun hb L => by
    rcases hy with hy | hy
    · rw [hy] at hb; cases hb
    · exact Ly_R hy L) P.hs.t.t)
theorem v_putFR {k n c f idx k2 : Nat} {o : Option Nat} (hk : kd k = .inl c) (hf : ft c f = 2) (hlt : f < nf c) (hk2 : rk c f = k2) (hy : b = false ∨ lyf k f = true) (hc : Cl c) (fl : Fl M.1.cls idx c f true) (hi : M.1.name = "<init>") (hcl : ∀ q : vw_C, classes[c]? = some q → q.1 = M.1.cls) (hd : decode M.2.1 pc = .ok (.putfield idx, 3)) (kk : V X M b h0 (pc + 3) ls st (sR h k n f o) r h1) : V X M b h0 pc ls (zq k2 o :: zr k n :: st) h r h1 := by
  refine ⟨kk.1, fun l p e s m args below meth c' H locs L ad ad0 P => ?_⟩
  have hn := P.hs.t.h (k, n) rfl
  obtain ⟨ty, ht, hty⟩ := hc.ty 2 hf hlt
  refine W_putF P.1 hc fl hi hcl hty (fit_q ht ad k2 o).1 (fit_q ht ad k2 o).2 (okc_o hk (P.ok P.hs.t.h)).2 hd fun H1 z o1 z1 oq => ?_
  exact kk.2 l p e s m args below meth c' H1 _ L ad ad0 (P.up hn rfl (fun _ => rfl) rfl rfl sm_R (okc_o' hk (okc_o hk (P.ok P.hs.t.h)).1 (by rw [ov_R hf, hk2]; exact o1)) z1 oq (sR_ref (by unfold sk; rw [hk]; exact hk2) (fun i q e => P.2.1.2.2.2.1 k n i q hn e) P.hs.h) (fun hb L => by
    rcases hy with hy | hy
    · rw [hy] at hb; cases hb
    · exact Ly_R hy L) P.hs.t.t)
end Cells2
