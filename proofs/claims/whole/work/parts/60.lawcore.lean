/-! ===== the law's own walk: its script lies outside the abstract heap (label 9999) ===== -/
def R_law : String := "PewRankLaw"
def lw_P (b : Addr) (xs : List Int32) (args : Array Value) (s : State) : Prop := args = #[.ref b] ∧ s.IntsAt b xs ∧ xs.length ≤ 4608 ∧ (Jvm.Cond.and given_1 narrow_1).before args s = true
def lw_Q (_ : Array Value) (s : State) (o : Outcome) (t : State) : Prop := o = .returned (some (.int 1)) ∧ Framed s o t [] 600000 7302249
def lw_Z (below : List Frame) (a : Array Value) (s : State) : State → Prop := fun t => ∃ o, t.status = .running ∧ Ended t below o ∧ lw_Q a s o t
theorem lw_ret {p : Program} {l : Launch} {e : Env} {s : State} {m : MethodId} {below : List Frame} {meth : Method} {c : Code} {b : Nat} (hx : p.tables.exec = Jvm.exec) (hb : c.code = code) (hr : meth.sig.returnType = ret) (hlocks : meth.locks = false) {pc : Nat} {H : Heap} {ls : Array Slot} (hdg : decode code pc = .ok (.ireturn, 1)) : W p l e room_1 s m #[Value.ref b] below meth c H [] 600000 7302249 (lw_Z below #[Value.ref b] s) (F0 m pc ls [.int 1]) := by
  intro T hT X
  obtain ⟨fs, hret, hrun, hended, hW, hframe⟩ := X.leave (v := some (.int 1)) (hlocks := hlocks) (fun h => by rw [hr] at h; cases h)
  have hmeth' : T.vm.method? m = some meth := X.method'
  refine ⟨T.setFrames fs, ?_, .returned (some (.int 1)), hrun, hended, rfl, ⟨_, rfl⟩, hW, hframe⟩
  jvm_step X.here [X.here.top, hx, hb, hdg, hmeth', hr, ret, narrow_b1]
  (try refine ⟨rfl, ?_⟩); (try refine ⟨rfl, ?_⟩)
  first | (intro acts; rw [hret _ acts rfl rfl rfl]) | rw [hret _ _ rfl rfl rfl]
  exact Steps.refl _
def lw_At (p : Program) (s : State) (m : MethodId) (meth : Method) (c : Code) (b L : Nat) (xs : Nat → Int32) : Prop :=
  p.tables.exec = Jvm.exec ∧ c.code = code ∧ meth.sig.returnType = ret ∧ c.maxLocals = 4 ∧ s.vm.findClass R_law = some m.cls ∧ (∀ w ∈ lw_tbl, w.before #[Value.ref b] s = true) ∧ va_X b L xs s s.heap ∧ b < s.heap.size ∧ meth.locks = false ∧ (Jvm.Cond.and given_1 narrow_1).before #[Value.ref b] s = true
def zw (b : Nat) (ad : Ad) (v : AV) : Value := match v with
  | .inr (.inr (some q)) => if q.1 = 9999 then .ref b else .ref (ad q.1 q.2)
  | v => zv ad v
def wl (h : Hp) (v : AV) : Prop := ∀ q, v = .inr (.inr (some q)) → q.1 = 9999 ∨ q.2 < gN h q.1
abbrev zs : AV := zr 9999 0
def LPz (X : Cz) (b L : Nat) (xs : Nat → Int32) (bb : Bool) (ls : List (Nat × AV)) (st : List AV) (h : Hp) (p : Program) (s : State) (m : MethodId) (meth : Method) (c : Code) (H : Heap) (locs : List Loc) (S : Array Slot) (ad : Ad) : Prop :=
  lw_At p s m meth c b L xs ∧ X.1 = s.heap.size ∧ Kz X s ∧ Hz X h ad H ∧ (bb = true → Ly h) ∧ va_S (AA X) s.heap H locs ∧ (gC h ≤ 600000 ∧ gS h ≤ 7302249) ∧ lv_has S 4 (ls.map fun q => (q.1, zw b ad q.2)) ∧ (∀ q ∈ ls, wl h q.2) ∧ (∀ v ∈ st, wl h v)
def LV (X : Cz) (b L : Nat) (xs : Nat → Int32) (bb : Bool) (pc : Nat) (ls : List (Nat × AV)) (st : List AV) (h : Hp) : Prop :=
  ∀ (p : Program) (l : Launch) (e : Env) (s : State) (m : MethodId) (below : List Frame) (meth : Method) (c : Code) (H : Heap) (locs : List Loc) (S : Array Slot) (ad : Ad), LPz X b L xs bb ls st h p s m meth c H locs S ad → W p l e room_1 s m #[Value.ref b] below meth c H locs (gC h) (gS h) (lw_Z below #[Value.ref b] s) (F0 m pc S (st.map (zw b ad)))
theorem tbz_lw {b : Nat} {s : State} (h : ∀ w ∈ lw_tbl, w.before #[Value.ref b] s = true) : ∀ w ∈ tbz, w.before #[Value.ref b] s = true := fun w hw => h w (List.mem_filter.mp hw).1
section LRows
variable {X : Cz} {b L : Nat} {xs : Nat → Int32} {bb : Bool} {pc : Nat} {ls ls' : List (Nat × AV)} {st st' stn : List AV} {h hm : Hp}
theorem wl_i (h : Hp) (x : Int32) : wl h (zi x) := fun q e => by cases e
theorem wl_j (h : Hp) (x : Int64) : wl h (zj x) := fun q e => by cases e
theorem wl_s (h : Hp) : wl h zs := fun q e => by cases e; exact Or.inl rfl
theorem wl.up {h h1 : Hp} {v : AV} (hv : wl h v) (hl : le h h1) : wl h1 v := fun q e => (hv q e).imp id fun z => Nat.lt_of_lt_of_le z (hl.2.2 q.1)
theorem wls_c {h : Hp} {v : AV} {st : List AV} (h1 : wl h v) (h2 : ∀ x ∈ st, wl h x) : ∀ x ∈ v :: st, wl h x := fun x hx => by
  rcases List.mem_cons.mp hx with e | e
  · rw [e]; exact h1
  · exact h2 x e
theorem wls_t {h : Hp} {v : AV} {st : List AV} (hs : ∀ x ∈ v :: st, wl h x) : ∀ x ∈ st, wl h x := fun x hx => hs x (List.mem_cons_of_mem _ hx)
theorem LPz.ns {p : Program} {s : State} {m : MethodId} {meth : Method} {c : Code} {H : Heap} {locs : List Loc} {S : Array Slot} {ad : Ad} (P : LPz X b L xs bb ls st h p s m meth c H locs S ad) (hs : ∀ v ∈ st', wl h v) : LPz X b L xs bb ls st' h p s m meth c H locs S ad := ⟨P.1, P.2.1, P.2.2.1, P.2.2.2.1, P.2.2.2.2.1, P.2.2.2.2.2.1, P.2.2.2.2.2.2.1, P.2.2.2.2.2.2.2.1, P.2.2.2.2.2.2.2.2.1, hs⟩
theorem LPz.k {p : Program} {s : State} {m : MethodId} {meth : Method} {c : Code} {H : Heap} {locs : List Loc} {S : Array Slot} {ad : Ad} (P : LPz X b L xs bb ls st h p s m meth c H locs S ad) : ∀ v ∈ st, wl h v := P.2.2.2.2.2.2.2.2.2
theorem LPz.at {p : Program} {s : State} {m : MethodId} {meth : Method} {c : Code} {H : Heap} {locs : List Loc} {S : Array Slot} {ad : Ad} (P : LPz X b L xs bb ls st h p s m meth c H locs S ad) {j i : Nat} {v : AV} (hk : ls[j]? = some (i, v)) : S[i]? = some (.val (zw b ad v)) := lv_at P.2.2.2.2.2.2.2.1 j (by rw [List.getElem?_map, hk]; rfl)
theorem LPz.hw {p : Program} {s : State} {m : MethodId} {meth : Method} {c : Code} {H : Heap} {locs : List Loc} {S : Array Slot} {ad : Ad} (P : LPz X b L xs bb ls st h p s m meth c H locs S ad) {j : Nat} {q : Nat × AV} (hk : ls[j]? = some q) : ∀ x, q.2 = .inr (.inr (some x)) → x.1 = 9999 ∨ x.2 < gN h x.1 := P.2.2.2.2.2.2.2.2.1 _ (List.mem_of_getElem? hk)
theorem l_iconst {n : Int} {v : Int32} (hd : decode code pc = .ok (.iconst n, 1)) (hv : Int32.ofInt n = v) (k : LV X b L xs bb (pc + 1) ls (zi v :: st) h) : LV X b L xs bb pc ls st h := fun p l e s m below meth c H locs S ad P => lv_iconst P.1.1 P.1.2.1 hd hv (k p l e s m below meth c H locs S ad (P.ns (wls_c (wl_i h v) P.k)))
theorem l_bipush {n : Int} {v : Int32} (hd : decode code pc = .ok (.bipush n, 2)) (hv : (Int8.ofInt n).toInt32 = v) (k : LV X b L xs bb (pc + 2) ls (zi v :: st) h) : LV X b L xs bb pc ls st h := fun p l e s m below meth c H locs S ad P => lv_bipush P.1.1 P.1.2.1 hd hv (k p l e s m below meth c H locs S ad (P.ns (wls_c (wl_i h v) P.k)))
theorem l_iload_n {i : Fin 4} {j : Nat} {x : Int32} (hd : decode code pc = .ok (.iload_n i, 1)) (hk : ls[j]? = some ((i : Nat), zi x)) (k : LV X b L xs bb (pc + 1) ls (zi x :: st) h) : LV X b L xs bb pc ls st h := fun p l e s m below meth c H locs S ad P => lv_iload_n P.1.1 P.1.2.1 hd rfl (P.at hk) (k p l e s m below meth c H locs S ad (P.ns (wls_c (wl_i h x) P.k)))
theorem l_aload_n {i : Fin 4} {j : Nat} {q : Lb} (hd : decode code pc = .ok (.aload_n i, 1)) (hk : ls[j]? = some ((i : Nat), .inr (.inr (some q)))) (k : LV X b L xs bb (pc + 1) ls (.inr (.inr (some q)) :: st) h) : LV X b L xs bb pc ls st h := fun p l e s m below meth c H locs S ad P => by
  have K := k p l e s m below meth c H locs S ad (P.ns (wls_c (P.hw hk) P.k))
  have hl := P.at hk
  have hz : ∃ a, zw b ad (.inr (.inr (some q))) = .ref a := by
    unfold zw
    dsimp only
    by_cases z : q.1 = 9999
    · rw [if_pos z]; exact ⟨_, rfl⟩
    · rw [if_neg z]; exact ⟨_, rfl⟩
  obtain ⟨a, ha⟩ := hz
  rw [List.map_cons, ha] at K
  rw [ha] at hl
  exact lv_aload_n P.1.1 P.1.2.1 hd rfl hl K
theorem l_iadd {x y : Int32} (hd : decode code pc = .ok (.iadd, 1)) (k : LV X b L xs bb (pc + 1) ls (zi (x + y) :: st) h) : LV X b L xs bb pc ls (zi y :: zi x :: st) h := fun p l e s m below meth c H locs S ad P => lv_iadd P.1.1 P.1.2.1 hd (k p l e s m below meth c H locs S ad (P.ns (wls_c (wl_i h _) (wls_t (wls_t P.k)))))
theorem l_isub {x y : Int32} (hd : decode code pc = .ok (.isub, 1)) (k : LV X b L xs bb (pc + 1) ls (zi (x - y) :: st) h) : LV X b L xs bb pc ls (zi y :: zi x :: st) h := fun p l e s m below meth c H locs S ad P => lv_isub P.1.1 P.1.2.1 hd (k p l e s m below meth c H locs S ad (P.ns (wls_c (wl_i h _) (wls_t (wls_t P.k)))))
theorem l_iand {x y : Int32} (hd : decode code pc = .ok (.iand, 1)) (k : LV X b L xs bb (pc + 1) ls (zi (x &&& y) :: st) h) : LV X b L xs bb pc ls (zi y :: zi x :: st) h := fun p l e s m below meth c H locs S ad P => lv_iand P.1.1 P.1.2.1 hd (k p l e s m below meth c H locs S ad (P.ns (wls_c (wl_i h _) (wls_t (wls_t P.k)))))
theorem l_i2l {x : Int32} (hd : decode code pc = .ok (.i2l, 1)) (k : LV X b L xs bb (pc + 1) ls (zj x.toInt64 :: st) h) : LV X b L xs bb pc ls (zi x :: st) h := fun p l e s m below meth c H locs S ad P => lv_i2l P.1.1 P.1.2.1 hd rfl (k p l e s m below meth c H locs S ad (P.ns (wls_c (wl_j h _) (wls_t P.k))))
theorem l_dup {v : AV} (hd : decode code pc = .ok (.dup, 1)) (hc : c2 v = false) (k : LV X b L xs bb (pc + 1) ls (v :: v :: st) h) : LV X b L xs bb pc ls (v :: st) h := fun p l e s m below meth c H locs S ad P => lv_dup P.1.1 P.1.2.1 hd (by
  rcases v with x | x | _ | q
  · rfl
  · cases hc
  · rfl
  · show (if q.1 = 9999 then Value.ref b else Value.ref (ad q.1 q.2)).category = 1
    by_cases z : q.1 = 9999
    · rw [if_pos z]; rfl
    · rw [if_neg z]; rfl) (k p l e s m below meth c H locs S ad (P.ns (wls_c (P.k v List.mem_cons_self) P.k)))
theorem lbase {s : State} {H : Heap} {locs : List Loc} (hX : X.1 = s.heap.size) {p : Program} {m : MethodId} {meth : Method} {c : Code} (A : lw_At p s m meth c b L xs) : ¬ AA X b := fun q => by
  have q : X.1 ≤ b := q
  have := A.2.2.2.2.2.2.2.1
  omega
theorem l_slen (hd : decode code pc = .ok (.arraylength, 1)) (k : LV X b L xs bb (pc + 1) ls (zi (Int32.ofNat L) :: st) h) : LV X b L xs bb pc ls (zs :: st) h := fun p l e s m below meth c H locs S ad P => va_slen (A := AA X) P.1.1 P.1.2.1 P.1.2.2.2.2.2.2.1 P.1.2.2.2.2.2.2.2.1 (lbase (H := H) (locs := locs) P.2.1 P.1) P.2.2.2.2.2.1 hd (k p l e s m below meth c H locs S ad (P.ns (wls_c (wl_i h _) (wls_t P.k))))
theorem l_sld {i : Int32} (hi : ib i L) (hd : decode code pc = .ok (.iaload, 1)) (k : LV X b L xs bb (pc + 1) ls (zi (xs (ix i)) :: st) h) : LV X b L xs bb pc ls (zi i :: zs :: st) h := fun p l e s m below meth c H locs S ad P => va_sld (A := AA X) P.1.1 P.1.2.1 P.1.2.2.2.2.2.2.1 P.1.2.2.2.2.2.2.2.1 (lbase (H := H) (locs := locs) P.2.1 P.1) P.2.2.2.2.2.1 (ib_in hi) hd (k p l e s m below meth c H locs S ad (P.ns (wls_c (wl_i h _) (wls_t (wls_t P.k)))))
theorem l_goto {off : Int} {tgt : Nat} (hd : decode code pc = .ok (.goto off, 3)) (ht : (pc : Int) + off = (tgt : Int)) (k : LV X b L xs bb tgt ls st h) : LV X b L xs bb pc ls st h := fun p l e s m below meth c H locs S ad P => lv_goto P.1.1 P.1.2.1 hd ht (k p l e s m below meth c H locs S ad P)
theorem l_icmp_gt {x y : Int32} {off : Int} {tgt : Nat} (hd : decode code pc = .ok (.if_icmp .gt off, 3)) (ht : (pc : Int) + off = (tgt : Int)) (kt : y < x → LV X b L xs bb tgt ls st h) (kf : ¬ y < x → LV X b L xs bb (pc + 3) ls st h) : LV X b L xs bb pc ls (zi y :: zi x :: st) h := fun p l e s m below meth c H locs S ad P => lv_icmp_gt P.1.1 P.1.2.1 hd ht (fun q => kt (by simpa using q) p l e s m below meth c H locs S ad (P.ns (wls_t (wls_t P.k)))) (fun q => kf (by simpa using q) p l e s m below meth c H locs S ad (P.ns (wls_t (wls_t P.k))))
/-- the two answers are the same -/
theorem l_same {x : Int32} {off : Int} {tgt : Nat} (hd : decode code pc = .ok (.if_icmp .eq off, 3)) (ht : (pc : Int) + off = (tgt : Int)) (kt : LV X b L xs bb tgt ls st h) : LV X b L xs bb pc ls (zi x :: zi x :: st) h := fun p l e s m below meth c H locs S ad P => lv_icmp_eq P.1.1 P.1.2.1 hd ht (fun q => kt p l e s m below meth c H locs S ad (P.ns (wls_t (wls_t P.k)))) (fun q => absurd rfl q)
theorem l_sameJ {x : Int64} {off : Int} {tgt : Nat} (d1 : decode code pc = .ok (.lcmp, 1)) (hd : decode code (pc + 1) = .ok (.ifCond .eq off, 3)) (ht : ((pc + 1 : Nat) : Int) + off = (tgt : Int)) (kt : LV X b L xs bb tgt ls st h) : LV X b L xs bb pc ls (zj x :: zj x :: st) h := fun p l e s m below meth c H locs S ad P => W.lcmp P.1.1 P.1.2.1 d1 (lv_if_eq P.1.1 P.1.2.1 hd ht (fun q => kt p l e s m below meth c H locs S ad (P.ns (wls_t (wls_t P.k)))) (fun q => absurd ((lgc_eq x x).mpr rfl) q))
theorem l_same0 {off : Int} {x : Int32} {tgt : Nat} (hd : decode code pc = .ok (.ifCond .eq off, 3)) (ht : (pc : Int) + off = (tgt : Int)) (kt : x = 0 → LV X b L xs bb tgt ls st h) (kf : ¬ x = 0 → LV X b L xs bb (pc + 3) ls st h) : LV X b L xs bb pc ls (zi x :: st) h := fun p l e s m below meth c H locs S ad P => lv_if_eq P.1.1 P.1.2.1 hd ht (fun q => kt q p l e s m below meth c H locs S ad (P.ns (wls_t P.k))) (fun q => kf q p l e s m below meth c H locs S ad (P.ns (wls_t P.k)))
/-- script[..] != 0 as an argument -/
def bz (x : Int32) : Int32 := if x = 0 then 0 else 1
theorem l_bool {x : Int32} {o1 o2 : Int} (d1 : decode code pc = .ok (.ifCond .eq 7, 3)) (d2 : decode code (pc + 3) = .ok (.iconst 1, 1)) (d3 : decode code (pc + 3 + 1) = .ok (.goto 4, 3)) (d4 : decode code (pc + 7) = .ok (.iconst 0, 1)) (k : LV X b L xs bb (pc + 8) ls (zi (bz x) :: st) h) : LV X b L xs bb pc ls (zi x :: st) h := by
  refine l_same0 (tgt := pc + 7) d1 (by omega) (fun q => ?_) (fun q => ?_)
  · refine l_iconst (v := 0) d4 (by decide) ?_
    rw [show bz x = 0 from if_pos q] at k
    exact k
  · refine l_iconst (v := 1) d2 (by decide) ?_
    refine l_goto (tgt := pc + 8) d3 (by omega) ?_
    rw [show bz x = 1 from if_neg q] at k
    exact k
theorem l_tblIn {dflt lo hi : Int} {offs : Array Int} {len : Nat} {x : Int32} {off : Int} {tgt : Nat} (hd : decode code pc = .ok (.tableswitch dflt lo hi offs, len)) (q1 : ¬ x.toInt < lo) (q2 : ¬ hi < x.toInt) (ho : offs[(x.toInt - lo).toNat]? = some off) (ht : (pc : Int) + off = (tgt : Int)) (k : LV X b L xs bb tgt ls st h) : LV X b L xs bb pc ls (zi x :: st) h := fun p l e s m below meth c H locs S ad P => lv_tableIn P.1.1 P.1.2.1 hd q1 q2 ho ht (k p l e s m below meth c H locs S ad (P.ns (wls_t P.k)))
theorem l_tblOut {dflt lo hi : Int} {offs : Array Int} {len : Nat} {x : Int32} {tgt : Nat} (hd : decode code pc = .ok (.tableswitch dflt lo hi offs, len)) (q1 : x.toInt < lo ∨ hi < x.toInt) (ht : (pc : Int) + dflt = (tgt : Int)) (k : LV X b L xs bb tgt ls st h) : LV X b L xs bb pc ls (zi x :: st) h := fun p l e s m below meth c H locs S ad P => lv_tableOut P.1.1 P.1.2.1 hd q1 ht (k p l e s m below meth c H locs S ad (P.ns (wls_t P.k)))
theorem l_ret1 (hd : decode code pc = .ok (.ireturn, 1)) : LV X b L xs bb pc ls [zi 1] h := fun p l e s m below meth c H locs S ad P => by
  refine va_forget (fun q hq => ?_) (W.widen (k := 600000) (n := 7302249) P.2.2.2.2.2.2.1.1 P.2.2.2.2.2.2.1.2 (lw_ret P.1.1 P.1.2.1 P.1.2.2.1 P.1.2.2.2.2.2.2.2.2.1 hd))
  have := P.2.2.2.2.2.1.2.2 q hq
  rw [← P.2.1]
  exact this
theorem zw_st1 (ad : Ad) (i : Nat) (v : AV) (ls : List (Nat × AV)) (hc : c2 v = false) : (i, zw b ad v) :: (ls.map fun q => (q.1, zw b ad q.2)).filter (fun q => !(q.1 == i) && !(q.1 + 1 == i && q.2.category == 2)) = (st1 i v ls).map fun q => (q.1, zw b ad q.2) := by
  have e : ∀ v : AV, ((zw b ad v).category == 2) = c2 v := fun v => by
    rcases v with x | x | _ | q
    · rfl
    · rfl
    · rfl
    · show ((if q.1 = 9999 then Value.ref b else Value.ref (ad q.1 q.2)).category == 2) = false
      by_cases z : q.1 = 9999
      · rw [if_pos z]; rfl
      · rw [if_neg z]; rfl
  unfold st1
  simp only [List.filter_map, List.map_cons, Function.comp_def, e]
theorem wl_st1 {i : Nat} {v : AV} (hv : wl h v) (hl : ∀ q ∈ ls, wl h q.2) : ∀ q ∈ st1 i v ls, wl h q.2 := fun q hq => by
  rcases List.mem_cons.mp hq with e | e
  · rw [e]; exact hv
  · exact hl q (List.mem_filter.mp e).1
theorem LPz.lv {p : Program} {s : State} {m : MethodId} {meth : Method} {c : Code} {H : Heap} {locs : List Loc} {S S' : Array Slot} {ad : Ad} (P : LPz X b L xs bb ls st h p s m meth c H locs S ad) (hs : ∀ v ∈ st', wl h v) (hv : lv_has S' 4 (ls'.map fun q => (q.1, zw b ad q.2))) (hl : ∀ q ∈ ls', wl h q.2) : LPz X b L xs bb ls' st' h p s m meth c H locs S' ad := ⟨P.1, P.2.1, P.2.2.1, P.2.2.2.1, P.2.2.2.2.1, P.2.2.2.2.2.1, P.2.2.2.2.2.2.1, hv, hl, hs⟩
theorem l_istore_n {i : Fin 4} {x : Int32} (hd : decode code pc = .ok (.istore_n i, 1)) (hl : st1 (i : Nat) (zi x) ls = ls') (k : LV X b L xs bb (pc + 1) ls' st h) : LV X b L xs bb pc ls (zi x :: st) h := by
  subst hl
  exact fun p l e s m below meth c H locs S ad P => lv_istore_n P.1.1 P.1.2.1 hd rfl P.2.2.2.2.2.2.2.1 i.isLt (zw_st1 ad (i : Nat) (zi x) ls rfl) fun S' hv => k p l e s m below meth c H locs S' ad (P.lv (wls_t P.k) hv (wl_st1 (wl_i h x) P.2.2.2.2.2.2.2.2.1))
theorem l_astore_n {i : Fin 4} {q : Lb} (hd : decode code pc = .ok (.astore_n i, 1)) (hq : ¬ q.1 = 9999) (hl : st1 (i : Nat) (.inr (.inr (some q))) ls = ls') (k : LV X b L xs bb (pc + 1) ls' st h) : LV X b L xs bb pc ls (.inr (.inr (some q)) :: st) h := by
  subst hl
  intro p l e s m below meth c H locs S ad P
  have hz : zw b ad (.inr (.inr (some q))) = .ref (ad q.1 q.2) := if_neg hq
  rw [List.map_cons, hz]
  refine lv_astore_n P.1.1 P.1.2.1 hd rfl P.2.2.2.2.2.2.2.1 i.isLt (hz ▸ zw_st1 ad (i : Nat) (.inr (.inr (some q))) ls rfl) fun S' hv => k p l e s m below meth c H locs S' ad (P.lv (wls_t P.k) hv (wl_st1 (P.k _ List.mem_cons_self) P.2.2.2.2.2.2.2.2.1))
theorem l_iinc {i j : Nat} {n : Int} {x v : Int32} (hd : decode code pc = .ok (.iinc i n, 3)) (hk : ls[j]? = some (i, zi x)) (hv : x + Int32.ofInt n = v) (hn : i < 4) (hl : st1 i (zi v) ls = ls') (k : LV X b L xs bb (pc + 3) ls' st h) : LV X b L xs bb pc ls st h := by
  subst hl
  exact fun p l e s m below meth c H locs S ad P => lv_iinc P.1.1 P.1.2.1 hd P.2.2.2.2.2.2.2.1 (by rw [List.getElem?_map, hk]; rfl) hv hn (zw_st1 ad i (zi v) ls rfl) fun S' hv => k p l e s m below meth c H locs S' ad (P.lv P.k hv (wl_st1 (wl_i h v) P.2.2.2.2.2.2.2.2.1))
end LRows
