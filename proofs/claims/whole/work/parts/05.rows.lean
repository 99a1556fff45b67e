/-! ===== rows: one instruction each, for the judgement V ===== -/
theorem lzs_c {h : Hp} {v : AV} {st : List AV} (h1 : lz h v) (h2 : lzs h st) : lzs h (v :: st) := fun x hx => by
  rcases List.mem_cons.mp hx with e | e
  · rw [e]; exact h1
  · exact h2 x e
theorem lzs.t {h : Hp} {v : AV} {st : List AV} (hs : lzs h (v :: st)) : lzs h st := fun x hx => hs x (List.mem_cons_of_mem _ hx)
theorem lzs.h {h : Hp} {v : AV} {st : List AV} (hs : lzs h (v :: st)) : lz h v := hs v List.mem_cons_self
def c2 (v : AV) : Bool := match v with
  | .inr (.inl _) => true
  | _ => false
theorem c2_cat (ad : Ad) (v : AV) : ((zv ad v).category == 2) = c2 v := by
  rcases v with x | x | _ | q <;> rfl
theorem c2_one {ad : Ad} {v : AV} (h : c2 v = false) : (zv ad v).category = 1 := by
  rcases v with x | x | _ | q
  · rfl
  · cases h
  · rfl
  · rfl
def st1 (i : Nat) (v : AV) (ls : List (Nat × AV)) : List (Nat × AV) := (i, v) :: ls.filter (fun q => !(q.1 == i) && !(q.1 + 1 == i && c2 q.2))
def st2 (i : Nat) (v : AV) (ls : List (Nat × AV)) : List (Nat × AV) := (i, v) :: ls.filter (fun q => !(q.1 == i) && (!(q.1 == i + 1) && !(q.1 + 1 == i && c2 q.2)))
theorem zl_st1 (ad : Ad) (i : Nat) (v : AV) (ls : List (Nat × AV)) : (i, zv ad v) :: (zl ad ls).filter (fun q => !(q.1 == i) && !(q.1 + 1 == i && q.2.category == 2)) = zl ad (st1 i v ls) := by
  unfold zl st1
  simp only [List.filter_map, List.map_cons, Function.comp_def, c2_cat]
theorem zl_st2 (ad : Ad) (i : Nat) (v : AV) (ls : List (Nat × AV)) : (i, zv ad v) :: (zl ad ls).filter (fun q => !(q.1 == i) && (!(q.1 == i + 1) && !(q.1 + 1 == i && q.2.category == 2))) = zl ad (st2 i v ls) := by
  unfold zl st2
  simp only [List.filter_map, List.map_cons, Function.comp_def, c2_cat]
theorem lzl_st1 {h : Hp} {i : Nat} {v : AV} {ls : List (Nat × AV)} (hv : lz h v) (hl : lzl h ls) : lzl h (st1 i v ls) := fun q hq => by
  rcases List.mem_cons.mp hq with e | e
  · rw [e]; exact hv
  · exact hl q (List.mem_filter.mp e).1
theorem lzl_st2 {h : Hp} {i : Nat} {v : AV} {ls : List (Nat × AV)} (hv : lz h v) (hl : lzl h ls) : lzl h (st2 i v ls) := fun q hq => by
  rcases List.mem_cons.mp hq with e | e
  · rw [e]; exact hv
  · exact hl q (List.mem_filter.mp e).1
theorem zl_at {ad : Ad} {ls : List (Nat × AV)} {j i : Nat} {v : AV} (h : ls[j]? = some (i, v)) : (zl ad ls)[j]? = some (i, zv ad v) := by
  unfold zl
  rw [List.getElem?_map, h]
  rfl
section Rows
variable {X : Cz} {M : Mi} {b : Bool} {h0 : Hp} {pc : Nat} {ls ls' : List (Nat × AV)} {st st' : List AV} {h h' : Hp} {r : Option AV} {h1 : Hp}
theorem Pm.hs {p : Program} {s : State} {m : MethodId} {args : Array Value} {meth : Method} {c : Code} {H : Heap} {locs : List Loc} {L : Array Slot} {ad ad0 : Ad} (P : Pm X M b h0 ls st h p s m args meth c H locs L ad ad0) : lzs h st := P.2.2.2.2.1
theorem Pm.ns {p : Program} {s : State} {m : MethodId} {args : Array Value} {meth : Method} {c : Code} {H : Heap} {locs : List Loc} {L : Array Slot} {ad ad0 : Ad} (P : Pm X M b h0 ls st h p s m args meth c H locs L ad ad0) (hs : lzs h st') : Pm X M b h0 ls st' h p s m args meth c H locs L ad ad0 := ⟨P.1, P.2.1, P.2.2.1, P.2.2.2.1, hs, P.2.2.2.2.2⟩
theorem Pm.lv {p : Program} {s : State} {m : MethodId} {args : Array Value} {meth : Method} {c : Code} {H : Heap} {locs : List Loc} {L L' : Array Slot} {ad ad0 : Ad} (P : Pm X M b h0 ls st h p s m args meth c H locs L ad ad0) (hs : lzs h st') (hl : lzl h ls') (hv : lv_has L' M.2.2.1 (zl ad ls')) : Pm X M b h0 ls' st' h p s m args meth c H locs L' ad ad0 := ⟨P.1, P.2.1, P.2.2.1, hl, hs, hv, P.2.2.2.2.2.2⟩
theorem Pm.at {p : Program} {s : State} {m : MethodId} {args : Array Value} {meth : Method} {c : Code} {H : Heap} {locs : List Loc} {L : Array Slot} {ad ad0 : Ad} (P : Pm X M b h0 ls st h p s m args meth c H locs L ad ad0) {j i : Nat} {v : AV} (hk : ls[j]? = some (i, v)) : L[i]? = some (.val (zv ad v)) := lv_at P.2.2.2.2.2.1 j (zl_at hk)
theorem Pm.hl {p : Program} {s : State} {m : MethodId} {args : Array Value} {meth : Method} {c : Code} {H : Heap} {locs : List Loc} {L : Array Slot} {ad ad0 : Ad} (P : Pm X M b h0 ls st h p s m args meth c H locs L ad ad0) {j i : Nat} {v : AV} (hk : ls[j]? = some (i, v)) : lz h v := P.2.2.2.1 _ (List.mem_of_getElem? hk)

theorem v_iconst {n : Int} {v : Int32} (hd : decode M.2.1 pc = .ok (.iconst n, 1)) (hv : Int32.ofInt n = v) (k : V X M b h0 (pc + 1) ls (zi v :: st) h r h1) : V X M b h0 pc ls st h r h1 :=
  ⟨k.1, fun l p e s m args below meth c H locs L ad ad0 P => lv_iconst P.1.1 P.1.2.1 hd hv (k.2 l p e s m args below meth c H locs L ad ad0 (P.ns (lzs_c (lz_i h v) P.hs)))⟩
theorem v_bipush {n : Int} {v : Int32} (hd : decode M.2.1 pc = .ok (.bipush n, 2)) (hv : (Int8.ofInt n).toInt32 = v) (k : V X M b h0 (pc + 2) ls (zi v :: st) h r h1) : V X M b h0 pc ls st h r h1 :=
  ⟨k.1, fun l p e s m args below meth c H locs L ad ad0 P => lv_bipush P.1.1 P.1.2.1 hd hv (k.2 l p e s m args below meth c H locs L ad ad0 (P.ns (lzs_c (lz_i h v) P.hs)))⟩
theorem v_sipush {n : Int} {v : Int32} (hd : decode M.2.1 pc = .ok (.sipush n, 3)) (hv : (Int16.ofInt n).toInt32 = v) (k : V X M b h0 (pc + 3) ls (zi v :: st) h r h1) : V X M b h0 pc ls st h r h1 :=
  ⟨k.1, fun l p e s m args below meth c H locs L ad ad0 P => lv_sipush P.1.1 P.1.2.1 hd hv (k.2 l p e s m args below meth c H locs L ad ad0 (P.ns (lzs_c (lz_i h v) P.hs)))⟩
theorem v_lconst {n : Fin 2} {v : Int64} (hd : decode M.2.1 pc = .ok (.lconst n, 1)) (hv : Int64.ofNat (n : Nat) = v) (k : V X M b h0 (pc + 1) ls (zj v :: st) h r h1) : V X M b h0 pc ls st h r h1 :=
  ⟨k.1, fun l p e s m args below meth c H locs L ad ad0 P => lv_lconst P.1.1 P.1.2.1 hd hv (k.2 l p e s m args below meth c H locs L ad ad0 (P.ns (lzs_c (lz_j h v) P.hs)))⟩
theorem v_ldc {i : Nat} {v : Int32} (hd : decode M.2.1 pc = .ok (.ldc i, 2)) (hw : Cond.constant M.1.cls i v ∈ tbz) (k : V X M b h0 (pc + 2) ls (zi v :: st) h r h1) : V X M b h0 pc ls st h r h1 :=
  ⟨k.1, fun l p e s m args below meth c H locs L ad ad0 P => lv_ldc P.1.1 P.1.2.1 P.1.2.2.2.2.1 (P.1.2.2.2.1 _ hw) hd (k.2 l p e s m args below meth c H locs L ad ad0 (P.ns (lzs_c (lz_i h v) P.hs)))⟩
theorem v_ldc2 {i : Nat} {v : Int64} (hd : decode M.2.1 pc = .ok (.ldc2_w i, 3)) (hw : Cond.constantLong M.1.cls i v ∈ tbz) (k : V X M b h0 (pc + 3) ls (zj v :: st) h r h1) : V X M b h0 pc ls st h r h1 :=
  ⟨k.1, fun l p e s m args below meth c H locs L ad ad0 P => lv_ldc2 P.1.1 P.1.2.1 P.1.2.2.2.2.1 (P.1.2.2.2.1 _ hw) hd (k.2 l p e s m args below meth c H locs L ad ad0 (P.ns (lzs_c (lz_j h v) P.hs)))⟩
theorem v_null (hd : decode M.2.1 pc = .ok (.aconst_null, 1)) (k : V X M b h0 (pc + 1) ls (zo :: st) h r h1) : V X M b h0 pc ls st h r h1 :=
  ⟨k.1, fun l p e s m args below meth c H locs L ad ad0 P => lv_null P.1.1 P.1.2.1 hd (k.2 l p e s m args below meth c H locs L ad ad0 (P.ns (lzs_c (lz_o h) P.hs)))⟩
theorem v_iload_n {i : Fin 4} {j : Nat} {x : Int32} (hd : decode M.2.1 pc = .ok (.iload_n i, 1)) (hk : ls[j]? = some ((i : Nat), zi x)) (k : V X M b h0 (pc + 1) ls (zi x :: st) h r h1) : V X M b h0 pc ls st h r h1 :=
  ⟨k.1, fun l p e s m args below meth c H locs L ad ad0 P => lv_iload_n P.1.1 P.1.2.1 hd rfl (P.at hk) (k.2 l p e s m args below meth c H locs L ad ad0 (P.ns (lzs_c (lz_i h x) P.hs)))⟩
theorem v_iload {i j : Nat} {x : Int32} (hd : decode M.2.1 pc = .ok (.iload i, 2)) (hk : ls[j]? = some (i, zi x)) (k : V X M b h0 (pc + 2) ls (zi x :: st) h r h1) : V X M b h0 pc ls st h r h1 :=
  ⟨k.1, fun l p e s m args below meth c H locs L ad ad0 P => lv_iload P.1.1 P.1.2.1 hd (P.at hk) (k.2 l p e s m args below meth c H locs L ad ad0 (P.ns (lzs_c (lz_i h x) P.hs)))⟩
theorem v_lload_n {i : Fin 4} {j : Nat} {x : Int64} (hd : decode M.2.1 pc = .ok (.lload_n i, 1)) (hk : ls[j]? = some ((i : Nat), zj x)) (k : V X M b h0 (pc + 1) ls (zj x :: st) h r h1) : V X M b h0 pc ls st h r h1 :=
  ⟨k.1, fun l p e s m args below meth c H locs L ad ad0 P => lv_lload_n P.1.1 P.1.2.1 hd rfl (P.at hk) (k.2 l p e s m args below meth c H locs L ad ad0 (P.ns (lzs_c (lz_j h x) P.hs)))⟩
theorem v_lload {i j : Nat} {x : Int64} (hd : decode M.2.1 pc = .ok (.lload i, 2)) (hk : ls[j]? = some (i, zj x)) (k : V X M b h0 (pc + 2) ls (zj x :: st) h r h1) : V X M b h0 pc ls st h r h1 :=
  ⟨k.1, fun l p e s m args below meth c H locs L ad ad0 P => lv_lload P.1.1 P.1.2.1 hd (P.at hk) (k.2 l p e s m args below meth c H locs L ad ad0 (P.ns (lzs_c (lz_j h x) P.hs)))⟩
theorem v_aload_n {i : Fin 4} {j : Nat} {o : Option Lb} (hd : decode M.2.1 pc = .ok (.aload_n i, 1)) (hk : ls[j]? = some (((i : Nat)), .inr (.inr o))) (k : V X M b h0 (pc + 1) ls (.inr (.inr o) :: st) h r h1) : V X M b h0 pc ls st h r h1 := by
  refine ⟨k.1, fun l p e s m args below meth c H locs L ad ad0 P => ?_⟩
  have K := k.2 l p e s m args below meth c H locs L ad ad0 (P.ns (lzs_c (P.hl hk) P.hs))
  have hl := P.at hk
  cases o with
  | none => exact lv_aload_nN P.1.1 P.1.2.1 hd rfl hl K
  | some q => exact lv_aload_n P.1.1 P.1.2.1 hd rfl hl K
theorem v_aload {i j : Nat} {o : Option Lb} (hd : decode M.2.1 pc = .ok (.aload i, 2)) (hk : ls[j]? = some (i, .inr (.inr o))) (k : V X M b h0 (pc + 2) ls (.inr (.inr o) :: st) h r h1) : V X M b h0 pc ls st h r h1 := by
  refine ⟨k.1, fun l p e s m args below meth c H locs L ad ad0 P => ?_⟩
  have K := k.2 l p e s m args below meth c H locs L ad ad0 (P.ns (lzs_c (P.hl hk) P.hs))
  have hl := P.at hk
  cases o with
  | none => exact lv_aloadN P.1.1 P.1.2.1 hd hl K
  | some q => exact lv_aload P.1.1 P.1.2.1 hd hl K
theorem v_istore_n {i : Fin 4} {x : Int32} (hd : decode M.2.1 pc = .ok (.istore_n i, 1)) (hn : (i : Nat) < M.2.2.1) (hl : st1 (i : Nat) (zi x) ls = ls') (k : V X M b h0 (pc + 1) ls' st h r h1) : V X M b h0 pc ls (zi x :: st) h r h1 := by
  subst hl
  exact ⟨k.1, fun l p e s m args below meth c H locs L ad ad0 P => lv_istore_n P.1.1 P.1.2.1 hd rfl P.2.2.2.2.2.1 hn (zl_st1 ad (i : Nat) (zi x) ls) fun L' hv => k.2 l p e s m args below meth c H locs L' ad ad0 (P.lv P.hs.t (lzl_st1 P.hs.h P.2.2.2.1) hv)⟩
theorem v_istore {i : Nat} {x : Int32} (hd : decode M.2.1 pc = .ok (.istore i, 2)) (hn : i < M.2.2.1) (hl : st1 i (zi x) ls = ls') (k : V X M b h0 (pc + 2) ls' st h r h1) : V X M b h0 pc ls (zi x :: st) h r h1 := by
  subst hl
  exact ⟨k.1, fun l p e s m args below meth c H locs L ad ad0 P => lv_istore P.1.1 P.1.2.1 hd P.2.2.2.2.2.1 hn (zl_st1 ad i (zi x) ls) fun L' hv => k.2 l p e s m args below meth c H locs L' ad ad0 (P.lv P.hs.t (lzl_st1 P.hs.h P.2.2.2.1) hv)⟩
theorem v_lstore_n {i : Fin 4} {x : Int64} (hd : decode M.2.1 pc = .ok (.lstore_n i, 1)) (hn : (i : Nat) + 1 < M.2.2.1) (hl : st2 (i : Nat) (zj x) ls = ls') (k : V X M b h0 (pc + 1) ls' st h r h1) : V X M b h0 pc ls (zj x :: st) h r h1 := by
  subst hl
  exact ⟨k.1, fun l p e s m args below meth c H locs L ad ad0 P => lv_lstore_n P.1.1 P.1.2.1 hd rfl P.2.2.2.2.2.1 hn (zl_st2 ad (i : Nat) (zj x) ls) fun L' hv => k.2 l p e s m args below meth c H locs L' ad ad0 (P.lv P.hs.t (lzl_st2 P.hs.h P.2.2.2.1) hv)⟩
theorem v_lstore {i : Nat} {x : Int64} (hd : decode M.2.1 pc = .ok (.lstore i, 2)) (hn : i + 1 < M.2.2.1) (hl : st2 i (zj x) ls = ls') (k : V X M b h0 (pc + 2) ls' st h r h1) : V X M b h0 pc ls (zj x :: st) h r h1 := by
  subst hl
  exact ⟨k.1, fun l p e s m args below meth c H locs L ad ad0 P => lv_lstore P.1.1 P.1.2.1 hd P.2.2.2.2.2.1 hn (zl_st2 ad i (zj x) ls) fun L' hv => k.2 l p e s m args below meth c H locs L' ad ad0 (P.lv P.hs.t (lzl_st2 P.hs.h P.2.2.2.1) hv)⟩
theorem v_astore_n {i : Fin 4} {o : Option Lb} (hd : decode M.2.1 pc = .ok (.astore_n i, 1)) (hn : (i : Nat) < M.2.2.1) (hl : st1 (i : Nat) (.inr (.inr o)) ls = ls') (k : V X M b h0 (pc + 1) ls' st h r h1) : V X M b h0 pc ls (.inr (.inr o) :: st) h r h1 := by
  subst hl
  refine ⟨k.1, fun l p e s m args below meth c H locs L ad ad0 P => ?_⟩
  cases o with
  | none => exact lv_astore_nN P.1.1 P.1.2.1 hd rfl P.2.2.2.2.2.1 hn (zl_st1 ad (i : Nat) (.inr (.inr (none))) ls) fun L' hv => k.2 l p e s m args below meth c H locs L' ad ad0 (P.lv P.hs.t (lzl_st1 P.hs.h P.2.2.2.1) hv)
  | some q => exact lv_astore_n P.1.1 P.1.2.1 hd rfl P.2.2.2.2.2.1 hn (zl_st1 ad (i : Nat) (.inr (.inr (some q))) ls) fun L' hv => k.2 l p e s m args below meth c H locs L' ad ad0 (P.lv P.hs.t (lzl_st1 P.hs.h P.2.2.2.1) hv)
theorem v_astore {i : Nat} {o : Option Lb} (hd : decode M.2.1 pc = .ok (.astore i, 2)) (hn : i < M.2.2.1) (hl : st1 i (.inr (.inr o)) ls = ls') (k : V X M b h0 (pc + 2) ls' st h r h1) : V X M b h0 pc ls (.inr (.inr o) :: st) h r h1 := by
  subst hl
  refine ⟨k.1, fun l p e s m args below meth c H locs L ad ad0 P => ?_⟩
  cases o with
  | none => exact lv_astoreN P.1.1 P.1.2.1 hd P.2.2.2.2.2.1 hn (zl_st1 ad i (.inr (.inr (none))) ls) fun L' hv => k.2 l p e s m args below meth c H locs L' ad ad0 (P.lv P.hs.t (lzl_st1 P.hs.h P.2.2.2.1) hv)
  | some q => exact lv_astore P.1.1 P.1.2.1 hd P.2.2.2.2.2.1 hn (zl_st1 ad i (.inr (.inr (some q))) ls) fun L' hv => k.2 l p e s m args below meth c H locs L' ad ad0 (P.lv P.hs.t (lzl_st1 P.hs.h P.2.2.2.1) hv)
theorem v_iinc {i j : Nat} {n : Int} {x v : Int32} (hd : decode M.2.1 pc = .ok (.iinc i n, 3)) (hk : ls[j]? = some (i, zi x)) (hv : x + Int32.ofInt n = v) (hn : i < M.2.2.1) (hl : st1 i (zi v) ls = ls') (k : V X M b h0 (pc + 3) ls' st h r h1) : V X M b h0 pc ls st h r h1 := by
  subst hl
  exact ⟨k.1, fun l p e s m args below meth c H locs L ad ad0 P => lv_iinc P.1.1 P.1.2.1 hd P.2.2.2.2.2.1 (zl_at hk) hv hn (zl_st1 ad i (zi v) ls) fun L' hv => k.2 l p e s m args below meth c H locs L' ad ad0 (P.lv P.hs (lzl_st1 (lz_i h _) P.2.2.2.1) hv)⟩
theorem v_iadd {x y : Int32} (hd : decode M.2.1 pc = .ok (.iadd, 1)) (k : V X M b h0 (pc + 1) ls (zi (x + y) :: st) h r h1) : V X M b h0 pc ls (zi y :: zi x :: st) h r h1 :=
  ⟨k.1, fun l p e s m args below meth c H locs L ad ad0 P => lv_iadd P.1.1 P.1.2.1 hd (k.2 l p e s m args below meth c H locs L ad ad0 (P.ns (lzs_c (lz_i h _) P.hs.t.t)))⟩
theorem v_isub {x y : Int32} (hd : decode M.2.1 pc = .ok (.isub, 1)) (k : V X M b h0 (pc + 1) ls (zi (x - y) :: st) h r h1) : V X M b h0 pc ls (zi y :: zi x :: st) h r h1 :=
  ⟨k.1, fun l p e s m args below meth c H locs L ad ad0 P => lv_isub P.1.1 P.1.2.1 hd (k.2 l p e s m args below meth c H locs L ad ad0 (P.ns (lzs_c (lz_i h _) P.hs.t.t)))⟩
theorem v_imul {x y : Int32} (hd : decode M.2.1 pc = .ok (.imul, 1)) (k : V X M b h0 (pc + 1) ls (zi (x * y) :: st) h r h1) : V X M b h0 pc ls (zi y :: zi x :: st) h r h1 :=
  ⟨k.1, fun l p e s m args below meth c H locs L ad ad0 P => lv_imul P.1.1 P.1.2.1 hd (k.2 l p e s m args below meth c H locs L ad ad0 (P.ns (lzs_c (lz_i h _) P.hs.t.t)))⟩
theorem v_iand {x y : Int32} (hd : decode M.2.1 pc = .ok (.iand, 1)) (k : V X M b h0 (pc + 1) ls (zi (x &&& y) :: st) h r h1) : V X M b h0 pc ls (zi y :: zi x :: st) h r h1 :=
  ⟨k.1, fun l p e s m args below meth c H locs L ad ad0 P => lv_iand P.1.1 P.1.2.1 hd (k.2 l p e s m args below meth c H locs L ad ad0 (P.ns (lzs_c (lz_i h _) P.hs.t.t)))⟩
theorem v_ior {x y : Int32} (hd : decode M.2.1 pc = .ok (.ior, 1)) (k : V X M b h0 (pc + 1) ls (zi (x ||| y) :: st) h r h1) : V X M b h0 pc ls (zi y :: zi x :: st) h r h1 :=
  ⟨k.1, fun l p e s m args below meth c H locs L ad ad0 P => lv_ior P.1.1 P.1.2.1 hd (k.2 l p e s m args below meth c H locs L ad ad0 (P.ns (lzs_c (lz_i h _) P.hs.t.t)))⟩
theorem v_ixor {x y : Int32} (hd : decode M.2.1 pc = .ok (.ixor, 1)) (k : V X M b h0 (pc + 1) ls (zi (x ^^^ y) :: st) h r h1) : V X M b h0 pc ls (zi y :: zi x :: st) h r h1 :=
  ⟨k.1, fun l p e s m args below meth c H locs L ad ad0 P => lv_ixor P.1.1 P.1.2.1 hd (k.2 l p e s m args below meth c H locs L ad ad0 (P.ns (lzs_c (lz_i h _) P.hs.t.t)))⟩
theorem v_ishl {x y : Int32} (hd : decode M.2.1 pc = .ok (.ishl, 1)) (k : V X M b h0 (pc + 1) ls (zi (x <<< (y &&& 31)) :: st) h r h1) : V X M b h0 pc ls (zi y :: zi x :: st) h r h1 :=
  ⟨k.1, fun l p e s m args below meth c H locs L ad ad0 P => lv_ishl P.1.1 P.1.2.1 hd (k.2 l p e s m args below meth c H locs L ad ad0 (P.ns (lzs_c (lz_i h _) P.hs.t.t)))⟩
theorem v_ishr {x y : Int32} (hd : decode M.2.1 pc = .ok (.ishr, 1)) (k : V X M b h0 (pc + 1) ls (zi (x >>> (y &&& 31)) :: st) h r h1) : V X M b h0 pc ls (zi y :: zi x :: st) h r h1 :=
  ⟨k.1, fun l p e s m args below meth c H locs L ad ad0 P => lv_ishr P.1.1 P.1.2.1 hd (k.2 l p e s m args below meth c H locs L ad ad0 (P.ns (lzs_c (lz_i h _) P.hs.t.t)))⟩
theorem v_iushr {x y : Int32} (hd : decode M.2.1 pc = .ok (.iushr, 1)) (k : V X M b h0 (pc + 1) ls (zi ((x.toUInt32 >>> (y.toUInt32 &&& Int32.toUInt32 31)).toInt32) :: st) h r h1) : V X M b h0 pc ls (zi y :: zi x :: st) h r h1 :=
  ⟨k.1, fun l p e s m args below meth c H locs L ad ad0 P => lv_iushr P.1.1 P.1.2.1 hd rfl (k.2 l p e s m args below meth c H locs L ad ad0 (P.ns (lzs_c (lz_i h _) P.hs.t.t)))⟩
theorem v_idiv {x y : Int32} (hd : decode M.2.1 pc = .ok (.idiv, 1)) (hne : ¬ y = 0) (k : V X M b h0 (pc + 1) ls (zi (x / y) :: st) h r h1) : V X M b h0 pc ls (zi y :: zi x :: st) h r h1 :=
  ⟨k.1, fun l p e s m args below meth c H locs L ad ad0 P => lv_idiv P.1.1 P.1.2.1 hd hne (k.2 l p e s m args below meth c H locs L ad ad0 (P.ns (lzs_c (lz_i h _) P.hs.t.t)))⟩
theorem v_irem {x y : Int32} (hd : decode M.2.1 pc = .ok (.irem, 1)) (hne : ¬ y = 0) (k : V X M b h0 (pc + 1) ls (zi (x - x / y * y) :: st) h r h1) : V X M b h0 pc ls (zi y :: zi x :: st) h r h1 :=
  ⟨k.1, fun l p e s m args below meth c H locs L ad ad0 P => lv_irem P.1.1 P.1.2.1 hd hne (k.2 l p e s m args below meth c H locs L ad ad0 (P.ns (lzs_c (lz_i h _) P.hs.t.t)))⟩
theorem v_ineg {x : Int32} (hd : decode M.2.1 pc = .ok (.ineg, 1)) (k : V X M b h0 (pc + 1) ls (zi (-x) :: st) h r h1) : V X M b h0 pc ls (zi x :: st) h r h1 :=
  ⟨k.1, fun l p e s m args below meth c H locs L ad ad0 P => lv_ineg P.1.1 P.1.2.1 hd (k.2 l p e s m args below meth c H locs L ad ad0 (P.ns (lzs_c (lz_i h _) P.hs.t)))⟩
theorem v_ladd {x y : Int64} (hd : decode M.2.1 pc = .ok (.ladd, 1)) (k : V X M b h0 (pc + 1) ls (zj (x + y) :: st) h r h1) : V X M b h0 pc ls (zj y :: zj x :: st) h r h1 :=
  ⟨k.1, fun l p e s m args below meth c H locs L ad ad0 P => lv_ladd P.1.1 P.1.2.1 hd (k.2 l p e s m args below meth c H locs L ad ad0 (P.ns (lzs_c (lz_j h _) P.hs.t.t)))⟩
theorem v_lsub {x y : Int64} (hd : decode M.2.1 pc = .ok (.lsub, 1)) (k : V X M b h0 (pc + 1) ls (zj (x - y) :: st) h r h1) : V X M b h0 pc ls (zj y :: zj x :: st) h r h1 :=
  ⟨k.1, fun l p e s m args below meth c H locs L ad ad0 P => lv_lsub P.1.1 P.1.2.1 hd (k.2 l p e s m args below meth c H locs L ad ad0 (P.ns (lzs_c (lz_j h _) P.hs.t.t)))⟩
theorem v_lmul {x y : Int64} (hd : decode M.2.1 pc = .ok (.lmul, 1)) (k : V X M b h0 (pc + 1) ls (zj (x * y) :: st) h r h1) : V X M b h0 pc ls (zj y :: zj x :: st) h r h1 :=
  ⟨k.1, fun l p e s m args below meth c H locs L ad ad0 P => lv_lmul P.1.1 P.1.2.1 hd (k.2 l p e s m args below meth c H locs L ad ad0 (P.ns (lzs_c (lz_j h _) P.hs.t.t)))⟩
theorem v_land {x y : Int64} (hd : decode M.2.1 pc = .ok (.land, 1)) (k : V X M b h0 (pc + 1) ls (zj (x &&& y) :: st) h r h1) : V X M b h0 pc ls (zj y :: zj x :: st) h r h1 :=
  ⟨k.1, fun l p e s m args below meth c H locs L ad ad0 P => lv_land P.1.1 P.1.2.1 hd (k.2 l p e s m args below meth c H locs L ad ad0 (P.ns (lzs_c (lz_j h _) P.hs.t.t)))⟩
theorem v_lor {x y : Int64} (hd : decode M.2.1 pc = .ok (.lor, 1)) (k : V X M b h0 (pc + 1) ls (zj (x ||| y) :: st) h r h1) : V X M b h0 pc ls (zj y :: zj x :: st) h r h1 :=
  ⟨k.1, fun l p e s m args below meth c H locs L ad ad0 P => lv_lor P.1.1 P.1.2.1 hd (k.2 l p e s m args below meth c H locs L ad ad0 (P.ns (lzs_c (lz_j h _) P.hs.t.t)))⟩
theorem v_lshl {x : Int64} {y : Int32} (hd : decode M.2.1 pc = .ok (.lshl, 1)) (k : V X M b h0 (pc + 1) ls (zj (x <<< (y.toInt64 &&& 63)) :: st) h r h1) : V X M b h0 pc ls (zi y :: zj x :: st) h r h1 :=
  ⟨k.1, fun l p e s m args below meth c H locs L ad ad0 P => lv_lshl P.1.1 P.1.2.1 hd rfl (k.2 l p e s m args below meth c H locs L ad ad0 (P.ns (lzs_c (lz_j h _) P.hs.t.t)))⟩
theorem v_lcmp {x y : Int64} (hd : decode M.2.1 pc = .ok (.lcmp, 1)) (k : V X M b h0 (pc + 1) ls (zi (lg_cmp x y) :: st) h r h1) : V X M b h0 pc ls (zj y :: zj x :: st) h r h1 :=
  ⟨k.1, fun l p e s m args below meth c H locs L ad ad0 P => W.lcmp P.1.1 P.1.2.1 hd (k.2 l p e s m args below meth c H locs L ad ad0 (P.ns (lzs_c (lz_i h _) P.hs.t.t)))⟩
theorem v_i2l {x : Int32} (hd : decode M.2.1 pc = .ok (.i2l, 1)) (k : V X M b h0 (pc + 1) ls (zj (x.toInt64) :: st) h r h1) : V X M b h0 pc ls (zi x :: st) h r h1 :=
  ⟨k.1, fun l p e s m args below meth c H locs L ad ad0 P => lv_i2l P.1.1 P.1.2.1 hd rfl (k.2 l p e s m args below meth c H locs L ad ad0 (P.ns (lzs_c (lz_j h _) P.hs.t)))⟩
theorem v_l2i {x : Int64} (hd : decode M.2.1 pc = .ok (.l2i, 1)) (k : V X M b h0 (pc + 1) ls (zi (x.toInt32) :: st) h r h1) : V X M b h0 pc ls (zj x :: st) h r h1 :=
  ⟨k.1, fun l p e s m args below meth c H locs L ad ad0 P => lv_l2i P.1.1 P.1.2.1 hd rfl (k.2 l p e s m args below meth c H locs L ad ad0 (P.ns (lzs_c (lz_i h _) P.hs.t)))⟩
theorem v_i2b {x : Int32} (hd : decode M.2.1 pc = .ok (.i2b, 1)) (k : V X M b h0 (pc + 1) ls (zi (x.toInt8.toInt32) :: st) h r h1) : V X M b h0 pc ls (zi x :: st) h r h1 :=
  ⟨k.1, fun l p e s m args below meth c H locs L ad ad0 P => lv_i2b P.1.1 P.1.2.1 hd rfl (k.2 l p e s m args below meth c H locs L ad ad0 (P.ns (lzs_c (lz_i h _) P.hs.t)))⟩
theorem v_i2s {x : Int32} (hd : decode M.2.1 pc = .ok (.i2s, 1)) (k : V X M b h0 (pc + 1) ls (zi (x.toInt16.toInt32) :: st) h r h1) : V X M b h0 pc ls (zi x :: st) h r h1 :=
  ⟨k.1, fun l p e s m args below meth c H locs L ad ad0 P => lv_i2s P.1.1 P.1.2.1 hd rfl (k.2 l p e s m args below meth c H locs L ad ad0 (P.ns (lzs_c (lz_i h _) P.hs.t)))⟩
theorem v_dup {v : AV} (hd : decode M.2.1 pc = .ok (.dup, 1)) (hc : c2 v = false) (k : V X M b h0 (pc + 1) ls (v :: v :: st) h r h1) : V X M b h0 pc ls (v :: st) h r h1 :=
  ⟨k.1, fun l p e s m args below meth c H locs L ad ad0 P => lv_dup P.1.1 P.1.2.1 hd (c2_one hc) (k.2 l p e s m args below meth c H locs L ad ad0 (P.ns (lzs_c P.hs.h P.hs)))⟩
theorem v_pop {v : AV} (hd : decode M.2.1 pc = .ok (.pop, 1)) (hc : c2 v = false) (k : V X M b h0 (pc + 1) ls st h r h1) : V X M b h0 pc ls (v :: st) h r h1 :=
  ⟨k.1, fun l p e s m args below meth c H locs L ad ad0 P => lv_pop P.1.1 P.1.2.1 hd (c2_one hc) (k.2 l p e s m args below meth c H locs L ad ad0 (P.ns (P.hs.t)))⟩
theorem v_if_eq {x : Int32} {off : Int} {tgt : Nat} (hd : decode M.2.1 pc = .ok (.ifCond .eq off, 3)) (ht : (pc : Int) + off = (tgt : Int)) (kt : x = 0 → V X M b h0 tgt ls st h r h1) (kf : ¬ (x = 0) → V X M b h0 (pc + 3) ls st h r h1) : V X M b h0 pc ls (zi x :: st) h r h1 := by
  refine ⟨?_, fun l p e s m args below meth c H locs L ad ad0 P => ?_⟩
  · by_cases q : x = 0
    · exact (kt q).1
    · exact (kf q).1
  · exact lv_if_eq P.1.1 P.1.2.1 hd ht (fun q => (kt (by simpa using q)).2 l p e s m args below meth c H locs L ad ad0 (P.ns P.hs.t)) (fun q => (kf (by simpa using q)).2 l p e s m args below meth c H locs L ad ad0 (P.ns P.hs.t))
theorem v_icmp_eq {x y : Int32} {off : Int} {tgt : Nat} (hd : decode M.2.1 pc = .ok (.if_icmp .eq off, 3)) (ht : (pc : Int) + off = (tgt : Int)) (kt : x = y → V X M b h0 tgt ls st h r h1) (kf : ¬ (x = y) → V X M b h0 (pc + 3) ls st h r h1) : V X M b h0 pc ls (zi y :: zi x :: st) h r h1 := by
  refine ⟨?_, fun l p e s m args below meth c H locs L ad ad0 P => ?_⟩
  · by_cases q : x = y
    · exact (kt q).1
    · exact (kf q).1
  · exact lv_icmp_eq P.1.1 P.1.2.1 hd ht (fun q => (kt (by simpa using q)).2 l p e s m args below meth c H locs L ad ad0 (P.ns P.hs.t.t)) (fun q => (kf (by simpa using q)).2 l p e s m args below meth c H locs L ad ad0 (P.ns P.hs.t.t))
theorem v_if_ne {x : Int32} {off : Int} {tgt : Nat} (hd : decode M.2.1 pc = .ok (.ifCond .ne off, 3)) (ht : (pc : Int) + off = (tgt : Int)) (kt : ¬ x = 0 → V X M b h0 tgt ls st h r h1) (kf : ¬ (¬ x = 0) → V X M b h0 (pc + 3) ls st h r h1) : V X M b h0 pc ls (zi x :: st) h r h1 := by
  refine ⟨?_, fun l p e s m args below meth c H locs L ad ad0 P => ?_⟩
  · by_cases q : ¬ x = 0
    · exact (kt q).1
    · exact (kf q).1
  · exact lv_if_ne P.1.1 P.1.2.1 hd ht (fun q => (kt (by simpa using q)).2 l p e s m args below meth c H locs L ad ad0 (P.ns P.hs.t)) (fun q => (kf (by simpa using q)).2 l p e s m args below meth c H locs L ad ad0 (P.ns P.hs.t))
theorem v_icmp_ne {x y : Int32} {off : Int} {tgt : Nat} (hd : decode M.2.1 pc = .ok (.if_icmp .ne off, 3)) (ht : (pc : Int) + off = (tgt : Int)) (kt : ¬ x = y → V X M b h0 tgt ls st h r h1) (kf : ¬ (¬ x = y) → V X M b h0 (pc + 3) ls st h r h1) : V X M b h0 pc ls (zi y :: zi x :: st) h r h1 := by
  refine ⟨?_, fun l p e s m args below meth c H locs L ad ad0 P => ?_⟩
  · by_cases q : ¬ x = y
    · exact (kt q).1
    · exact (kf q).1
  · exact lv_icmp_ne P.1.1 P.1.2.1 hd ht (fun q => (kt (by simpa using q)).2 l p e s m args below meth c H locs L ad ad0 (P.ns P.hs.t.t)) (fun q => (kf (by simpa using q)).2 l p e s m args below meth c H locs L ad ad0 (P.ns P.hs.t.t))
theorem v_if_lt {x : Int32} {off : Int} {tgt : Nat} (hd : decode M.2.1 pc = .ok (.ifCond .lt off, 3)) (ht : (pc : Int) + off = (tgt : Int)) (kt : x < 0 → V X M b h0 tgt ls st h r h1) (kf : ¬ (x < 0) → V X M b h0 (pc + 3) ls st h r h1) : V X M b h0 pc ls (zi x :: st) h r h1 := by
  refine ⟨?_, fun l p e s m args below meth c H locs L ad ad0 P => ?_⟩
  · by_cases q : x < 0
    · exact (kt q).1
    · exact (kf q).1
  · exact lv_if_lt P.1.1 P.1.2.1 hd ht (fun q => (kt (by simpa using q)).2 l p e s m args below meth c H locs L ad ad0 (P.ns P.hs.t)) (fun q => (kf (by simpa using q)).2 l p e s m args below meth c H locs L ad ad0 (P.ns P.hs.t))
theorem v_icmp_lt {x y : Int32} {off : Int} {tgt : Nat} (hd : decode M.2.1 pc = .ok (.if_icmp .lt off, 3)) (ht : (pc : Int) + off = (tgt : Int)) (kt : x < y → V X M b h0 tgt ls st h r h1) (kf : ¬ (x < y) → V X M b h0 (pc + 3) ls st h r h1) : V X M b h0 pc ls (zi y :: zi x :: st) h r h1 := by
  refine ⟨?_, fun l p e s m args below meth c H locs L ad ad0 P => ?_⟩
  · by_cases q : x < y
    · exact (kt q).1
    · exact (kf q).1
  · exact lv_icmp_lt P.1.1 P.1.2.1 hd ht (fun q => (kt (by simpa using q)).2 l p e s m args below meth c H locs L ad ad0 (P.ns P.hs.t.t)) (fun q => (kf (by simpa using q)).2 l p e s m args below meth c H locs L ad ad0 (P.ns P.hs.t.t))
theorem v_if_ge {x : Int32} {off : Int} {tgt : Nat} (hd : decode M.2.1 pc = .ok (.ifCond .ge off, 3)) (ht : (pc : Int) + off = (tgt : Int)) (kt : 0 ≤ x → V X M b h0 tgt ls st h r h1) (kf : ¬ (0 ≤ x) → V X M b h0 (pc + 3) ls st h r h1) : V X M b h0 pc ls (zi x :: st) h r h1 := by
  refine ⟨?_, fun l p e s m args below meth c H locs L ad ad0 P => ?_⟩
  · by_cases q : 0 ≤ x
    · exact (kt q).1
    · exact (kf q).1
  · exact lv_if_ge P.1.1 P.1.2.1 hd ht (fun q => (kt (by simpa using q)).2 l p e s m args below meth c H locs L ad ad0 (P.ns P.hs.t)) (fun q => (kf (by simpa using q)).2 l p e s m args below meth c H locs L ad ad0 (P.ns P.hs.t))
theorem v_icmp_ge {x y : Int32} {off : Int} {tgt : Nat} (hd : decode M.2.1 pc = .ok (.if_icmp .ge off, 3)) (ht : (pc : Int) + off = (tgt : Int)) (kt : y ≤ x → V X M b h0 tgt ls st h r h1) (kf : ¬ (y ≤ x) → V X M b h0 (pc + 3) ls st h r h1) : V X M b h0 pc ls (zi y :: zi x :: st) h r h1 := by
  refine ⟨?_, fun l p e s m args below meth c H locs L ad ad0 P => ?_⟩
  · by_cases q : y ≤ x
    · exact (kt q).1
    · exact (kf q).1
  · exact lv_icmp_ge P.1.1 P.1.2.1 hd ht (fun q => (kt (by simpa using q)).2 l p e s m args below meth c H locs L ad ad0 (P.ns P.hs.t.t)) (fun q => (kf (by simpa using q)).2 l p e s m args below meth c H locs L ad ad0 (P.ns P.hs.t.t))
theorem v_if_gt {x : Int32} {off : Int} {tgt : Nat} (hd : decode M.2.1 pc = .ok (.ifCond .gt off, 3)) (ht : (pc : Int) + off = (tgt : Int)) (kt : 0 < x → V X M b h0 tgt ls st h r h1) (kf : ¬ (0 < x) → V X M b h0 (pc + 3) ls st h r h1) : V X M b h0 pc ls (zi x :: st) h r h1 := by
  refine ⟨?_, fun l p e s m args below meth c H locs L ad ad0 P => ?_⟩
  · by_cases q : 0 < x
    · exact (kt q).1
    · exact (kf q).1
  · exact lv_if_gt P.1.1 P.1.2.1 hd ht (fun q => (kt (by simpa using q)).2 l p e s m args below meth c H locs L ad ad0 (P.ns P.hs.t)) (fun q => (kf (by simpa using q)).2 l p e s m args below meth c H locs L ad ad0 (P.ns P.hs.t))
theorem v_icmp_gt {x y : Int32} {off : Int} {tgt : Nat} (hd : decode M.2.1 pc = .ok (.if_icmp .gt off, 3)) (ht : (pc : Int) + off = (tgt : Int)) (kt : y < x → V X M b h0 tgt ls st h r h1) (kf : ¬ (y < x) → V X M b h0 (pc + 3) ls st h r h1) : V X M b h0 pc ls (zi y :: zi x :: st) h r h1 := by
  refine ⟨?_, fun l p e s m args below meth c H locs L ad ad0 P => ?_⟩
  · by_cases q : y < x
    · exact (kt q).1
    · exact (kf q).1
  · exact lv_icmp_gt P.1.1 P.1.2.1 hd ht (fun q => (kt (by simpa using q)).2 l p e s m args below meth c H locs L ad ad0 (P.ns P.hs.t.t)) (fun q => (kf (by simpa using q)).2 l p e s m args below meth c H locs L ad ad0 (P.ns P.hs.t.t))
theorem v_if_le {x : Int32} {off : Int} {tgt : Nat} (hd : decode M.2.1 pc = .ok (.ifCond .le off, 3)) (ht : (pc : Int) + off = (tgt : Int)) (kt : x ≤ 0 → V X M b h0 tgt ls st h r h1) (kf : ¬ (x ≤ 0) → V X M b h0 (pc + 3) ls st h r h1) : V X M b h0 pc ls (zi x :: st) h r h1 := by
  refine ⟨?_, fun l p e s m args below meth c H locs L ad ad0 P => ?_⟩
  · by_cases q : x ≤ 0
    · exact (kt q).1
    · exact (kf q).1
  · exact lv_if_le P.1.1 P.1.2.1 hd ht (fun q => (kt (by simpa using q)).2 l p e s m args below meth c H locs L ad ad0 (P.ns P.hs.t)) (fun q => (kf (by simpa using q)).2 l p e s m args below meth c H locs L ad ad0 (P.ns P.hs.t))
theorem v_icmp_le {x y : Int32} {off : Int} {tgt : Nat} (hd : decode M.2.1 pc = .ok (.if_icmp .le off, 3)) (ht : (pc : Int) + off = (tgt : Int)) (kt : x ≤ y → V X M b h0 tgt ls st h r h1) (kf : ¬ (x ≤ y) → V X M b h0 (pc + 3) ls st h r h1) : V X M b h0 pc ls (zi y :: zi x :: st) h r h1 := by
  refine ⟨?_, fun l p e s m args below meth c H locs L ad ad0 P => ?_⟩
  · by_cases q : x ≤ y
    · exact (kt q).1
    · exact (kf q).1
  · exact lv_icmp_le P.1.1 P.1.2.1 hd ht (fun q => (kt (by simpa using q)).2 l p e s m args below meth c H locs L ad ad0 (P.ns P.hs.t.t)) (fun q => (kf (by simpa using q)).2 l p e s m args below meth c H locs L ad ad0 (P.ns P.hs.t.t))
theorem v_goto {off : Int} {tgt : Nat} (hd : decode M.2.1 pc = .ok (.goto off, 3)) (ht : (pc : Int) + off = (tgt : Int)) (k : V X M b h0 tgt ls st h r h1) : V X M b h0 pc ls st h r h1 :=
  ⟨k.1, fun l p e s m args below meth c H locs L ad ad0 P => lv_goto P.1.1 P.1.2.1 hd ht (k.2 l p e s m args below meth c H locs L ad ad0 P)⟩
theorem v_ifnullN {off : Int} {tgt : Nat} (hd : decode M.2.1 pc = .ok (.ifnull off, 3)) (ht : (pc : Int) + off = (tgt : Int)) (k : V X M b h0 tgt ls st h r h1) : V X M b h0 pc ls (zo :: st) h r h1 :=
  ⟨k.1, fun l p e s m args below meth c H locs L ad ad0 P => lv_ifnullN P.1.1 P.1.2.1 hd ht (k.2 l p e s m args below meth c H locs L ad ad0 (P.ns (P.hs.t)))⟩
theorem v_ifnullS {off : Int} {tgt : Nat} {q : Lb} (hd : decode M.2.1 pc = .ok (.ifnull off, 3)) (ht : (pc : Int) + off = (tgt : Int)) (k : V X M b h0 (pc + 3) ls st h r h1) : V X M b h0 pc ls (.inr (.inr (some q)) :: st) h r h1 :=
  ⟨k.1, fun l p e s m args below meth c H locs L ad ad0 P => lv_ifnull P.1.1 P.1.2.1 hd (k.2 l p e s m args below meth c H locs L ad ad0 (P.ns (P.hs.t)))⟩
theorem v_ifnonnullN {off : Int} {tgt : Nat} (hd : decode M.2.1 pc = .ok (.ifnonnull off, 3)) (ht : (pc : Int) + off = (tgt : Int)) (k : V X M b h0 (pc + 3) ls st h r h1) : V X M b h0 pc ls (zo :: st) h r h1 :=
  ⟨k.1, fun l p e s m args below meth c H locs L ad ad0 P => lv_ifnonnullN P.1.1 P.1.2.1 hd (k.2 l p e s m args below meth c H locs L ad ad0 (P.ns (P.hs.t)))⟩
theorem v_ifnonnullS {off : Int} {tgt : Nat} {q : Lb} (hd : decode M.2.1 pc = .ok (.ifnonnull off, 3)) (ht : (pc : Int) + off = (tgt : Int)) (k : V X M b h0 tgt ls st h r h1) : V X M b h0 pc ls (.inr (.inr (some q)) :: st) h r h1 :=
  ⟨k.1, fun l p e s m args below meth c H locs L ad ad0 P => lv_ifnonnull P.1.1 P.1.2.1 hd ht (k.2 l p e s m args below meth c H locs L ad ad0 (P.ns (P.hs.t)))⟩
theorem v_lookup {dflt : Int} {ps : Array (Int × Int)} {len : Nat} {x : Int32} {off : Int} {tgt : Nat} (hd : decode M.2.1 pc = .ok (.lookupswitch dflt ps, len)) (hp : (ps.toList.zip (ps.toList.drop 1)).all (fun (a, next) => a.1 < next.1) = true) (ho : Op.lookupswitch.offset ps.toList dflt x.toInt = off) (ht : (pc : Int) + off = (tgt : Int)) (k : V X M b h0 tgt ls st h r h1) : V X M b h0 pc ls (zi x :: st) h r h1 :=
  ⟨k.1, fun l p e s m args below meth c H locs L ad ad0 P => lv_lookup P.1.1 P.1.2.1 hd hp ho ht (k.2 l p e s m args below meth c H locs L ad ad0 (P.ns (P.hs.t)))⟩
theorem v_tblIn {dflt lo hi : Int} {offs : Array Int} {len : Nat} {x : Int32} {off : Int} {tgt : Nat} (hd : decode M.2.1 pc = .ok (.tableswitch dflt lo hi offs, len)) (q1 : ¬ x.toInt < lo) (q2 : ¬ hi < x.toInt) (ho : offs[(x.toInt - lo).toNat]? = some off) (ht : (pc : Int) + off = (tgt : Int)) (k : V X M b h0 tgt ls st h r h1) : V X M b h0 pc ls (zi x :: st) h r h1 :=
  ⟨k.1, fun l p e s m args below meth c H locs L ad ad0 P => lv_tableIn P.1.1 P.1.2.1 hd q1 q2 ho ht (k.2 l p e s m args below meth c H locs L ad ad0 (P.ns (P.hs.t)))⟩
theorem v_tblOut {dflt lo hi : Int} {offs : Array Int} {len : Nat} {x : Int32} {tgt : Nat} (hd : decode M.2.1 pc = .ok (.tableswitch dflt lo hi offs, len)) (q1 : x.toInt < lo ∨ hi < x.toInt) (ht : (pc : Int) + dflt = (tgt : Int)) (k : V X M b h0 tgt ls st h r h1) : V X M b h0 pc ls (zi x :: st) h r h1 :=
  ⟨k.1, fun l p e s m args below meth c H locs L ad ad0 P => lv_tableOut P.1.1 P.1.2.1 hd q1 ht (k.2 l p e s m args below meth c H locs L ad ad0 (P.ns (P.hs.t)))⟩
theorem v_sub (ks : List Nat) (hl : ks.filterMap (fun j => ls[j]?) = ls') (k : V X M b h0 pc ls' st h r h1) : V X M b h0 pc ls st h r h1 := by
  subst hl
  have hm : ∀ q ∈ ks.filterMap (fun j => ls[j]?), q ∈ ls := fun q hq => by
    obtain ⟨j, -, hj⟩ := List.mem_filterMap.mp hq
    exact List.mem_of_getElem? hj
  refine ⟨k.1, fun l p e s m args below meth c H locs L ad ad0 P => k.2 l p e s m args below meth c H locs L ad ad0 (P.lv P.hs (fun q hq => P.2.2.2.1 q (hm q hq)) ?_)⟩
  obtain ⟨q1, q2, q3⟩ := P.2.2.2.2.2.1
  refine ⟨q1, q2, fun q hq => q3 q ?_⟩
  obtain ⟨q0, e1, e2⟩ := List.mem_map.mp hq
  exact List.mem_map.mpr ⟨q0, hm q0 e1, e2⟩
end Rows
