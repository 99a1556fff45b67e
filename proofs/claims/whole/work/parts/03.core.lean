/-! ===== the abstract heap: kinds of cells (k), a serial number (n), a slot (i) ===== -/
abbrev Lb : Type := Nat × Nat
abbrev AV : Type := Int32 ⊕ Int64 ⊕ Option Lb
abbrev Ad : Type := Nat → Nat → Nat
def zv (ad : Ad) (v : AV) : Value := match v with
  | .inl x => .int x
  | .inr (.inl x) => .long x
  | .inr (.inr none) => .null
  | .inr (.inr (some q)) => .ref (ad q.1 q.2)
abbrev zi (x : Int32) : AV := .inl x
abbrev zj (x : Int64) : AV := .inr (.inl x)
abbrev zr (k n : Nat) : AV := .inr (.inr (some (k, n)))
abbrev zo : AV := .inr (.inr none)
abbrev zq (k : Nat) (o : Option Nat) : AV := .inr (.inr (o.map fun n => (k, n)))
abbrev Hp : Type := (Nat → Nat → Nat → Int32) × (Nat → Nat → Nat → Int64) × (Nat → Nat → Nat → Option Nat) × (Nat → Nat) × Nat × Nat
def gI (h : Hp) (k n i : Nat) : Int32 := h.1 k n i
def gJ (h : Hp) (k n i : Nat) : Int64 := h.2.1 k n i
def gR (h : Hp) (k n i : Nat) : Option Nat := h.2.2.1 k n i
def gN (h : Hp) (k : Nat) : Nat := h.2.2.2.1 k
def gC (h : Hp) : Nat := h.2.2.2.2.1
def gS (h : Hp) : Nat := h.2.2.2.2.2
def sI (h : Hp) (k n i : Nat) (v : Int32) : Hp := (fun a b c => if a = k ∧ b = n ∧ c = i then v else h.1 a b c, h.2)
def sJ (h : Hp) (k n i : Nat) (v : Int64) : Hp := (h.1, fun a b c => if a = k ∧ b = n ∧ c = i then v else h.2.1 a b c, h.2.2)
def sR (h : Hp) (k n i : Nat) (v : Option Nat) : Hp := (h.1, h.2.1, fun a b c => if a = k ∧ b = n ∧ c = i then v else h.2.2.1 a b c, h.2.2.2)
/-- a new cell of kind k, of z slots, all default -/
def nw (h : Hp) (k z : Nat) : Hp := (fun a b c => if a = k ∧ b = gN h k then 0 else h.1 a b c, fun a b c => if a = k ∧ b = gN h k then 0 else h.2.1 a b c, fun a b c => if a = k ∧ b = gN h k then none else h.2.2.1 a b c, fun a => if a = k then gN h k + 1 else gN h a, gC h + 1, gS h + z)
abbrev Cz : Type := Nat × (Nat → ClassId) × (Nat → Nat → Nat) × (Nat → ClassId)
/-- an object's field j: by its type (0 int, 3 boolean, 1 long, else a reference to a cell of kind rk c j) -/
def ov (ad : Ad) (h : Hp) (k n c : Nat) (j : Nat) : Value := if ft c j = 0 ∨ ft c j = 3 then .int (gI h k n j) else if ft c j = 1 then .long (gJ h k n j) else zv ad (zq (rk c j) (gR h k n j))
/-- an array's element j: by the array's type (0 int, 1 boolean, 2 long, else references to cells of kind ek t) -/
def aw (ad : Ad) (h : Hp) (k n t : Nat) (j : Nat) : Value := if t = 0 ∨ t = 1 then .int (gI h k n j) else if t = 2 then .long (gJ h k n j) else zv ad (zq (ek t) (gR h k n j))
def okc (X : Cz) (h : Hp) (ad : Ad) (H : Heap) (k n : Nat) : Prop := match kd k with
  | .inl c => c < 13 ∧ t_OB (ad k n) (X.2.1 c) (nf c) (X.2.2.1 c) H (ov ad h k n c)
  | .inr q => q.1 < 6 ∧ H[ad k n]? = some (arrV (X.2.2.2 q.1) q.2 (aw ad h k n q.1))
/-- the kind of the cells that a slot of kind k may refer to -/
def sk (k i : Nat) : Nat := match kd k with
  | .inl c => rk c i
  | .inr q => ek q.1
def Hz (X : Cz) (h : Hp) (ad : Ad) (H : Heap) : Prop :=
  (∀ k n, n < gN h k → okc X h ad H k n) ∧ (∀ k n k' n', n < gN h k → n' < gN h k' → ad k n = ad k' n' → k = k' ∧ n = n') ∧ (∀ k n, n < gN h k → X.1 ≤ ad k n) ∧ (∀ k n i q, n < gN h k → gR h k n i = some q → q < gN h (sk k i)) ∧ X.1 ≤ H.size
/-- what the tables say: classes, array classes, links between nest mates -/
def Kz (X : Cz) (U : State) : Prop := va_K (X.2.1, X.2.2.1) classes [(X.2.2.2 0, .int), (X.2.2.2 1, .boolean), (X.2.2.2 2, .long), (X.2.2.2 3, .object RX8), (X.2.2.2 4, .object RX5), (X.2.2.2 5, .object RX2)] U ∧ (∀ w ∈ nst, va_Nw (.methodLinkNest w.1 w.2.1 w.2.2.1 w.2.2.2) U) ∧ va_AO RX8 U ∧ va_AO RX5 U ∧ va_AO RX2 U
def Ly (h : Hp) : Prop := ∀ q ∈ lyL, gR h q.1 0 q.2 = some 0
def lz (h : Hp) (v : AV) : Prop := ∀ q, v = .inr (.inr (some q)) → q.2 < gN h q.1
def lzs (h : Hp) (l : List AV) : Prop := ∀ v ∈ l, lz h v
def lzl (h : Hp) (l : List (Nat × AV)) : Prop := ∀ q ∈ l, lz h q.2
def le (h h1 : Hp) : Prop := gC h ≤ gC h1 ∧ gS h ≤ gS h1 ∧ ∀ k, gN h k ≤ gN h1 k
def Ex (h : Hp) (ad ad1 : Ad) : Prop := ∀ k n, n < gN h k → ad1 k n = ad k n
def zl (ad : Ad) (l : List (Nat × AV)) : List (Nat × Value) := l.map fun q => (q.1, zv ad q.2)
theorem le.rf (h : Hp) : le h h := ⟨Nat.le_refl _, Nat.le_refl _, fun _ => Nat.le_refl _⟩
theorem le.tr {a b c : Hp} (h1 : le a b) (h2 : le b c) : le a c := ⟨Nat.le_trans h1.1 h2.1, Nat.le_trans h1.2.1 h2.2.1, fun k => Nat.le_trans (h1.2.2 k) (h2.2.2 k)⟩
theorem lz.up {h h1 : Hp} {v : AV} (hv : lz h v) (hl : le h h1) : lz h1 v := fun q e => Nat.lt_of_lt_of_le (hv q e) (hl.2.2 q.1)
theorem lzs.up {h h1 : Hp} {v : List AV} (hv : lzs h v) (hl : le h h1) : lzs h1 v := fun q e => (hv q e).up hl
theorem lzl.up {h h1 : Hp} {v : List (Nat × AV)} (hv : lzl h v) (hl : le h h1) : lzl h1 v := fun q e => (hv q e).up hl
theorem Ex.rf (h : Hp) (ad : Ad) : Ex h ad ad := fun _ _ _ => rfl
theorem Ex.tr {h h1 : Hp} {a b c : Ad} (e1 : Ex h a b) (hl : le h h1) (e2 : Ex h1 b c) : Ex h a c := fun k n hn => (e2 k n (Nat.lt_of_lt_of_le hn (hl.2.2 k))).trans (e1 k n hn)
theorem lz_i (h : Hp) (x : Int32) : lz h (zi x) := fun q e => by cases e
theorem lz_j (h : Hp) (x : Int64) : lz h (zj x) := fun q e => by cases e
theorem lz_o (h : Hp) : lz h zo := fun q e => by cases e
theorem lz_r {h : Hp} {k n : Nat} (hn : n < gN h k) : lz h (zr k n) := fun q e => by cases e; exact hn
theorem zv_ex {h : Hp} {ad ad1 : Ad} {v : AV} (hv : lz h v) (e : Ex h ad ad1) : zv ad1 v = zv ad v := by
  rcases v with x | x | _ | q
  · rfl
  · rfl
  · rfl
  · show Value.ref _ = Value.ref _
    rw [e q.1 q.2 (hv q rfl)]
theorem zs_ex {h : Hp} {ad ad1 : Ad} {l : List AV} (hv : lzs h l) (e : Ex h ad ad1) : l.map (zv ad1) = l.map (zv ad) := List.map_congr_left fun v h1 => zv_ex (hv v h1) e
theorem zl_ex {h : Hp} {ad ad1 : Ad} {l : List (Nat × AV)} (hv : lzl h l) (e : Ex h ad ad1) : zl ad1 l = zl ad l := List.map_congr_left fun v h1 => by rw [zv_ex (hv v h1) e]
abbrev Mi : Type := MethodName × ByteArray × Nat × Option FieldType × Nat × Nat
def AA (X : Cz) : Nat → Prop := fun q => X.1 ≤ q
def Qd (X : Cz) (b : Bool) (h0 : Hp) (ad0 : Ad) (r : Option AV) (h1 : Hp) : Array Value → State → Outcome → State → Prop := fun _ st oc t =>
  (∃ ad, oc = .returned (r.map (zv ad)) ∧ Hz X h1 ad t.heap ∧ Ex h0 ad0 ad ∧ (∀ v, r = some v → lz h1 v) ∧ (b = true → Ly h1)) ∧ va_F (AA X) st t
def rmz (M : Mi) (c z : Nat) : Room := { frames := M.2.2.2.2.1, cells := c, slots := z, locals := M.2.2.2.2.2 }
def Pz (X : Cz) (b : Bool) (av : List AV) (h : Hp) (ad : Ad) : State → Prop := fun U => Hz X h ad U.heap ∧ Kz X U ∧ lzs h av ∧ (b = true → Ly h)
/-- a method's contract: from the cells h and the arguments av it ends with the answer r and the cells h1 -/
def Ct (X : Cz) (M : Mi) (b : Bool) (av : List AV) (h : Hp) (r : Option AV) (h1 : Hp) : Prop := le h h1 ∧ ∀ (l : Launch) (ad : Ad),
  Met l M.1 (.code M.1 M.2.1 M.2.2.1 M.2.2.2.1 :: tbz) (rmz M (gC h1 - gC h) (gS h1 - gS h)) (va_Pc (av.map (zv ad)) (Pz X b av h ad)) (Qd X b h ad r h1) (gC h1 - gC h) (gS h1 - gS h) (AA X)
/-- what is known within a method's body -/
def Cx (X : Cz) (M : Mi) (p : Program) (s : State) (m : MethodId) (args : Array Value) (meth : Method) (c : Code) : Prop :=
  p.tables.exec = Jvm.exec ∧ c.code = M.2.1 ∧ meth.sig.returnType = M.2.2.2.1 ∧ (∀ w ∈ tbz, w.before args s = true) ∧ s.vm.findClass M.1.cls = some m.cls ∧ c.maxLocals = M.2.2.1 ∧ meth.locks = false ∧ meth.name = M.1.name ∧ Kz X s ∧ X.1 ≤ s.heap.size
def Pm (X : Cz) (M : Mi) (b : Bool) (h0 : Hp) (ls : List (Nat × AV)) (st : List AV) (h : Hp) (p : Program) (s : State) (m : MethodId) (args : Array Value) (meth : Method) (c : Code) (H : Heap) (locs : List Loc) (L : Array Slot) (ad ad0 : Ad) : Prop :=
  Cx X M p s m args meth c ∧ Hz X h ad H ∧ (b = true → Ly h) ∧ lzl h ls ∧ lzs h st ∧ lv_has L M.2.2.1 (zl ad ls) ∧ va_S (AA X) s.heap H locs ∧ Ex h0 ad0 ad ∧ le h0 h
/-- from this place of the method's body, with these locals, this stack, these cells: it ends with the answer r and the cells h1 -/
def V (X : Cz) (M : Mi) (b : Bool) (h0 : Hp) (pc : Nat) (ls : List (Nat × AV)) (st : List AV) (h : Hp) (r : Option AV) (h1 : Hp) : Prop := le h h1 ∧
  ∀ (l : Launch) (p : Program) (e : Env) (s : State) (m : MethodId) (args : Array Value) (below : List Frame) (meth : Method) (c : Code) (H : Heap) (locs : List Loc) (L : Array Slot) (ad ad0 : Ad), Pm X M b h0 ls st h p s m args meth c H locs L ad ad0 →
    W p l e (rmz M (gC h1 - gC h0) (gS h1 - gS h0)) s m args below meth c H locs (gC h - gC h0) (gS h - gS h0) (MQ below (Qd X b h0 ad0 r h1) args s (gC h1 - gC h0) (gS h1 - gS h0) (AA X)) (F0 m pc L (st.map (zv ad)))
