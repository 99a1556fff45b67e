/-! ===== level 2: a judgement of a run of a function; numbers that are not negative; frames ===== -/
def Wp {α : Type} (e : Option (α × Hp)) (Q : α → Hp → Prop) : Prop := ∃ r h, e = some (r, h) ∧ Q r h
theorem wp_some {α : Type} {r : α} {h : Hp} {Q : α → Hp → Prop} : Wp (some (r, h)) Q ↔ Q r h := ⟨fun ⟨_, _, e, q⟩ => (by cases e; exact q), fun q => ⟨r, h, rfl, q⟩⟩
theorem wp_lb {α β : Type} {e : β} {f : β → Option (α × Hp)} {Q : α → Hp → Prop} : Wp (lb e f) Q ↔ Wp (f e) Q := Iff.rfl
theorem wp_gd {α : Type} {c : Prop} [Decidable c] {k : Option (α × Hp)} {Q : α → Hp → Prop} : Wp (gd c k) Q ↔ c ∧ Wp k Q := by
  unfold gd
  by_cases q : c
  · rw [if_pos q]; exact ⟨fun z => ⟨q, z⟩, fun z => z.2⟩
  · rw [if_neg q]; exact ⟨fun ⟨_, _, e, _⟩ => (by cases e), fun z => absurd z.1 q⟩
theorem wp_br {α : Type} {c : Prop} [Decidable c] {a b : Option (α × Hp)} {Q : α → Hp → Prop} : Wp (br c a b) Q ↔ (c → Wp a Q) ∧ (¬ c → Wp b Q) := by
  unfold br
  by_cases q : c
  · rw [if_pos q]; exact ⟨fun z => ⟨fun _ => z, fun w => absurd q w⟩, fun z => z.1 q⟩
  · rw [if_neg q]; exact ⟨fun z => ⟨fun w => absurd w q, fun _ => z⟩, fun z => z.2 q⟩
theorem wp_bd {α β : Type} {e : Option (α × Hp)} {f : α → Hp → Option (β × Hp)} {Q : β → Hp → Prop} : Wp (bd e f) Q ↔ Wp e (fun r h => Wp (f r h) Q) := by
  cases e with
  | none => exact ⟨fun ⟨_, _, e, _⟩ => (by cases e), fun ⟨_, _, e, _⟩ => (by cases e)⟩
  | some q => exact ⟨fun z => ⟨q.1, q.2, rfl, z⟩, fun ⟨_, _, e, z⟩ => by cases e; exact z⟩
theorem wp_mt {α β : Type} {o : Option β} {k : Option (α × Hp)} {f : β → Option (α × Hp)} {Q : α → Hp → Prop} : Wp (mt o k f) Q ↔ (o = none → Wp k Q) ∧ (∀ z, o = some z → Wp (f z) Q) := by
  cases o with
  | none => exact ⟨fun z => ⟨fun _ => z, fun _ e => (by cases e)⟩, fun z => z.1 rfl⟩
  | some q => exact ⟨fun z => ⟨fun e => (by cases e), fun _ e => (by cases e; exact z)⟩, fun z => z.2 q rfl⟩
theorem wp_mono {α : Type} {e : Option (α × Hp)} {P Q : α → Hp → Prop} (w : Wp e P) (i : ∀ r h, P r h → Q r h) : Wp e Q := by
  obtain ⟨r, h, e, p⟩ := w
  exact ⟨r, h, e, i r h p⟩
theorem wp_eq {α : Type} {e : Option (α × Hp)} {Q : α → Hp → Prop} {r : α} {h : Hp} (q : e = some (r, h)) (k : Q r h) : Wp e Q := ⟨r, h, q, k⟩
theorem wp_call {α β : Type} {e : Option (α × Hp)} {f : α → Hp → Option (β × Hp)} {P : α → Hp → Prop} {Q : β → Hp → Prop} (w : Wp e P) (i : ∀ r h, P r h → Wp (f r h) Q) : Wp (bd e f) Q := wp_bd.mpr (wp_mono w i)
theorem wp_ceq {α β : Type} {e : Option (α × Hp)} {f : α → Hp → Option (β × Hp)} {Q : β → Hp → Prop} {r : α} {h : Hp} (q : e = some (r, h)) (k : Wp (f r h) Q) : Wp (bd e f) Q := by rw [bd_s q]; exact k
theorem wp_and {α : Type} {e : Option (α × Hp)} {P Q : α → Hp → Prop} (w : Wp e P) (v : Wp e Q) : Wp e (fun r h => P r h ∧ Q r h) := by
  obtain ⟨r, h, e1, p⟩ := w
  obtain ⟨r2, h2, e2, q⟩ := v
  rw [e1] at e2
  cases e2
  exact ⟨r, h, e1, p, q⟩
/-- numbers -/
def nZ (a : Nat) : Int32 := Int32.ofNat a
def m1 : Int32 := -1
theorem m1_e : (-1 : Int32) = m1 := rfl
theorem nZ_lit (n : Nat) : (OfNat.ofNat n : Int32) = nZ n := rfl
theorem nZ_t {a : Nat} (h : a < 2147483648) : (nZ a).toInt = (a : Int) := by unfold nZ; exact ofNat_i (by omega)
theorem m1_t : m1.toInt = -1 := by decide
theorem nZ_of {a : Int32} (h : 0 ≤ a.toInt) : a = nZ (ix a) := by
  have := i32_b a
  rw [i32_eq, nZ_t (by unfold ix; omega)]
  unfold ix
  omega
theorem nZ_ex {a : Int32} (h : 0 ≤ a.toInt) : ∃ n : Nat, a = nZ n ∧ (n : Int) = a.toInt ∧ n < 2147483648 := by
  have := i32_b a
  exact ⟨ix a, nZ_of h, by unfold ix; omega, by unfold ix; omega⟩
theorem nZ_add (a b : Nat) : nZ a + nZ b = nZ (a + b) := (Int32.ofNat_add a b).symm
theorem nZ_mul (a b : Nat) : nZ a * nZ b = nZ (a * b) := (Int32.ofNat_mul a b).symm
theorem nZ_sub {a b : Nat} (h : b ≤ a) (ha : a < 2147483648) : nZ a - nZ b = nZ (a - b) := by
  rw [i32_eq, sub32 (by rw [nZ_t ha, nZ_t (by omega)]; omega) (by rw [nZ_t ha, nZ_t (by omega)]; omega), nZ_t ha, nZ_t (by omega), nZ_t (by omega)]
  omega
theorem nZ_le {a b : Nat} (ha : a < 2147483648) (hb : b < 2147483648) : (nZ a ≤ nZ b) ↔ a ≤ b := by rw [i32_le, nZ_t ha, nZ_t hb]; omega
theorem nZ_lt {a b : Nat} (ha : a < 2147483648) (hb : b < 2147483648) : (nZ a < nZ b) ↔ a < b := by rw [i32_lt, nZ_t ha, nZ_t hb]; omega
theorem nZ_eq {a b : Nat} (ha : a < 2147483648) (hb : b < 2147483648) : (nZ a = nZ b) ↔ a = b := by rw [i32_eq, nZ_t ha, nZ_t hb]; omega
theorem nZ_ix {a : Nat} (ha : a < 2147483648) : ix (nZ a) = a := by unfold ix; rw [nZ_t ha]; omega
theorem nZ_ib {a L : Nat} (ha : a < 2147483648) : ib (nZ a) L ↔ a < L := by unfold ib; rw [nZ_t ha]; omega
theorem nZ_div {a b : Nat} (ha : a < 2147483648) (hb : b < 2147483648) (h0 : 0 < b) : nZ a / nZ b = nZ (a / b) := by
  have hd : a / b ≤ a := Nat.div_le_self a b
  rw [i32_eq, div32 (by rw [nZ_t ha]; omega) (by rw [nZ_t hb]; omega), nZ_t ha, nZ_t hb, nZ_t (by omega)]
  rfl
theorem nZ_m1 {a : Nat} (ha : a < 2147483648) : (nZ a = m1) ↔ False := by rw [i32_eq, nZ_t ha, m1_t]; exact iff_of_false (by omega) id
theorem m1_nZ {a : Nat} (ha : a < 2147483648) : (m1 = nZ a) ↔ False := by rw [i32_eq, nZ_t ha, m1_t]; exact iff_of_false (by omega) id
theorem neg_nZ1 : -(nZ 1) = m1 := rfl
theorem nZ_dec {a : Nat} (h : 1 ≤ a) (ha : a < 2147483648) : nZ a + m1 = nZ (a - 1) := by
  rw [i32_eq, add32 (by rw [nZ_t ha, m1_t]; omega) (by rw [nZ_t ha, m1_t]; omega), nZ_t ha, m1_t, nZ_t (by omega)]
  omega
theorem nZ_0m1 : nZ 0 + m1 = m1 := by decide
theorem m1_lt {a : Nat} (ha : a < 2147483648) : (m1 < nZ a) ↔ True := by rw [i32_lt, nZ_t ha, m1_t]; exact iff_of_true (by omega) trivial
theorem m1_le {a : Nat} (ha : a < 2147483648) : (m1 ≤ nZ a) ↔ True := by rw [i32_le, nZ_t ha, m1_t]; exact iff_of_true (by omega) trivial
theorem nZ_le_m1 {a : Nat} (ha : a < 2147483648) : (nZ a ≤ m1) ↔ False := by rw [i32_le, nZ_t ha, m1_t]; exact iff_of_false (by omega) id
theorem nZ_lt_m1 {a : Nat} (ha : a < 2147483648) : (nZ a < m1) ↔ False := by rw [i32_lt, nZ_t ha, m1_t]; exact iff_of_false (by omega) id
theorem mod32 (a : Nat) (ha : a < 2147483648) : nZ a - nZ (a / 32) * nZ 32 = nZ (a % 32) := by
  have := Nat.div_add_mod a 32
  have h2 : a / 32 * 32 ≤ a := Nat.div_mul_le_self a 32
  rw [nZ_mul, nZ_sub h2 ha]
  congr 1
  omega
/-- frames: kinds (and slots of objects) that may have changed -/
def cd (k i : Nat) : Nat := if k < 13 then 1000 * (k + 1) + i else k
def wi (W : List Nat) (k i : Nat) : Bool := W.elem (cd k i) || (Nat.ble k 12 && Nat.ble (nf k) i)
def Fr (W : List Nat) (h h' : Hp) : Prop := (∀ k n i, wi W k i = false → gI h' k n i = gI h k n i ∧ gJ h' k n i = gJ h k n i ∧ gR h' k n i = gR h k n i) ∧ (∀ k, W.elem (500 + k) = false → gN h' k = gN h k) ∧ (W.elem 999 = false → gC h' = gC h ∧ gS h' = gS h)
theorem Fr.I {W : List Nat} {h h' : Hp} (e : Fr W h h') (k n i : Nat) (q : wi W k i = false) : gI h' k n i = gI h k n i := (e.1 k n i q).1
theorem Fr.J {W : List Nat} {h h' : Hp} (e : Fr W h h') (k n i : Nat) (q : wi W k i = false) : gJ h' k n i = gJ h k n i := (e.1 k n i q).2.1
theorem Fr.R {W : List Nat} {h h' : Hp} (e : Fr W h h') (k n i : Nat) (q : wi W k i = false) : gR h' k n i = gR h k n i := (e.1 k n i q).2.2
theorem Fr.N {W : List Nat} {h h' : Hp} (e : Fr W h h') (k : Nat) (q : W.elem (500 + k) = false) : gN h' k = gN h k := e.2.1 k q
theorem Fr.rf (W : List Nat) (h : Hp) : Fr W h h := ⟨fun _ _ _ _ => ⟨rfl, rfl, rfl⟩, fun _ _ => rfl, fun _ => ⟨rfl, rfl⟩⟩
theorem Fr.tr {W : List Nat} {a b c : Hp} (p : Fr W a b) (q : Fr W b c) : Fr W a c := ⟨fun k n i z => ⟨(q.1 k n i z).1.trans (p.1 k n i z).1, (q.1 k n i z).2.1.trans (p.1 k n i z).2.1, (q.1 k n i z).2.2.trans (p.1 k n i z).2.2⟩, fun k z => (q.2.1 k z).trans (p.2.1 k z), fun z => ⟨(q.2.2 z).1.trans (p.2.2 z).1, (q.2.2 z).2.trans (p.2.2 z).2⟩⟩
theorem sub_e {W W' : List Nat} (s : W.all (fun c => W'.elem c) = true) {c : Nat} (z : W'.elem c = false) : W.elem c = false := by
  cases q : W.elem c with
  | false => rfl
  | true =>
    have := List.all_eq_true.mp s c (List.elem_iff.mp q)
    rw [z] at this
    cases this
theorem sub_w {W W' : List Nat} (s : W.all (fun c => W'.elem c) = true) {k i : Nat} (z : wi W' k i = false) : wi W k i = false := by
  unfold wi at z ⊢
  rw [Bool.or_eq_false_iff] at z ⊢
  exact ⟨sub_e s z.1, z.2⟩
theorem wi_k {W : List Nat} {k i : Nat} (hk : 13 ≤ k) : wi W k i = W.elem k := by
  unfold wi cd
  have : Nat.ble k 12 = false := by
    cases z : Nat.ble k 12 with
    | false => rfl
    | true => have := Nat.le_of_ble_eq_true z; omega
  rw [if_neg (by omega), this, Bool.false_and, Bool.or_false]
theorem Fr.wk {W W' : List Nat} {a b : Hp} (p : Fr W a b) (s : W.all (fun c => W'.elem c) = true) : Fr W' a b := ⟨fun k n i z => p.1 k n i (sub_w s z), fun k z => p.2.1 k (sub_e s z), fun z => p.2.2 (sub_e s z)⟩
theorem Fr_I {W : List Nat} (h : Hp) (k n i : Nat) (v : Int32) (hw : wi W k i = true) : Fr W h (sI h k n i v) := ⟨fun a b c z => ⟨if_neg fun q => (by rw [q.1, q.2.2, hw] at z; cases z), rfl, rfl⟩, fun _ _ => rfl, fun _ => ⟨rfl, rfl⟩⟩
theorem Fr_J {W : List Nat} (h : Hp) (k n i : Nat) (v : Int64) (hw : wi W k i = true) : Fr W h (sJ h k n i v) := ⟨fun a b c z => ⟨rfl, if_neg fun q => (by rw [q.1, q.2.2, hw] at z; cases z), rfl⟩, fun _ _ => rfl, fun _ => ⟨rfl, rfl⟩⟩
theorem Fr_R {W : List Nat} (h : Hp) (k n i : Nat) (v : Option Nat) (hw : wi W k i = true) : Fr W h (sR h k n i v) := ⟨fun a b c z => ⟨rfl, rfl, if_neg fun q => by rw [q.1, q.2.2, hw] at z; cases z⟩, fun _ _ => rfl, fun _ => ⟨rfl, rfl⟩⟩
theorem Fr_flI {W : List Nat} (h : Hp) (k n a e : Nat) (v : Int32) (hk : 13 ≤ k) (hw : W.elem k = true) : Fr W h (flI h k n a e v) := ⟨fun x b c z => ⟨if_neg fun q => by (rw [q.1, wi_k hk, hw] at z; cases z), rfl, rfl⟩, fun _ _ => rfl, fun _ => ⟨rfl, rfl⟩⟩
theorem Fr_flJ {W : List Nat} (h : Hp) (k n a e : Nat) (v : Int64) (hk : 13 ≤ k) (hw : W.elem k = true) : Fr W h (flJ h k n a e v) := ⟨fun x b c z => ⟨rfl, if_neg fun q => by (rw [q.1, wi_k hk, hw] at z; cases z), rfl⟩, fun _ _ => rfl, fun _ => ⟨rfl, rfl⟩⟩
theorem Eqx.fr {w : Nat → Nat → Bool} {W : List Nat} {h h' : Hp} (e : Eqx w h h') (s : ∀ k i, wi W k i = false → w k i = false) : Fr W h h' := ⟨fun k n i z => ⟨e.1 k n i (s k i z), e.2.1 k n i (s k i z), e.2.2.1 k n i (s k i z)⟩, fun k _ => e.2.2.2.1 k, fun _ => ⟨e.2.2.2.2.1, e.2.2.2.2.2⟩⟩
theorem wi_A {W : List Nat} {k i : Nat} (q : (Nat.ble 13 k && !W.elem k) = true) : wi W k i = false := by
  rw [Bool.and_eq_true] at q
  have hk := Nat.le_of_ble_eq_true q.1
  rw [wi_k hk]
  have := q.2
  cases z : W.elem k with
  | false => rfl
  | true => rw [z] at this; cases this
theorem Fr.A {W : List Nat} {h h' : Hp} (e : Fr W h h') (k n i : Nat) (q : (Nat.ble 13 k && !W.elem k) = true) : gI h' k n i = gI h k n i := e.I k n i (wi_A q)
theorem Fr.AJ {W : List Nat} {h h' : Hp} (e : Fr W h h') (k n i : Nat) (q : (Nat.ble 13 k && !W.elem k) = true) : gJ h' k n i = gJ h k n i := e.J k n i (wi_A q)
theorem Fr.AR {W : List Nat} {h h' : Hp} (e : Fr W h h') (k n i : Nat) (q : (Nat.ble 13 k && !W.elem k) = true) : gR h' k n i = gR h k n i := e.R k n i (wi_A q)
theorem gI_o {k n i a b c : Nat} {h : Hp} {v : Int32} (q : (a == k) = false) : gI (sI h k n i v) a b c = gI h a b c := if_neg fun z => by rw [z.1] at q; simp at q
theorem gI_p {k n i a b c : Nat} {h : Hp} {v : Int32} (q : (c == i) = false) : gI (sI h k n i v) a b c = gI h a b c := if_neg fun z => by rw [z.2.2] at q; simp at q
theorem gI_q {k n i : Nat} {h : Hp} {v : Int32} : gI (sI h k n i v) k n i = v := if_pos ⟨rfl, rfl, rfl⟩
theorem gJ_o {k n i a b c : Nat} {h : Hp} {v : Int64} (q : (a == k) = false) : gJ (sJ h k n i v) a b c = gJ h a b c := if_neg fun z => by rw [z.1] at q; simp at q
theorem gR_o {k n i a b c : Nat} {h : Hp} {v : Option Nat} (q : (a == k) = false) : gR (sR h k n i v) a b c = gR h a b c := if_neg fun z => by rw [z.1] at q; simp at q
theorem gI_a {k n i c : Nat} {h : Hp} {v : Int32} : gI (sI h k n i v) k n c = if c = i then v else gI h k n c := by
  rw [gI_sI]
  by_cases z : c = i
  · rw [if_pos ⟨rfl, rfl, z⟩, if_pos z]
  · rw [if_neg fun w => z w.2.2, if_neg z]
theorem gJ_a {k n i c : Nat} {h : Hp} {v : Int64} : gJ (sJ h k n i v) k n c = if c = i then v else gJ h k n c := by
  rw [gJ_sJ]
  by_cases z : c = i
  · rw [if_pos ⟨rfl, rfl, z⟩, if_pos z]
  · rw [if_neg fun w => z w.2.2, if_neg z]
theorem gR_a {k n i c : Nat} {h : Hp} {v : Option Nat} : gR (sR h k n i v) k n c = if c = i then v else gR h k n c := by
  rw [gR_sR]
  by_cases z : c = i
  · rw [if_pos ⟨rfl, rfl, z⟩, if_pos z]
  · rw [if_neg fun w => z w.2.2, if_neg z]
theorem nZ_suc (a : Nat) : nZ a + 1 = nZ (a + 1) := nZ_add a 1
theorem nZ_x32 (a : Nat) : (32 : Int32) * nZ a = nZ (32 * a) := nZ_mul 32 a
theorem nZ_32x (a : Nat) : nZ a * 32 = nZ (32 * a) := by rw [Nat.mul_comm]; exact nZ_mul a 32
theorem nZ_d32 {a : Nat} (h : a < 2147483648) : nZ a / 32 = nZ (a / 32) := nZ_div (b := 32) h (by decide) (by decide)
theorem nZ_m32 {a : Nat} (h : a < 2147483648) : nZ a - nZ (a / 32) * 32 = nZ (a % 32) := mod32 a h
theorem nZ_pre {a : Nat} (h : 1 ≤ a) (ha : a < 2147483648) : nZ a - 1 = nZ (a - 1) := nZ_sub (b := 1) h ha
theorem nZ_neg {a : Nat} (ha : a < 2147483648) : (nZ a < 0) ↔ False := by rw [i32_lt, nZ_t ha, z0]; exact iff_of_false (by omega) id
theorem nZ_lt1 {a : Nat} (ha : a < 2147483648) : (nZ a < 1) ↔ a < 1 := nZ_lt (b := 1) ha (by decide)
theorem nZ_z {a : Nat} (ha : a < 2147483648) : (nZ a = 0) ↔ a = 0 := nZ_eq (b := 0) ha (by decide)
theorem nZ_dn {a : Nat} (h : 1 ≤ a) (ha : a < 2147483648) : nZ a + (-1) = nZ (a - 1) := nZ_dec h ha
theorem nZ_01 : nZ 0 + (-1) = m1 := by decide
/-- a new cell: its kind's slots must all be named -/
def alS (W : List Nat) (k : Nat) : Bool := W.elem (500 + k) && W.elem 999 && if k < 13 then (List.range (nf k)).all (fun i => W.elem (cd k i)) else W.elem k
theorem alS_w {W : List Nat} {k : Nat} (h : alS W k = true) (i : Nat) : wi W k i = true := by
  unfold alS at h
  rw [Bool.and_eq_true] at h
  have h2 := h.2
  by_cases q : k < 13
  · rw [if_pos q] at h2
    unfold wi
    by_cases z : i < nf k
    · rw [List.all_eq_true.mp h2 i (List.mem_range.mpr z), Bool.true_or]
    · have a : Nat.ble k 12 = true := Nat.ble_eq_true_of_le (by omega)
      have b : Nat.ble (nf k) i = true := Nat.ble_eq_true_of_le (by omega)
      rw [a, b]
      simp
  · rw [if_neg q] at h2
    rw [wi_k (by omega)]
    exact h2
theorem Fr_nw {W : List Nat} (h : Hp) (k z : Nat) (hw : alS W k = true) : Fr W h (nw h k z) := by
  have a := alS_w hw
  unfold alS at hw
  rw [Bool.and_eq_true, Bool.and_eq_true] at hw
  refine ⟨fun x n i y => ?_, fun x y => ?_, fun y => by rw [hw.1.2] at y; cases y⟩
  · have : x ≠ k := fun e => by rw [e, a i] at y; cases y
    exact ⟨if_neg fun q => this q.1, if_neg fun q => this q.1, if_neg fun q => this q.1⟩
  · have : x ≠ k := fun e => by rw [e, hw.1.1] at y; cases y
    exact if_neg this
theorem gI_nw (h : Hp) (k z a b c : Nat) : gI (nw h k z) a b c = if a = k ∧ b = gN h k then 0 else gI h a b c := rfl
theorem gR_nw (h : Hp) (k z a b c : Nat) : gR (nw h k z) a b c = if a = k ∧ b = gN h k then none else gR h a b c := rfl
theorem gN_nw (h : Hp) (k z a : Nat) : gN (nw h k z) a = if a = k then gN h k + 1 else gN h a := rfl
theorem gN_sI (h : Hp) (k n i : Nat) (v : Int32) (a : Nat) : gN (sI h k n i v) a = gN h a := rfl
theorem gN_sJ (h : Hp) (k n i : Nat) (v : Int64) (a : Nat) : gN (sJ h k n i v) a = gN h a := rfl
theorem gN_sR (h : Hp) (k n i : Nat) (v : Option Nat) (a : Nat) : gN (sR h k n i v) a = gN h a := rfl
theorem gI_r {k n i a b c : Nat} {h : Hp} {v : Int32} (q : ¬ b = n) : gI (sI h k n i v) a b c = gI h a b c := if_neg fun z => q z.2.1
theorem gI_nwo {h : Hp} {k z a b c : Nat} (q : (a == k) = false) : gI (nw h k z) a b c = gI h a b c := if_neg fun w => by rw [w.1] at q; simp at q
theorem gR_nwo {h : Hp} {k z a b c : Nat} (q : (a == k) = false) : gR (nw h k z) a b c = gR h a b c := if_neg fun w => by rw [w.1] at q; simp at q
