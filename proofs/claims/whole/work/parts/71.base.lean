/-! ===== level 2: pure functions. What a function leaves as it was; comparisons in whole numbers ===== -/
/-- h1 is h but for the ints, longs and references at the places that w names (kind, slot); no cell is new -/
def Eqx (w : Nat → Nat → Bool) (h h1 : Hp) : Prop := (∀ k n i, w k i = false → gI h1 k n i = gI h k n i) ∧ (∀ k n i, w k i = false → gJ h1 k n i = gJ h k n i) ∧ (∀ k n i, w k i = false → gR h1 k n i = gR h k n i) ∧ (∀ k, gN h1 k = gN h k) ∧ gC h1 = gC h ∧ gS h1 = gS h
theorem Eqx.rf (w : Nat → Nat → Bool) (h : Hp) : Eqx w h h := ⟨fun _ _ _ _ => rfl, fun _ _ _ _ => rfl, fun _ _ _ _ => rfl, fun _ => rfl, rfl, rfl⟩
theorem Eqx.tr {w : Nat → Nat → Bool} {a b c : Hp} (p : Eqx w a b) (q : Eqx w b c) : Eqx w a c := ⟨fun k n i z => (q.1 k n i z).trans (p.1 k n i z), fun k n i z => (q.2.1 k n i z).trans (p.2.1 k n i z), fun k n i z => (q.2.2.1 k n i z).trans (p.2.2.1 k n i z), fun k => (q.2.2.2.1 k).trans (p.2.2.2.1 k), q.2.2.2.2.1.trans p.2.2.2.2.1, q.2.2.2.2.2.trans p.2.2.2.2.2⟩
theorem Eqx.wk {w w' : Nat → Nat → Bool} {a b : Hp} (p : Eqx w a b) (h : ∀ k i, w' k i = false → w k i = false) : Eqx w' a b := ⟨fun k n i z => p.1 k n i (h k i z), fun k n i z => p.2.1 k n i (h k i z), fun k n i z => p.2.2.1 k n i (h k i z), p.2.2.2⟩
theorem Eqx_I {w : Nat → Nat → Bool} (h : Hp) (k n i : Nat) (v : Int32) (hw : w k i = true) : Eqx w h (sI h k n i v) := ⟨(fun a b c z => if_neg fun q => by rw [q.1, q.2.2, hw] at z; cases z), fun _ _ _ _ => rfl, fun _ _ _ _ => rfl, fun _ => rfl, rfl, rfl⟩
theorem Eqx_J {w : Nat → Nat → Bool} (h : Hp) (k n i : Nat) (v : Int64) (hw : w k i = true) : Eqx w h (sJ h k n i v) := ⟨fun _ _ _ _ => rfl, (fun a b c z => if_neg fun q => by rw [q.1, q.2.2, hw] at z; cases z), fun _ _ _ _ => rfl, fun _ => rfl, rfl, rfl⟩
theorem Eqx_R {w : Nat → Nat → Bool} (h : Hp) (k n i : Nat) (v : Option Nat) (hw : w k i = true) : Eqx w h (sR h k n i v) := ⟨fun _ _ _ _ => rfl, fun _ _ _ _ => rfl, (fun a b c z => if_neg fun q => by rw [q.1, q.2.2, hw] at z; cases z), fun _ => rfl, rfl, rfl⟩
theorem Eqx_flI {w : Nat → Nat → Bool} (h : Hp) (k n a e : Nat) (v : Int32) (hw : ∀ i, w k i = true) : Eqx w h (flI h k n a e v) := ⟨(fun x b c z => if_neg fun q => by rw [q.1, hw] at z; cases z), fun _ _ _ _ => rfl, fun _ _ _ _ => rfl, fun _ => rfl, rfl, rfl⟩
theorem Eqx_flJ {w : Nat → Nat → Bool} (h : Hp) (k n a e : Nat) (v : Int64) (hw : ∀ i, w k i = true) : Eqx w h (flJ h k n a e v) := ⟨fun _ _ _ _ => rfl, (fun x b c z => if_neg fun q => by rw [q.1, hw] at z; cases z), fun _ _ _ _ => rfl, fun _ => rfl, rfl, rfl⟩
theorem Eqx_cpJ {w : Nat → Nat → Bool} (h : Hp) (k n a d c : Nat) (hw : ∀ i, w k i = true) : Eqx w h (cpJ h k n a d c) := ⟨fun _ _ _ _ => rfl, (fun x b c z => if_neg fun q => by rw [q.1, hw] at z; cases z), fun _ _ _ _ => rfl, fun _ => rfl, rfl, rfl⟩
theorem gI_sI (h : Hp) (k n i : Nat) (v : Int32) (a b c : Nat) : gI (sI h k n i v) a b c = if a = k ∧ b = n ∧ c = i then v else gI h a b c := rfl
theorem gJ_sJ (h : Hp) (k n i : Nat) (v : Int64) (a b c : Nat) : gJ (sJ h k n i v) a b c = if a = k ∧ b = n ∧ c = i then v else gJ h a b c := rfl
theorem gR_sR (h : Hp) (k n i : Nat) (v : Option Nat) (a b c : Nat) : gR (sR h k n i v) a b c = if a = k ∧ b = n ∧ c = i then v else gR h a b c := rfl
theorem gI_sJ (h : Hp) (k n i : Nat) (v : Int64) (a b c : Nat) : gI (sJ h k n i v) a b c = gI h a b c := rfl
theorem gI_sR (h : Hp) (k n i : Nat) (v : Option Nat) (a b c : Nat) : gI (sR h k n i v) a b c = gI h a b c := rfl
theorem gJ_sI (h : Hp) (k n i : Nat) (v : Int32) (a b c : Nat) : gJ (sI h k n i v) a b c = gJ h a b c := rfl
theorem gJ_sR (h : Hp) (k n i : Nat) (v : Option Nat) (a b c : Nat) : gJ (sR h k n i v) a b c = gJ h a b c := rfl
theorem gR_sI (h : Hp) (k n i : Nat) (v : Int32) (a b c : Nat) : gR (sI h k n i v) a b c = gR h a b c := rfl
theorem gR_sJ (h : Hp) (k n i : Nat) (v : Int64) (a b c : Nat) : gR (sJ h k n i v) a b c = gR h a b c := rfl
theorem gI_flI (h : Hp) (k n x e : Nat) (v : Int32) (a b c : Nat) : gI (flI h k n x e v) a b c = if a = k ∧ b = n ∧ x ≤ c ∧ c < e then v else gI h a b c := rfl
theorem gJ_flJ (h : Hp) (k n x e : Nat) (v : Int64) (a b c : Nat) : gJ (flJ h k n x e v) a b c = if a = k ∧ b = n ∧ x ≤ c ∧ c < e then v else gJ h a b c := rfl
theorem gI_flJ (h : Hp) (k n x e : Nat) (v : Int64) (a b c : Nat) : gI (flJ h k n x e v) a b c = gI h a b c := rfl
theorem gJ_flI (h : Hp) (k n x e : Nat) (v : Int32) (a b c : Nat) : gJ (flI h k n x e v) a b c = gJ h a b c := rfl
theorem gJ_cpJ (h : Hp) (k n x d z : Nat) (a b c : Nat) : gJ (cpJ h k n x d z) a b c = if a = k ∧ b = n ∧ d ≤ c ∧ c < d + z then gJ h k n (x + (c - d)) else gJ h a b c := rfl
theorem gI_cpJ (h : Hp) (k n x d z : Nat) (a b c : Nat) : gI (cpJ h k n x d z) a b c = gI h a b c := rfl
theorem sI_1 (h : Hp) (k n i : Nat) (v : Int32) : gI (sI h k n i v) k n i = v := if_pos ⟨rfl, rfl, rfl⟩
/-- whole numbers -/
theorem i32_eq {x y : Int32} : x = y ↔ x.toInt = y.toInt := Int32.toInt_inj.symm
theorem i64_le {x y : Int64} : x ≤ y ↔ x.toInt ≤ y.toInt := Int64.le_iff_toInt_le
theorem i64_lt {x y : Int64} : x < y ↔ x.toInt < y.toInt := Int64.lt_iff_toInt_lt
theorem i64_eq {x y : Int64} : x = y ↔ x.toInt = y.toInt := Int64.toInt_inj.symm
theorem i32_b (x : Int32) : -2147483648 ≤ x.toInt ∧ x.toInt ≤ 2147483647 := ⟨by have := Int32.le_toInt x; omega, by have := Int32.toInt_lt x; omega⟩
theorem i64_b (x : Int64) : -9223372036854775808 ≤ x.toInt ∧ x.toInt ≤ 9223372036854775807 := ⟨by have := Int64.le_toInt x; omega, by have := Int64.toInt_lt x; omega⟩
theorem add32 {x y : Int32} (h1 : -2147483648 ≤ x.toInt + y.toInt) (h2 : x.toInt + y.toInt ≤ 2147483647) : (x + y).toInt = x.toInt + y.toInt := by
  rw [Int32.toInt_add]
  exact Int.bmod_eq_of_le (by omega) (by omega)
theorem sub32 {x y : Int32} (h1 : -2147483648 ≤ x.toInt - y.toInt) (h2 : x.toInt - y.toInt ≤ 2147483647) : (x - y).toInt = x.toInt - y.toInt := by
  rw [Int32.toInt_sub]
  exact Int.bmod_eq_of_le (by omega) (by omega)
theorem mul32 {x y : Int32} (h1 : -2147483648 ≤ x.toInt * y.toInt) (h2 : x.toInt * y.toInt ≤ 2147483647) : (x * y).toInt = x.toInt * y.toInt := by
  rw [Int32.toInt_mul]
  exact Int.bmod_eq_of_le (by omega) (by omega)
theorem add64 {x y : Int64} (h1 : -9223372036854775808 ≤ x.toInt + y.toInt) (h2 : x.toInt + y.toInt ≤ 9223372036854775807) : (x + y).toInt = x.toInt + y.toInt := by
  rw [Int64.toInt_add]
  exact Int.bmod_eq_of_le (by omega) (by omega)
theorem sub64 {x y : Int64} (h1 : -9223372036854775808 ≤ x.toInt - y.toInt) (h2 : x.toInt - y.toInt ≤ 9223372036854775807) : (x - y).toInt = x.toInt - y.toInt := by
  rw [Int64.toInt_sub]
  exact Int.bmod_eq_of_le (by omega) (by omega)
theorem mul64 {x y : Int64} (h1 : -9223372036854775808 ≤ x.toInt * y.toInt) (h2 : x.toInt * y.toInt ≤ 9223372036854775807) : (x * y).toInt = x.toInt * y.toInt := by
  rw [Int64.toInt_mul]
  exact Int.bmod_eq_of_le (by omega) (by omega)
theorem to64 (x : Int32) : x.toInt64.toInt = x.toInt := Int32.toInt_toInt64 x
/-- the two sides' tests of a range -/
theorem isWithin_t (a lo hi : Int32) (h : Hp) : fX11_isWithin a lo hi h = if lo.toInt ≤ a.toInt ∧ a.toInt ≤ hi.toInt then 1 else 0 := by
  unfold fX11_isWithin br
  by_cases q1 : a < lo
  · rw [if_pos q1, if_neg fun z => by have := i32_lt.mp q1; omega]
  · rw [if_neg q1]
    by_cases q2 : hi < a
    · rw [if_pos q2, if_neg fun z => by have := i32_lt.mp q2; omega]
    · rw [if_neg q2, if_pos ⟨Int.not_lt.mp fun z => q1 (i32_lt.mpr z), Int.not_lt.mp fun z => q2 (i32_lt.mpr z)⟩]
theorem in_t (a lo hi : Int64) (h : Hp) : fX12_in a lo hi h = if lo.toInt ≤ a.toInt ∧ a.toInt ≤ hi.toInt then 1 else 0 := by
  unfold fX12_in br
  by_cases q1 : a < lo
  · rw [if_pos q1, if_neg fun z => by have := i64_lt.mp q1; omega]
  · rw [if_neg q1]
    by_cases q2 : hi < a
    · rw [if_pos q2, if_neg fun z => by have := i64_lt.mp q2; omega]
    · rw [if_neg q2, if_pos ⟨Int.not_lt.mp fun z => q1 (i64_lt.mpr z), Int.not_lt.mp fun z => q2 (i64_lt.mpr z)⟩]
/-- a range's test against 0 -/
theorem rng0 (p : Prop) [Decidable p] : ((if p then (1 : Int32) else 0) = 0) ↔ ¬ p := by
  by_cases q : p
  · rw [if_pos q]; exact iff_of_false (by decide) fun z => z q
  · rw [if_neg q]; exact iff_of_true rfl q
theorem isWithin_0 (a lo hi : Int32) (h : Hp) : (fX11_isWithin a lo hi h = 0) ↔ ¬ (lo.toInt ≤ a.toInt ∧ a.toInt ≤ hi.toInt) := by rw [isWithin_t]; exact rng0 _
theorem in_0 (a lo hi : Int64) (h : Hp) : (fX12_in a lo hi h = 0) ↔ ¬ (lo.toInt ≤ a.toInt ∧ a.toInt ≤ hi.toInt) := by rw [in_t]; exact rng0 _
/-- the first words of a run of a function -/
theorem br_p {γ : Type} {c : Prop} [Decidable c] {a b : γ} (q : c) : br c a b = a := if_pos q
theorem br_n {γ : Type} {c : Prop} [Decidable c] {a b : γ} (q : ¬ c) : br c a b = b := if_neg q
theorem gd_p {β : Type} {c : Prop} [Decidable c] {k : Option β} (q : c) : gd c k = k := if_pos q
theorem lb_e {α γ : Type} (e : α) (f : α → γ) : lb e f = f e := rfl
theorem bd_s {α β : Type} {e : Option (α × Hp)} {f : α → Hp → Option β} {r : α} {h : Hp} (q : e = some (r, h)) : bd e f = f r h := by rw [q]; rfl
theorem mt_s {α γ : Type} {o : Option α} {n : γ} {f : α → γ} {z : α} (q : o = some z) : mt o n f = f z := by rw [q]; rfl
theorem mt_n {α γ : Type} {o : Option α} {n : γ} {f : α → γ} (q : o = none) : mt o n f = n := by rw [q]; rfl
