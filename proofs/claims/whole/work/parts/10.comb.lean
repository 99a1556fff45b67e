/-! ===== the words that the printed functions are made of, and how a proof uses them ===== -/
def lb {α γ : Type} (e : α) (f : α → γ) : γ := f e
def br {γ : Type} (c : Prop) [Decidable c] (a b : γ) : γ := if c then a else b
def gd {β : Type} (c : Prop) [Decidable c] (k : Option β) : Option β := if c then k else none
def bd {α β : Type} (e : Option (α × Hp)) (f : α → Hp → Option β) : Option β := match e with
  | some q => f q.1 q.2
  | none => none
def mt {α γ : Type} (o : Option α) (n : γ) (f : α → γ) : γ := match o with
  | some z => f z
  | none => n
def ms {ρ τ γ : Type} (o : ρ ⊕ τ) (f : ρ → γ) (g : τ → γ) : γ := match o with
  | .inl z => f z
  | .inr z => g z
/-- the fuel of a loop -/
def FU : Nat := 100000
theorem lb_use {α γ : Type} {x e : α} (h : x = e) {f : α → γ} {z : γ} (hF : lb e f = z) : f x = z := by subst h; exact hF
theorem brT {γ : Type} {c : Prop} [Decidable c] {a b z : γ} (q : c) (hF : br c a b = z) : a = z := by rw [← hF]; exact (if_pos q).symm
theorem brF {γ : Type} {c : Prop} [Decidable c] {a b z : γ} (q : ¬ c) (hF : br c a b = z) : b = z := by rw [← hF]; exact (if_neg q).symm
theorem gd_use {β : Type} {c : Prop} [Decidable c] {k : Option β} {z : β} (hF : gd c k = some z) : c ∧ k = some z := by
  unfold gd at hF
  by_cases q : c
  · rw [if_pos q] at hF; exact ⟨q, hF⟩
  · rw [if_neg q] at hF; cases hF
theorem bd_use {α β : Type} {e : Option (α × Hp)} {f : α → Hp → Option β} {z : β} (hF : bd e f = some z) : ∃ r h, e = some (r, h) ∧ f r h = some z := by
  cases e with
  | none => cases hF
  | some q => exact ⟨q.1, q.2, rfl, hF⟩
theorem ret_use {α : Type} {a b : α} {h h1 : Hp} (hF : some (a, h) = some (b, h1)) : b = a ∧ h1 = h := by cases hF; exact ⟨rfl, rfl⟩
/-- behind a loop out of which the method may return -/
def lk {ρ τ : Type} (z : (ρ ⊕ τ) × Hp) (r : Option AV) (h1 : Hp) (av : ρ → Option AV) (P : τ → Hp → Prop) : Prop := match z.1 with
  | .inl v => r = av v ∧ h1 = z.2
  | .inr t => P t z.2
section Tops
variable {X : Cz} {M Mc : Mi} {b : Bool} {h0 : Hp} {pc : Nat} {ls ls' : List (Nat × AV)} {st st' stn : List AV} {h h' hm : Hp} {r rc : Option AV} {h1 : Hp}
theorem v_topi {x : Int32} (k : ∀ y, y = x → V X M b h0 pc ls (zi y :: st) h r h1) : V X M b h0 pc ls (zi x :: st) h r h1 := k x rfl
theorem v_topj {x : Int64} (k : ∀ y, y = x → V X M b h0 pc ls (zj y :: st) h r h1) : V X M b h0 pc ls (zj x :: st) h r h1 := k x rfl
theorem v_topq {k2 : Nat} {x : Option Nat} (k : ∀ y, y = x → V X M b h0 pc ls (zq k2 y :: st) h r h1) : V X M b h0 pc ls (zq k2 x :: st) h r h1 := k x rfl
theorem v_topr {k2 x : Nat} (k : ∀ y, y = x → V X M b h0 pc ls (zr k2 y :: st) h r h1) : V X M b h0 pc ls (zr k2 x :: st) h r h1 := k x rfl
theorem v_toph (k : ∀ y, y = h → V X M b h0 pc ls st y r h1) : V X M b h0 pc ls st h r h1 := k h rfl
theorem v_st (e : st = st') (k : V X M b h0 pc ls st' h r h1) : V X M b h0 pc ls st h r h1 := by rw [e]; exact k
theorem v_zastL {k n len : Nat} {i v : Int32} (hk : kd k = .inr (1, len)) (hi : ib i len) (hv : v = 0 ∨ v = 1) (hd : decode M.2.1 pc = .ok (.bastore, 1)) (kk : V X M b h0 (pc + 1) ls st (sI h k n (ix i) v) r h1) : V X M b h0 pc ls (zi v :: zi i :: zr k n :: st) h r h1 := by
  refine v_zast hk hi hd ?_
  rw [show v &&& 1 = v by rcases hv with rfl | rfl <;> decide]
  exact kk
theorem v_cV {k n c np idx : Nat} {av : List AV} {q : vw_C} (C : Ct X Mc b (zr k n :: av) h rc hm) (lc : Lc Mc np) (hl : Cond.methodLink M.1.cls idx Mc.1 ∈ tbz) (hin : Cond.instanceMethod Mc.1 ∈ tbz) (hse : Cond.selects Mc.1.cls Mc.1 Mc.1 ∈ tbz) (hk : kd k = .inl c) (hq : classes[c]? = some q) (hqc : q.1 = Mc.1.cls) (hn : av.length = np) (ft : Fits M Mc) (hst : stw st ≤ 8) (hd : decode M.2.1 pc = .ok (.invokevirtual idx, 3)) (hst' : av.reverse ++ zr k n :: st = st') (hsn : rc.toList ++ st = stn) (kk : V X M b h0 (pc + 3) ls stn hm r h1) : V X M b h0 pc ls st' h r h1 := v_callV C lc hl hin hse hk hq hqc hn ft hst hd hst' (hsn ▸ kk)
theorem v_cS {np idx : Nat} {av : List AV} (C : Ct X Mc b av h rc hm) (lc : Lc Mc np) (hl : Cond.methodLink M.1.cls idx Mc.1 ∈ tbz) (hin : Cond.static Mc.1 ∈ tbz) (hn : av.length = np) (ft : Fits M Mc) (hst : stw st ≤ 8) (hd : decode M.2.1 pc = .ok (.invokestatic idx, 3)) (hst' : av.reverse ++ st = st') (hsn : rc.toList ++ st = stn) (kk : V X M b h0 (pc + 3) ls stn hm r h1) : V X M b h0 pc ls st' h r h1 := v_callS C lc hl hin hn ft hst hd hst' (hsn ▸ kk)
theorem v_cSN {np idx : Nat} {av : List AV} {host : String} (C : Ct X Mc b av h rc hm) (lc : Lc Mc np) (hl : (M.1.cls, idx, Mc.1, host) ∈ nst) (hin : Cond.static Mc.1 ∈ tbz) (hn : av.length = np) (ft : Fits M Mc) (hst : stw st ≤ 8) (hd : decode M.2.1 pc = .ok (.invokestatic idx, 3)) (hst' : av.reverse ++ st = st') (hsn : rc.toList ++ st = stn) (kk : V X M b h0 (pc + 3) ls stn hm r h1) : V X M b h0 pc ls st' h r h1 := v_callSN C lc hl hin hn ft hst hd hst' (hsn ▸ kk)
theorem v_cI {k n np idx : Nat} {av : List AV} (C : Ct X Mc b (zr k n :: av) h rc hm) (lc : Lc Mc np) (hl : Cond.methodLink M.1.cls idx Mc.1 ∈ tbz) (hin : Cond.instanceMethod Mc.1 ∈ tbz) (hi : Mc.1.name = "<init>") (hrt : Mc.2.2.2.1 = none) (hn : av.length = np) (ft : Fits M Mc) (hst : stw st ≤ 8) (hd : decode M.2.1 pc = .ok (.invokespecial idx, 3)) (hst' : av.reverse ++ zr k n :: st = st') (hsn : rc.toList ++ st = stn) (kk : V X M b h0 (pc + 3) ls stn hm r h1) : V X M b h0 pc ls st' h r h1 := v_callI C lc hl hin hi hrt hn ft hst hd hst' (hsn ▸ kk)
theorem v_cIN {k n np idx : Nat} {av : List AV} {host : String} (C : Ct X Mc b (zr k n :: av) h rc hm) (lc : Lc Mc np) (hl : (M.1.cls, idx, Mc.1, host) ∈ nst) (hin : Cond.instanceMethod Mc.1 ∈ tbz) (hi : Mc.1.name = "<init>") (hrt : Mc.2.2.2.1 = none) (hn : av.length = np) (ft : Fits M Mc) (hst : stw st ≤ 8) (hd : decode M.2.1 pc = .ok (.invokespecial idx, 3)) (hst' : av.reverse ++ zr k n :: st = st') (hsn : rc.toList ++ st = stn) (kk : V X M b h0 (pc + 3) ls stn hm r h1) : V X M b h0 pc ls st' h r h1 := v_callIN C lc hl hin hi hrt hn ft hst hd hst' (hsn ▸ kk)
theorem lgc_lt (x y : Int64) : (lg_cmp x y < 0) ↔ x < y := by
  unfold lg_cmp
  by_cases q1 : x > y
  · rw [if_pos q1]
    refine iff_of_false (by decide) fun q => ?_
    have a := Int64.lt_iff_toInt_lt.mp q
    have b := Int64.lt_iff_toInt_lt.mp q1
    omega
  · rw [if_neg q1]
    by_cases q2 : x = y
    · rw [if_pos q2]
      refine iff_of_false (by decide) fun q => ?_
      have a := Int64.lt_iff_toInt_lt.mp q
      rw [q2] at a
      omega
    · rw [if_neg q2]
      refine iff_of_true (by decide) (Int64.lt_iff_toInt_lt.mpr ?_)
      have a : ¬ y.toInt < x.toInt := fun z => q1 (Int64.lt_iff_toInt_lt.mpr z)
      have b : ¬ x.toInt = y.toInt := fun z => q2 (Int64.toInt_inj.mp z)
      omega
theorem lgc_gt (x y : Int64) : (0 < lg_cmp x y) ↔ y < x := by
  unfold lg_cmp
  by_cases q1 : x > y
  · rw [if_pos q1]
    exact iff_of_true (by decide) q1
  · rw [if_neg q1]
    by_cases q2 : x = y
    · rw [if_pos q2]
      exact iff_of_false (by decide) q1
    · rw [if_neg q2]
      exact iff_of_false (by decide) q1
theorem lgc_eq (x y : Int64) : (lg_cmp x y = 0) ↔ x = y := by
  unfold lg_cmp
  by_cases q1 : x > y
  · rw [if_pos q1]
    refine iff_of_false (by decide) fun q => ?_
    have b := Int64.lt_iff_toInt_lt.mp q1
    rw [q] at b
    omega
  · rw [if_neg q1]
    by_cases q2 : x = y
    · rw [if_pos q2]
      exact iff_of_true rfl q2
    · rw [if_neg q2]
      exact iff_of_false (by decide) q2
theorem lgc_ge (x y : Int64) : (0 ≤ lg_cmp x y) ↔ y ≤ x := lg_cmp_ge x y
theorem lgc_le (x y : Int64) : (lg_cmp x y ≤ 0) ↔ x ≤ y := by
  have h1 := lgc_gt x y
  constructor
  · intro q
    refine Int64.le_iff_toInt_le.mpr (Int.not_lt.mp fun z => ?_)
    have := h1.mpr (Int64.lt_iff_toInt_lt.mpr z)
    have a := Int32.lt_iff_toInt_lt.mp this
    have b := Int32.le_iff_toInt_le.mp q
    simp at a b
    omega
  · intro q
    refine Int32.le_iff_toInt_le.mpr (Int.not_lt.mp fun z => ?_)
    have := h1.mp (Int32.lt_iff_toInt_lt.mpr z)
    have a := Int64.lt_iff_toInt_lt.mp this
    have b := Int64.le_iff_toInt_le.mp q
    omega
theorem v_lif_eq {x y : Int64} {off : Int} {tgt : Nat} (d1 : decode M.2.1 pc = .ok (.lcmp, 1)) (hd : decode M.2.1 (pc + 1) = .ok (.ifCond .eq off, 3)) (ht : ((pc + 1 : Nat) : Int) + off = (tgt : Int)) (kt : x = y → V X M b h0 tgt ls st h r h1) (kf : ¬ x = y → V X M b h0 (pc + 1 + 3) ls st h r h1) : V X M b h0 pc ls (zj y :: zj x :: st) h r h1 := v_lcmp d1 (v_if_eq hd ht (fun q => kt ((lgc_eq x y).mp q)) (fun q => kf fun z => q ((lgc_eq x y).mpr z)))
theorem v_lif_ne {x y : Int64} {off : Int} {tgt : Nat} (d1 : decode M.2.1 pc = .ok (.lcmp, 1)) (hd : decode M.2.1 (pc + 1) = .ok (.ifCond .ne off, 3)) (ht : ((pc + 1 : Nat) : Int) + off = (tgt : Int)) (kt : ¬ x = y → V X M b h0 tgt ls st h r h1) (kf : ¬ ¬ x = y → V X M b h0 (pc + 1 + 3) ls st h r h1) : V X M b h0 pc ls (zj y :: zj x :: st) h r h1 := v_lcmp d1 (v_if_ne hd ht (fun q => kt fun z => q ((lgc_eq x y).mpr z)) (fun q => kf fun z => q fun w => z ((lgc_eq x y).mp w)))
theorem v_lif_lt {x y : Int64} {off : Int} {tgt : Nat} (d1 : decode M.2.1 pc = .ok (.lcmp, 1)) (hd : decode M.2.1 (pc + 1) = .ok (.ifCond .lt off, 3)) (ht : ((pc + 1 : Nat) : Int) + off = (tgt : Int)) (kt : x < y → V X M b h0 tgt ls st h r h1) (kf : ¬ x < y → V X M b h0 (pc + 1 + 3) ls st h r h1) : V X M b h0 pc ls (zj y :: zj x :: st) h r h1 := v_lcmp d1 (v_if_lt hd ht (fun q => kt ((lgc_lt x y).mp q)) (fun q => kf fun z => q ((lgc_lt x y).mpr z)))
theorem v_lif_gt {x y : Int64} {off : Int} {tgt : Nat} (d1 : decode M.2.1 pc = .ok (.lcmp, 1)) (hd : decode M.2.1 (pc + 1) = .ok (.ifCond .gt off, 3)) (ht : ((pc + 1 : Nat) : Int) + off = (tgt : Int)) (kt : y < x → V X M b h0 tgt ls st h r h1) (kf : ¬ y < x → V X M b h0 (pc + 1 + 3) ls st h r h1) : V X M b h0 pc ls (zj y :: zj x :: st) h r h1 := v_lcmp d1 (v_if_gt hd ht (fun q => kt ((lgc_gt x y).mp q)) (fun q => kf fun z => q ((lgc_gt x y).mpr z)))
theorem v_lif_ge {x y : Int64} {off : Int} {tgt : Nat} (d1 : decode M.2.1 pc = .ok (.lcmp, 1)) (hd : decode M.2.1 (pc + 1) = .ok (.ifCond .ge off, 3)) (ht : ((pc + 1 : Nat) : Int) + off = (tgt : Int)) (kt : y ≤ x → V X M b h0 tgt ls st h r h1) (kf : ¬ y ≤ x → V X M b h0 (pc + 1 + 3) ls st h r h1) : V X M b h0 pc ls (zj y :: zj x :: st) h r h1 := v_lcmp d1 (v_if_ge hd ht (fun q => kt ((lgc_ge x y).mp q)) (fun q => kf fun z => q ((lgc_ge x y).mpr z)))
theorem v_lif_le {x y : Int64} {off : Int} {tgt : Nat} (d1 : decode M.2.1 pc = .ok (.lcmp, 1)) (hd : decode M.2.1 (pc + 1) = .ok (.ifCond .le off, 3)) (ht : ((pc + 1 : Nat) : Int) + off = (tgt : Int)) (kt : x ≤ y → V X M b h0 tgt ls st h r h1) (kf : ¬ x ≤ y → V X M b h0 (pc + 1 + 3) ls st h r h1) : V X M b h0 pc ls (zj y :: zj x :: st) h r h1 := v_lcmp d1 (v_if_le hd ht (fun q => kt ((lgc_le x y).mp q)) (fun q => kf fun z => q ((lgc_le x y).mpr z)))
end Tops
