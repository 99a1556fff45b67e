/-! ===== level 2: rights: class cells of a heap c against model cells of a heap m ===== -/
def nR (m : Hp) : Nat := ix (gI m 12 0 9)
def R1 (H : Nat) (y : Int) (B : Nat) (u : Nat → Nat) (c m : Hp) (r : Nat) : Prop :=
  gR c 32 0 r = some r ∧ gI c 5 r 0 = gI m 70 0 r ∧ gI c 5 r 1 = gI m 71 0 r ∧ gI c 5 r 2 = gI m 72 0 r ∧ gI c 5 r 3 = gI m 73 0 r ∧ gI c 5 r 4 = gI m 74 0 r ∧ gI c 5 r 5 = gI m 75 0 r ∧ gI c 5 r 6 = gI m 76 0 r ∧ gI c 5 r 7 = gI m 77 0 r ∧ gI c 5 r 8 = gI m 80 0 r ∧ gI c 5 r 9 = gI m 81 0 r ∧ (gI c 5 r 10).toInt64 = gJ m 82 0 r ∧ gI c 5 r 11 = gI m 78 0 r ∧ ((gI c 5 r 12 = 200 ∧ gI m 79 0 r = -1 ∧ gI m 77 0 r = gI m 78 0 r) ∨ (gI c 5 r 12 = gI m 79 0 r ∧ gI m 79 0 r ≠ -1 ∧ (gI m 77 0 r).toInt < y)) ∧ (0 ≤ (gI m 70 0 r).toInt ∧ (gI m 70 0 r).toInt ≤ 3) ∧ (gI m 81 0 r = 0 ∨ gI m 81 0 r = 1) ∧ (gI m 70 0 r = 1 → 0 ≤ (gI m 71 0 r).toInt ∧ (gI m 71 0 r).toInt < 8) ∧ (gI m 70 0 r ≠ 1 → 0 ≤ (gI m 71 0 r).toInt ∧ (gI m 71 0 r).toInt < H) ∧ (∃ b f n, gI m 72 0 r = nZ b ∧ gI m 73 0 r = nZ f ∧ gI m 74 0 r = nZ n ∧ b < B ∧ 1 ≤ n ∧ f + n ≤ u b) ∧ (gI m 76 0 r = gI m 75 0 r ∨ ((gI m 75 0 r).toInt ≤ (gI m 76 0 r).toInt ∧ (gI m 76 0 r).toInt ≤ y))
def RR (H : Nat) (y : Int) (B : Nat) (u : Nat → Nat) (c m : Hp) : Prop := gI m 12 0 9 = nZ (nR m) ∧ gI c 3 0 1 = nZ (nR m) ∧ nR m ≤ 100 ∧ gN c 5 = nR m ∧ ∀ r, r < nR m → R1 H y B u c m r
theorem RR_mono {H H' : Nat} {y y' : Int} {B B' : Nat} {u u' : Nat → Nat} {c m : Hp} (R : RR H y B u c m) (h1 : H ≤ H') (h2 : y ≤ y') (h3 : B ≤ B') (h4 : ∀ b, b < B → u' b = u b) : RR H' y' B' u' c m := by
  obtain ⟨r1, r2, r3, r4, r5⟩ := R
  refine ⟨r1, r2, r3, r4, fun r hr => ?_⟩
  obtain ⟨a1, a2, a3, a4, a5, a6, a7, a8, a9, a10, a11, a12, a13, a14, a15, a16, a17, a18, a19, a20⟩ := r5 r hr
  refine ⟨a1, a2, a3, a4, a5, a6, a7, a8, a9, a10, a11, a12, a13, ?_, a15, a16, a17, fun z => ?_, ?_, ?_⟩
  · rcases a14 with z | z
    · exact Or.inl z
    · exact Or.inr ⟨z.1, z.2.1, by omega⟩
  · have := a18 z
    omega
  · obtain ⟨b, f, n, e1, e2, e3, e4, e5, e6⟩ := a19
    exact ⟨b, f, n, e1, e2, e3, by omega, e5, by rw [h4 b e4]; exact e6⟩
  · rcases a20 with z | z
    · exact Or.inl z
    · exact Or.inr ⟨z.1, by omega⟩
def fRRc : List Nat := [4001, 505, 32, 6000, 6001, 6002, 6003, 6004, 6005, 6006, 6007, 6008, 6009, 6010, 6011, 6012]
def fRRm : List Nat := [13009, 70, 71, 72, 73, 74, 75, 76, 77, 78, 79, 80, 81, 82]
theorem RR_c {H : Nat} {y : Int} {B : Nat} {u : Nat → Nat} {c c' m : Hp} (e : Sm fRRc c c') (R : RR H y B u c m) : RR H y B u c' m := by
  unfold RR R1 at R ⊢
  simp (disch := decide) only [e.AR, e.I, e.N]
  exact R
theorem RR_m {H : Nat} {y : Int} {B : Nat} {u : Nat → Nat} {c m m' : Hp} (e : Sm fRRm m m') (R : RR H y B u c m) : RR H y B u c m' := by
  unfold RR R1 nR at R ⊢
  simp (disch := decide) only [e.A, e.AJ, e.I]
  exact R
theorem nR_sm {m m' : Hp} (e : Sm fRRm m m') : nR m' = nR m := by unfold nR; rw [e.I 12 0 9 (by decide)]
/-- the class's cells behind a new right of number N -/
def wNC : List Nat := [505, 999, 32, 4001, 6000, 6001, 6002, 6003, 6004, 6005, 6006, 6007, 6008, 6009, 6010, 6011, 6012]
def NewC (N : Nat) (c c' : Hp) (k who b f n si fi un kn he pr : Int32) : Prop := Fr wNC c c' ∧ gI c' 3 0 1 = nZ (N + 1) ∧ gN c' 5 = N + 1 ∧ (∀ i, gR c' 32 0 i = if i = N then some N else gR c 32 0 i) ∧ (∀ r j, r ≠ N → gI c' 5 r j = gI c 5 r j) ∧ (gI c' 5 N 0 = k ∧ gI c' 5 N 1 = who ∧ gI c' 5 N 2 = b ∧ gI c' 5 N 3 = f ∧ gI c' 5 N 4 = n ∧ gI c' 5 N 5 = si ∧ gI c' 5 N 6 = fi ∧ gI c' 5 N 7 = un ∧ gI c' 5 N 8 = kn ∧ gI c' 5 N 9 = he ∧ gI c' 5 N 10 = pr ∧ gI c' 5 N 11 = un ∧ gI c' 5 N 12 = 200) ∧ gC c' = gC c + 1 ∧ gS c' = gS c + 13
def wNM : List Nat := [13009, 70, 71, 72, 73, 74, 75, 76, 77, 78, 79, 80, 81, 82]
def NewM (N : Nat) (m m' : Hp) (k who b f n si fi un kn he : Int32) (pr : Int64) : Prop := Fr wNM m m' ∧ gI m' 12 0 9 = nZ (N + 1) ∧ (∀ i, gI m' 70 0 i = if i = N then k else gI m 70 0 i) ∧ (∀ i, gI m' 71 0 i = if i = N then who else gI m 71 0 i) ∧ (∀ i, gI m' 72 0 i = if i = N then b else gI m 72 0 i) ∧ (∀ i, gI m' 73 0 i = if i = N then f else gI m 73 0 i) ∧ (∀ i, gI m' 74 0 i = if i = N then n else gI m 74 0 i) ∧ (∀ i, gI m' 75 0 i = if i = N then si else gI m 75 0 i) ∧ (∀ i, gI m' 76 0 i = if i = N then fi else gI m 76 0 i) ∧ (∀ i, gI m' 77 0 i = if i = N then un else gI m 77 0 i) ∧ (∀ i, gI m' 78 0 i = if i = N then un else gI m 78 0 i) ∧ (∀ i, gI m' 79 0 i = if i = N then -1 else gI m 79 0 i) ∧ (∀ i, gI m' 80 0 i = if i = N then kn else gI m 80 0 i) ∧ (∀ i, gI m' 81 0 i = if i = N then he else gI m 81 0 i) ∧ (∀ i, gJ m' 82 0 i = if i = N then pr else gJ m 82 0 i)
theorem RR_new {H : Nat} {y : Int} {B : Nat} {u : Nat → Nat} {c c' m m' : Hp} {k who b f n si fi un kn he pr : Int32} {prJ : Int64} (R : RR H y B u c m) (hN : nR m < 100) (C : NewC (nR m) c c' k who b f n si fi un kn he pr) (M : NewM (nR m) m m' k who b f n si fi un kn he prJ) (hp : pr.toInt64 = prJ) (hk : 0 ≤ k.toInt ∧ k.toInt ≤ 3) (hh : he = 0 ∨ he = 1) (hw1 : k = 1 → 0 ≤ who.toInt ∧ who.toInt < 8) (hw2 : k ≠ 1 → 0 ≤ who.toInt ∧ who.toInt < H) (hrun : ∃ b' f' n', b = nZ b' ∧ f = nZ f' ∧ n = nZ n' ∧ b' < B ∧ 1 ≤ n' ∧ f' + n' ≤ u b') (hfi : fi = si ∨ (si.toInt ≤ fi.toInt ∧ fi.toInt ≤ y)) : RR H y B u c' m' ∧ nR m' = nR m + 1 := by
  obtain ⟨r1, r2, r3, r4, r5⟩ := R
  obtain ⟨c1, c2, c3, c4, c5, ⟨d0, d1, d2, d3, d4, d5, d6, d7, d8, d9, d10, d11, d12⟩, -⟩ := C
  obtain ⟨m0, m9, m70, m71, m72, m73, m74, m75, m76, m77, m78, m79, m80, m81, m82⟩ := M
  have e9 : nR m' = nR m + 1 := by
    have : nR m' = ix (gI m' 12 0 9) := rfl
    rw [this, m9, nZ_ix (by omega)]
  refine ⟨⟨by rw [e9]; exact m9, by rw [e9]; exact c2, by omega, by rw [e9]; exact c3, fun r hr => ?_⟩, e9⟩
  rw [e9] at hr
  unfold R1
  simp only [c4, m70, m71, m72, m73, m74, m75, m76, m77, m78, m79, m80, m81, m82]
  by_cases z : r = nR m
  · subst z
    simp only [if_true]
    rw [d0, d1, d2, d3, d4, d5, d6, d7, d8, d9, d10, d11, d12]
    exact ⟨by trivial, rfl, rfl, rfl, rfl, rfl, rfl, rfl, rfl, rfl, rfl, hp, rfl, Or.inl (by simp), hk, hh, hw1, hw2, hrun, hfi⟩
  · simp only [if_neg z, c5 r _ z]
    exact r5 r (by omega)
theorem adds_t {N : Nat} {m : Hp} (hN : N < 100) (e9 : gI m 12 0 9 = nZ N) (a1 a2 a3 a4 a5 a6 a7 a8 a9 : Int32) (a10 : Int64) (h9 : a9 = 0 ∨ a9 = 1) : ∃ m', fX12_adds a1 a2 a3 a4 a5 a6 a7 a8 a9 a10 m = some (nZ N, m') ∧ NewM N m m' a1 a2 a3 a4 a5 a6 a7 a8 (gI m 12 0 5) a9 a10 := by
  have hib : ib (nZ N) 100 := by rw [nZ_ib (by omega)]; omega
  obtain ⟨m', em⟩ : ∃ y, y = sI (sJ (sI (sI (sI (sI (sI (sI (sI (sI (sI (sI (sI (sI m 70 0 N a1) 71 0 N a2) 72 0 N a3) 73 0 N a4) 74 0 N a5) 75 0 N a6) 76 0 N a7) 77 0 N a8) 78 0 N a8) 79 0 N (-1)) 80 0 N (gI m 12 0 5)) 81 0 N a9) 82 0 N a10) 12 0 9 (nZ (N + 1)) := ⟨_, rfl⟩
  refine ⟨m', ?_, ?_, ?_⟩
  · unfold fX12_adds
    simp (disch := decide) only [lb_e, gI_o, gI_q, gI_sJ, e9, and1 h9]
    simp only [gd_p hib, nZ_suc, nZ_ix (by omega : N < 2147483648), ← em, nZ_pre (by omega : 1 ≤ N + 1) (by omega : N + 1 < 2147483648)]
    rfl
  · rw [em]
    exact (((((((((((((Fr_I _ _ _ _ _ rfl).tr (Fr_I _ _ _ _ _ rfl)).tr (Fr_I _ _ _ _ _ rfl)).tr (Fr_I _ _ _ _ _ rfl)).tr (Fr_I _ _ _ _ _ rfl)).tr (Fr_I _ _ _ _ _ rfl)).tr (Fr_I _ _ _ _ _ rfl)).tr (Fr_I _ _ _ _ _ rfl)).tr (Fr_I _ _ _ _ _ rfl)).tr (Fr_I _ _ _ _ _ rfl)).tr (Fr_I _ _ _ _ _ rfl)).tr (Fr_I _ _ _ _ _ rfl)).tr (Fr_J _ _ _ _ _ rfl)).tr (Fr_I _ _ _ _ _ rfl)
  · rw [em]
    simp (disch := decide) only [gI_o, gI_q, gI_sJ, gI_a, gJ_sI, gJ_a, implies_true, and_self]
/-- years -/
def yr (h : Hp) : Nat := ix (gI h 12 0 5)
theorem Ry.e {h : Hp} (Y : Ry h) : gI h 12 0 5 = nZ (yr h) ∧ gI h 11 0 11 = nZ (yr h) ∧ yr h ≤ 199 := by
  obtain ⟨y1, y2, y3⟩ := Y
  have e : gI h 12 0 5 = nZ (yr h) := nZ_of y2
  exact ⟨e, y1 ▸ e, by unfold yr ix; omega⟩
theorem n199 : (199 : Int32).toInt = 199 := by decide
theorem n199J : (199 : Int64).toInt = 199 := by decide
theorem year11 (a : Int32) (h : Hp) : (fX11_isYear a h = 0) ↔ ¬ (0 ≤ a.toInt ∧ a.toInt ≤ 199) := by
  unfold fX11_isYear
  rw [isWithin_0, z0, n199]
theorem n7J : (7 : Int64).toInt = 7 := by decide
theorem plot3 (a : Int32) (h : Hp) : (fX3_isPlot a h = 0) ↔ ¬ (0 ≤ a.toInt ∧ a.toInt ≤ 7) := by
  unfold fX3_isPlot
  rw [br_or, br01, i32_lt, i32_le, z0, n8]
  omega
theorem enter_t {N z : Nat} {c : Hp} (hN : N < 100) (e1 : gI c 3 0 1 = nZ N) : fX3_enter z c = some (nZ N, sI (sR c 32 0 N (some z)) 3 0 1 (nZ (N + 1))) := by
  unfold fX3_enter
  simp only [lb_e, gI_sR, e1, gI_q, nZ_suc]
  rw [br_p (by show nZ N < nZ 100; rw [nZ_lt (by omega) (by omega)]; omega), gd_p (by rw [nZ_ib (by omega)]; omega), nZ_ix (by omega), nZ_pre (by omega) (by omega)]
  rfl
/-- a right that the class makes: new, its first fields, its years, the rest that f sets, and entered -/
theorem newC_t {N : Nat} {c c' : Hp} (hN : N < 100) (e1 : gI c 3 0 1 = nZ N) (eN : gN c 5 = N) (k who b f n si fi un kn he pr : Int32) (ec : c' = sI (sR (sI (sI (sI (sI (sI (sI (sI (sI (sI (sI (sI (sI (sI (nw c 5 13) 5 N 12 200) 5 N 0 k) 5 N 1 who) 5 N 2 b) 5 N 3 f) 5 N 4 n) 5 N 5 si) 5 N 6 fi) 5 N 7 un) 5 N 11 un) 5 N 8 kn) 5 N 9 he) 5 N 10 pr) 32 0 N (some N)) 3 0 1 (nZ (N + 1))) : NewC N c c' k who b f n si fi un kn he pr := by
  refine ⟨?_, ?_, ?_, fun i => ?_, fun r j hr => ?_, ?_, ?_, ?_⟩
  · rw [ec]
    exact ((((((((((((((((Fr_nw _ _ _ rfl).tr (Fr_I _ _ _ _ _ rfl)).tr (Fr_I _ _ _ _ _ rfl)).tr (Fr_I _ _ _ _ _ rfl)).tr (Fr_I _ _ _ _ _ rfl)).tr (Fr_I _ _ _ _ _ rfl)).tr (Fr_I _ _ _ _ _ rfl)).tr (Fr_I _ _ _ _ _ rfl)).tr (Fr_I _ _ _ _ _ rfl)).tr (Fr_I _ _ _ _ _ rfl)).tr (Fr_I _ _ _ _ _ rfl)).tr (Fr_I _ _ _ _ _ rfl)).tr (Fr_I _ _ _ _ _ rfl)).tr (Fr_I _ _ _ _ _ rfl)).tr (Fr_R _ _ _ _ _ rfl)).tr (Fr_I _ _ _ _ _ rfl))
  · rw [ec, gI_q]
  · rw [ec]
    simp only [gN_sI, gN_sR, gN_nw, if_true, eN]
  · rw [ec]
    simp only [gR_sI, gR_a]
    rw [gR_nwo (by decide)]
  · rw [ec, gI_o (by decide), gI_sR]
    simp only [gI_r hr]
    rw [gI_nw, if_neg fun z => hr (by rw [eN] at z; exact z.2)]
  · rw [ec]
    simp (disch := decide) only [gI_o, gI_p, gI_q, gI_sR, and_self]
  · rw [ec]
    rfl
  · rw [ec]
    rfl
