/-! ===== the whole out of level 2 ===== -/
def h00 : Hp := (fun _ _ _ => 0, fun _ _ _ => 0, fun _ _ _ => none, fun _ => 0, 0, 0)
/-- what level 2 owes: a relation that holds behind the two constructors and that every call of the script keeps, both answering alike -/
def L2 : Prop := ∃ (R : Hp → Prop) (hA hB : Hp), fX11_init 0 (nw h00 11 15) = some ((), hA) ∧ gN hA 12 = 0 ∧ (gC hA + 1 ≤ 600000 ∧ gS hA + 79 ≤ 7302249) ∧ fX12_init 0 (nw hA 12 79) = some ((), hB) ∧ Ly hB ∧ R hB ∧ (∀ h, R h → gC h ≤ 600000 ∧ gS h ≤ 7302249) ∧ ∀ (s : Nat → Int32) (h : Hp), R h → ∃ h3, StpZ s h h3 ∧ R h3
theorem AO8 : Cond.arrayOver (.object RX8) ∈ tables_1 := tk2 (List.mem_of_getElem? (i := 49) rfl)
theorem AO5 : Cond.arrayOver (.object RX5) ∈ tables_1 := tk1 (List.mem_of_getElem? (i := 109) rfl)
theorem AO2 : Cond.arrayOver (.object RX2) ∈ tables_1 := tk1 (List.mem_of_getElem? (i := 93) rfl)
theorem nst_in : ∀ w ∈ nst, Cond.methodLinkNest w.1 w.2.1 w.2.2.1 w.2.2.2 ∈ tables_1 := List.forall_mem_cons.mpr ⟨tk1 (List.mem_of_getElem? (i := 28) rfl), List.forall_mem_cons.mpr ⟨tk1 (List.mem_of_getElem? (i := 88) rfl), List.forall_mem_cons.mpr ⟨tk1 (List.mem_of_getElem? (i := 161) rfl), List.forall_mem_cons.mpr ⟨tk3 (List.mem_of_getElem? (i := 121) rfl), fun _ h => absurd h List.not_mem_nil⟩⟩⟩⟩
theorem cz0_i : Cond.instantiable RX0 13 ∈ tbz := by
  obtain ⟨q, ty, hq, hnf, -, -, -, -, hi, -⟩ := cz0
  cases hq
  exact hi
theorem cz1_i : Cond.instantiable RX1 14 ∈ tbz := by
  obtain ⟨q, ty, hq, hnf, -, -, -, -, hi, -⟩ := cz1
  cases hq
  exact hi
theorem cz2_i : Cond.instantiable RX2 5 ∈ tbz := by
  obtain ⟨q, ty, hq, hnf, -, -, -, -, hi, -⟩ := cz2
  cases hq
  exact hi
theorem cz3_i : Cond.instantiable RX3 5 ∈ tbz := by
  obtain ⟨q, ty, hq, hnf, -, -, -, -, hi, -⟩ := cz3
  cases hq
  exact hi
theorem cz4_i : Cond.instantiable RX4 2 ∈ tbz := by
  obtain ⟨q, ty, hq, hnf, -, -, -, -, hi, -⟩ := cz4
  cases hq
  exact hi
theorem cz5_i : Cond.instantiable RX5 13 ∈ tbz := by
  obtain ⟨q, ty, hq, hnf, -, -, -, -, hi, -⟩ := cz5
  cases hq
  exact hi
theorem cz6_i : Cond.instantiable RX6 4 ∈ tbz := by
  obtain ⟨q, ty, hq, hnf, -, -, -, -, hi, -⟩ := cz6
  cases hq
  exact hi
theorem cz7_i : Cond.instantiable RX7 3 ∈ tbz := by
  obtain ⟨q, ty, hq, hnf, -, -, -, -, hi, -⟩ := cz7
  cases hq
  exact hi
theorem cz8_i : Cond.instantiable RX8 5 ∈ tbz := by
  obtain ⟨q, ty, hq, hnf, -, -, -, -, hi, -⟩ := cz8
  cases hq
  exact hi
theorem cz9_i : Cond.instantiable RX9 9 ∈ tbz := by
  obtain ⟨q, ty, hq, hnf, -, -, -, -, hi, -⟩ := cz9
  cases hq
  exact hi
theorem cz10_i : Cond.instantiable RX10 7 ∈ tbz := by
  obtain ⟨q, ty, hq, hnf, -, -, -, -, hi, -⟩ := cz10
  cases hq
  exact hi
theorem cz11_i : Cond.instantiable RX11 15 ∈ tbz := by
  obtain ⟨q, ty, hq, hnf, -, -, -, -, hi, -⟩ := cz11
  cases hq
  exact hi
theorem cz12_i : Cond.instantiable RX12 79 ∈ tbz := by
  obtain ⟨q, ty, hq, hnf, -, -, -, -, hi, -⟩ := cz12
  cases hq
  exact hi
theorem ar_p {s : State} {args : Array Value} {ty : FieldType} (hty : (∃ C, ty = .object C) → False) (h : (Cond.arrayClass ty).before args s = true) : ∃ cA, ArrOfT s cA ty ∧ va_RA s cA ty := by
  obtain ⟨cA, kA, comp, h1, h2, h3⟩ := Cond.arrayClass_spec h
  refine ⟨cA, fun n z => ⟨fun k h => (by cases h), kA, h2, comp, h3⟩, ?_⟩
  cases ty <;> first | exact h1 | exact absurd ⟨_, rfl⟩ (fun z => hty z)
theorem ar_o {s : State} {args : Array Value} {C : String} (h : (Cond.arrayOver (.object C)).before args s = true) : ∃ cA, ArrOfT s cA (.object C) ∧ va_RA s cA (.object C) := by
  obtain ⟨comp, cA, k, h1, h2, h3, h4, h5⟩ := Cond.arrayOver_spec h
  exact ⟨cA, fun n z => ⟨fun k h => (by cases h), k, h3, comp, h4⟩, k, comp, h3, h4, h1, h5⟩
set_option maxHeartbeats 4000000 in
set_option maxRecDepth 100000 in
theorem whole_start_of (HL2 : L2) {p : Program} {e : Env} {s : State} {m : MethodId} {below : List Frame} {meth : Method} {c : Code} (l : Launch) {b L : Nat} {xs : Nat → Int32} (hL : L ≤ 4608) (C0 : lw_At p s m meth c b L xs) : W p l e room_1 s m #[Value.ref b] below meth c s.heap [] 0 0 (lw_Z below #[Value.ref b] s) (entryFrame m ([Value.ref b] : List Value).toArray 4) := by
  obtain ⟨hx, hb, hr, hml, hown, hts, hX, hbl, hlocks, hgv⟩ := id C0
  obtain ⟨c0, iS0, hKn0⟩ := u_known (C := RX0) (T := TX0) (N := 13) (n := 13) (tbz_lw hts) uw0 (tbz_lw hts _ cz0_i)
  obtain ⟨c1, iS1, hKn1⟩ := u_known (C := RX1) (T := TX1) (N := 14) (n := 14) (tbz_lw hts) uw1 (tbz_lw hts _ cz1_i)
  obtain ⟨c2, iS2, hKn2⟩ := u_known (C := RX2) (T := TX2) (N := 5) (n := 5) (tbz_lw hts) uw2 (tbz_lw hts _ cz2_i)
  obtain ⟨c3, iS3, hKn3⟩ := u_known (C := RX3) (T := TX3) (N := 5) (n := 5) (tbz_lw hts) uw3 (tbz_lw hts _ cz3_i)
  obtain ⟨c4, iS4, hKn4⟩ := u_known (C := RX4) (T := TX4) (N := 2) (n := 2) (tbz_lw hts) uw4 (tbz_lw hts _ cz4_i)
  obtain ⟨c5, iS5, hKn5⟩ := u_known (C := RX5) (T := TX5) (N := 13) (n := 13) (tbz_lw hts) uw5 (tbz_lw hts _ cz5_i)
  obtain ⟨c6, iS6, hKn6⟩ := u_known (C := RX6) (T := TX6) (N := 4) (n := 4) (tbz_lw hts) uw6 (tbz_lw hts _ cz6_i)
  obtain ⟨c7, iS7, hKn7⟩ := u_known (C := RX7) (T := TX7) (N := 3) (n := 3) (tbz_lw hts) uw7 (tbz_lw hts _ cz7_i)
  obtain ⟨c8, iS8, hKn8⟩ := u_known (C := RX8) (T := TX8) (N := 5) (n := 5) (tbz_lw hts) uw8 (tbz_lw hts _ cz8_i)
  obtain ⟨c9, iS9, hKn9⟩ := u_known (C := RX9) (T := TX9) (N := 9) (n := 9) (tbz_lw hts) uw9 (tbz_lw hts _ cz9_i)
  obtain ⟨c10, iS10, hKn10⟩ := u_known (C := RX10) (T := TX10) (N := 7) (n := 7) (tbz_lw hts) uw10 (tbz_lw hts _ cz10_i)
  obtain ⟨c11, iS11, hKn11⟩ := u_known (C := RX11) (T := TX11) (N := 15) (n := 15) (tbz_lw hts) uw11 (tbz_lw hts _ cz11_i)
  obtain ⟨c12, iS12, hKn12⟩ := u_known (C := RX12) (T := TX12) (N := 79) (n := 79) (tbz_lw hts) uw12 (tbz_lw hts _ cz12_i)
  obtain ⟨dC, dI, hKc⟩ : ∃ (dC : Nat → ClassId) (dI : Nat → Nat → Nat), ∀ (k : Nat) (q : vw_C), classes[k]? = some q → u_Kn s q.1 q.2.1 q.2.2 (dC k) (dI k) := by
    refine ⟨fun k => if k = 0 then c0 else if k = 1 then c1 else if k = 2 then c2 else if k = 3 then c3 else if k = 4 then c4 else if k = 5 then c5 else if k = 6 then c6 else if k = 7 then c7 else if k = 8 then c8 else if k = 9 then c9 else if k = 10 then c10 else if k = 11 then c11 else c12, fun k => if k = 0 then iS0 else if k = 1 then iS1 else if k = 2 then iS2 else if k = 3 then iS3 else if k = 4 then iS4 else if k = 5 then iS5 else if k = 6 then iS6 else if k = 7 then iS7 else if k = 8 then iS8 else if k = 9 then iS9 else if k = 10 then iS10 else if k = 11 then iS11 else iS12, ?_⟩
    intro k q hq
    match k, hq with
    | 0, hq => cases hq; exact hKn0
    | 1, hq => cases hq; exact hKn1
    | 2, hq => cases hq; exact hKn2
    | 3, hq => cases hq; exact hKn3
    | 4, hq => cases hq; exact hKn4
    | 5, hq => cases hq; exact hKn5
    | 6, hq => cases hq; exact hKn6
    | 7, hq => cases hq; exact hKn7
    | 8, hq => cases hq; exact hKn8
    | 9, hq => cases hq; exact hKn9
    | 10, hq => cases hq; exact hKn10
    | 11, hq => cases hq; exact hKn11
    | 12, hq => cases hq; exact hKn12
    | k + 13, hq => simp [classes] at hq
  obtain ⟨a0, hA0⟩ := ar_p (fun ⟨_, z⟩ => by cases z) (tbz_lw hts _ ac_int)
  obtain ⟨a1, hA1⟩ := ar_p (fun ⟨_, z⟩ => by cases z) (tbz_lw hts _ ac_boolean)
  obtain ⟨a2, hA2⟩ := ar_p (fun ⟨_, z⟩ => by cases z) (tbz_lw hts _ ac_long)
  have w3 : (Cond.arrayOver (.object RX8)).before #[Value.ref b] s = true := hts _ (List.mem_append_right _ AO8)
  have w4 : (Cond.arrayOver (.object RX5)).before #[Value.ref b] s = true := hts _ (List.mem_append_right _ AO5)
  have w5 : (Cond.arrayOver (.object RX2)).before #[Value.ref b] s = true := hts _ (List.mem_append_right _ AO2)
  obtain ⟨a3, hA3⟩ := ar_o w3
  obtain ⟨a4, hA4⟩ := ar_o w4
  obtain ⟨a5, hA5⟩ := ar_o w5
  obtain ⟨X, eX⟩ : ∃ X : Cz, X = (s.heap.size, dC, dI, fun t => if t = 0 then a0 else if t = 1 then a1 else if t = 2 then a2 else if t = 3 then a3 else if t = 4 then a4 else a5) := ⟨_, rfl⟩
  have hK : Kz X s := by
    subst eX
    refine ⟨⟨hKc, fun k q hk => ?_⟩, fun w hw => ?_, w3, w4, w5⟩
    · match k, hk with
      | 0, hk => cases hk; exact hA0
      | 1, hk => cases hk; exact hA1
      | 2, hk => cases hk; exact hA2
      | 3, hk => cases hk; exact hA3
      | 4, hk => cases hk; exact hA4
      | 5, hk => cases hk; exact hA5
      | k + 6, hk => simp at hk
    · exact va_Nw.of rfl (hts _ (List.mem_append_right _ (nst_in w hw)))
  have hX1 : X.1 = s.heap.size := by rw [eX]
  clear eX
  obtain ⟨R, hA, hB, i1, i2, i3, i4, i5, i6, i7, i8⟩ := HL2
  have hl := lv_entry ([.ref b]) (n := 4) (Nat.le_of_ble_eq_true rfl)
  rw [lg_entry_eq]
  have K : LV X b L xs false 0 [(0, zs)] [] h00 := by
    refine l_new (k := 11) (c := 11) rfl (by decide) rfl clL_7 cz11 rfl (by decide) dL_law_0 (by decide) ?_
    refine l_dup dL_law_3 rfl ?_
    refine l_cI (tX11_init i1) lcX11_init mlL_9 imX11_init rfl rfl rfl ⟨by decide, by decide⟩ (Nat.le_of_ble_eq_true rfl) dL_law_4 (by decide) ⟨by omega, by omega⟩ ?_
    refine l_astore_n (ls' := [(1, zr 11 0), (0, zs)]) dL_law_7 (by decide) rfl ?_
    refine l_new (k := 12) (c := 12) rfl (by decide) rfl clL_10 cz12 rfl (by decide) dL_law_8 i3 ?_
    rw [i2]
    refine l_dup dL_law_11 rfl ?_
    refine l_cI (tX12_init i4) lcX12_init mlL_12 imX12_init rfl rfl rfl ⟨by decide, by decide⟩ (Nat.le_of_ble_eq_true rfl) dL_law_12 (by decide) (i7 hB i6) ?_
    refine l_astore_n (ls' := [(2, zr 12 0), (1, zr 11 0), (0, zs)]) dL_law_15 (by decide) rfl ?_
    refine l_iconst (v := 0) dL_law_16 (by decide) ?_
    refine l_istore_n (ls' := lsd 0) dL_law_17 rfl ?_
    refine l_ly i5 ?_
    have z0 : (0 : Int32).toInt = 0 := by decide
    exact lhead hL R i7 i8 (L + 1) 0 hB (by omega) (by omega) (by omega) i6
  exact K p l e s m below meth c s.heap [] _ (fun _ _ => 0) ⟨C0, hX1, hK, ⟨fun k n hn => absurd hn (Nat.not_lt_zero _), fun k n _ _ hn => absurd hn (Nat.not_lt_zero _), fun k n hn => absurd hn (Nat.not_lt_zero _), fun k n _ _ hn => absurd hn (Nat.not_lt_zero _), by rw [hX1]; exact Nat.le_refl _⟩, (fun z => by cases z), va_S.rf, ⟨by decide, by decide⟩, hl, (fun q hq => by
    rcases List.mem_cons.mp hq with z | z
    · rw [z]; exact wl_s h00
    · cases z), (fun v hv => by cases hv)⟩
