/-! ===== System.arraycopy of longs, within one array ===== -/
def cpJ (h : Hp) (k n a d c : Nat) : Hp := (h.1, fun x y i => if x = k ∧ y = n ∧ d ≤ i ∧ i < d + c then h.2.1 k n (a + (i - d)) else h.2.1 x y i, h.2.2)
section Copy
variable {p : Program} {l : Launch} {e : Env} {R : Room} {s : State} {m : MethodId} {args : Array Value} {below : List Frame} {meth : Method} {c : Code} {H : Heap} {locs : List Loc} {cells slots : Nat} {Q : State → Prop} {ls : Array Slot} {rest : List Value} {pc : Nat}
theorem W_copyl {cc : ByteArray} (hexec : p.tables.exec = Jvm.exec) (hb : c.code = cc) (hml : c.maxLocals = ls.size) {own : String} {index : Nat} (hown : s.vm.findClass own = some m.cls) (hlink : (Cond.methodLink own index arraycopyName).before args s = true) (hnat : (Cond.native arraycopyName).before args s = true) (hstat : (Cond.static arraycopyName).before args s = true) (hini : (Cond.initialized "java/lang/System").before args s = true)
    {a : Nat} {c1 : ClassId} {n1 : Nat} {f : Nat → Int64} (hc1 : H[a]? = some (vp_cell c1 (n1, .inr (.inl f)))) (hty : ArrOfT s c1 .long)
    {sp dp n : Int32} (h1 : ¬ sp < 0) (h2 : ¬ dp < 0) (h3 : ¬ n < 0) (h4 : sp.toNatClampNeg + n.toNatClampNeg ≤ n1) (h5 : dp.toNatClampNeg + n.toNatClampNeg ≤ n1)
    (hframes : 1 ≤ R.frames) (hlocals : (rest.map fun v => v.category).sum + (nativeFrameWords "java/lang/System" "arraycopy" 5 + 11) ≤ R.locals) (hdg : decode cc pc = .ok (.invokestatic index, 3))
    (kk : ∀ (H1 : Heap) (L1 : List Loc), H1[a]? = some (vp_cell c1 (n1, .inr (.inl (va_cpy f f sp.toNatClampNeg dp.toNatClampNeg n.toNatClampNeg)))) → H1.size = H.size → (∀ q : Nat, q ≠ a → H1[q]? = H[q]?) → (∀ q ∈ L1, q.base = a) → W p l e R s m args below meth c H1 (locs ++ L1) cells slots Q (F0 m (pc + 3) ls rest)) : W p l e R s m args below meth c H locs cells slots Q (F0 m pc ls (.int n :: .int dp :: .ref a :: .int sp :: .ref a :: rest)) := by
  have nn : ∀ z : Int32, ¬ z < 0 → z.toInt = (z.toNatClampNeg : Int) := by
    intro z hz
    have hz0 : (0 : Int) ≤ z.toInt := by
      have := Int32.not_lt.mp hz
      simpa using Int32.le_iff_toInt_le.mp this
    show z.toInt = ((z.toInt.toNat : Nat) : Int)
    omega
  intro T hT X
  obtain ⟨-, k1, hk1, cm1, hkk1⟩ := hty n1 (fun j => .long (f j))
  obtain ⟨vm', X', step⟩ := X.arraycopy hexec hown hlink hnat hstat hini (src := a) (dst := a) (cs := vp_cell c1 (n1, .inr (.inl f))) (cd := vp_cell c1 (n1, .inr (.inl f))) (srcPos := sp) (destPos := dp) (n := n) (by rw [hT]; exact hc1) (by rw [hT]; exact hc1)
    (fun _ h => by cases h) (fun _ h => by cases h) (fun h => by cases h) (fun h => by cases h) hk1 hk1 hkk1 hkk1 (by simp [refKind]) h1 h2 h3
    (by rw [nn sp h1, nn n h3]; show ¬ _ > ((arrV c1 n1 (fun j => .long (f j))).slots.size : Int); rw [arrV_size]; omega)
    (by rw [nn dp h2, nn n h3]; show ¬ _ > ((arrV c1 n1 (fun j => .long (f j))).slots.size : Int); rw [arrV_size]; omega)
    (fun vm₁ _ i hi => by
      have e : (vp_cell c1 (n1, .inr (.inl f))).slots.getD (sp.toNatClampNeg + i) .null = .long (f (sp.toNatClampNeg + i)) := by
        show (arrV c1 n1 (fun j => .long (f j))).slots.getD _ _ = _
        rw [Array.getD_eq_getD_getElem?, arrV_read _ _ (by omega)]
        rfl
      refine ⟨?_, ?_⟩
      · rw [e]
        rfl
      · rw [e]
        exact trivial)
    (g := F0 m pc ls (.int n :: .int dp :: .ref a :: .int sp :: .ref a :: rest)) rfl (by rw [hml]) (rest := rest) rfl (by rw [hb]; exact hdg) hframes (by show 2 * 0 + _ + _ ≤ _; omega)
  have e1 : copied (vp_cell c1 (n1, .inr (.inl f))) (vp_cell c1 (n1, .inr (.inl f))) sp dp n = vp_cell c1 (n1, .inr (.inl (va_cpy f f sp.toNatClampNeg dp.toNatClampNeg n.toNatClampNeg))) := va_copied (fun z => .long z) c1 c1 f f h4
  rw [e1] at X' step
  have hl : a < H.size := (Array.getElem?_eq_some_iff.mp hc1).1
  have hheap : ((T.setVm vm').setCell a (vp_cell c1 (n1, .inr (.inl (va_cpy f f sp.toNatClampNeg dp.toNatClampNeg n.toNatClampNeg))))).heap = H.setIfInBounds a (vp_cell c1 (n1, .inr (.inl (va_cpy f f sp.toNatClampNeg dp.toNatClampNeg n.toNatClampNeg)))) := by rw [← hT]; rfl
  obtain ⟨t, a1, b1⟩ := kk _ _ (by simp [Array.getElem?_setIfInBounds, hl]) (by simp) (fun q hq => by simp [Array.getElem?_setIfInBounds, Ne.symm hq]) (fun q hq => by
      obtain ⟨z, -, hz⟩ := List.mem_map.mp hq
      rw [← hz]) _ hheap X'
  exact ⟨t, step t a1, b1⟩
end Copy
section CopyV
variable {X : Cz} {M : Mi} {b : Bool} {h0 : Hp} {pc : Nat} {ls : List (Nat × AV)} {st : List AV} {h : Hp} {r : Option AV} {h1 : Hp}
theorem v_acopy {k n len idx : Nat} {sp dp cn : Int32} (hk : kd k = .inr (2, len)) (hl : Cond.methodLink M.1.cls idx arraycopyName ∈ tbz) (hna : Cond.native arraycopyName ∈ tbz) (hsx : Cond.static arraycopyName ∈ tbz) (hin : Cond.initialized "java/lang/System" ∈ tbz) (q1 : 0 ≤ sp.toInt) (q2 : 0 ≤ dp.toInt) (q3 : 0 ≤ cn.toInt) (q4 : sp.toInt + cn.toInt ≤ (len : Int)) (q5 : dp.toInt + cn.toInt ≤ (len : Int)) (hfr : 1 ≤ M.2.2.2.2.1) (hlo : stw st + (nativeFrameWords "java/lang/System" "arraycopy" 5 + 11) ≤ M.2.2.2.2.2) (hd : decode M.2.1 pc = .ok (.invokestatic idx, 3))
    (kk : V X M b h0 (pc + 3) ls st (cpJ h k n (ix sp) (ix dp) (ix cn)) r h1) : V X M b h0 pc ls (zi cn :: zi dp :: zr k n :: zi sp :: zr k n :: st) h r h1 := by
  refine ⟨kk.1, fun l p e s m args below meth c' H locs L ad ad0 P => ?_⟩
  have hts := P.1.2.2.2.1
  have hn := P.hs.t.t.h (k, n) rfl
  have ng : ∀ z : Int32, 0 ≤ z.toInt → ¬ z < 0 := fun z hz q => by
    have := i32_lt.mp q
    have z0 : (0 : Int32).toInt = 0 := by decide
    omega
  have ha : H[ad k n]? = some (vp_cell (X.2.2.2 2) (len, .inr (.inl (gJ h k n)))) := (okc_a hk (P.ok P.hs.t.t.h)).2
  refine W_copyl (f := gJ h k n) P.1.1 P.1.2.1 (P.1.2.2.2.2.2.1.trans P.2.2.2.2.2.1.1.symm) P.1.2.2.2.2.1 (hts _ hl) (hts _ hna) (hts _ hsx) (hts _ hin) ha (P.1.2.2.2.2.2.2.2.2.1.arr (t := 2) (by decide)).1 (ng _ q1) (ng _ q2) (ng _ q3) (by show sp.toInt.toNat + cn.toInt.toNat ≤ len; omega) (by show dp.toInt.toNat + cn.toInt.toNat ≤ len; omega) hfr (by rw [stw_eq]; exact hlo) hd fun H1 L1 e1 z1 oq hL => ?_
  obtain ⟨E, Z, Y, l1, l2, l3, S, X1, le1⟩ := P
  have Z' : Hz X (cpJ h k n (ix sp) (ix dp) (ix cn)) ad H1 := by
    refine Z.upd (h' := cpJ h k n (ix sp) (ix dp) (ix cn)) hn (fun _ => rfl) (fun x y hxy => ⟨fun _ => rfl, fun i => if_neg fun q => hxy ⟨q.1, q.2.1⟩, fun _ => rfl⟩) (okc_a' hk (Nat.le_of_ble_eq_true rfl) ?_) z1 oq (fun i q e => Z.2.2.2.1 k n i q hn e)
    rw [e1, vp_cell_l]
    congr 2
    funext j
    show Value.long _ = aw ad _ k n 2 j
    unfold aw
    rw [if_neg (by decide), if_pos rfl]
    show Value.long (va_cpy (gJ h k n) (gJ h k n) (ix sp) (ix dp) (ix cn) j) = Value.long (if k = k ∧ n = n ∧ ix dp ≤ j ∧ j < ix dp + ix cn then h.2.1 k n (ix sp + (j - ix dp)) else h.2.1 k n j)
    unfold va_cpy
    by_cases q : ix dp ≤ j ∧ j < ix dp + ix cn
    · rw [if_pos q, if_pos ⟨rfl, rfl, q.1, q.2⟩]
      rfl
    · rw [if_neg q, if_neg fun z => q ⟨z.2.2.1, z.2.2.2⟩]
      rfl
  exact kk.2 l p e s m args below meth c' H1 _ L ad ad0 ⟨E, Z', Y, l1, l2.t.t.t.t.t, l3, ⟨by rw [z1]; exact S.1, fun q g1 g2 => (oq q fun e => g2 (by rw [e]; exact Z.2.2.1 k n hn)).trans (S.2.1 q g1 g2), fun q hq => by
      rcases List.mem_append.mp hq with q' | q'
      · exact S.2.2 q q'
      · rw [hL q q']; exact Z.2.2.1 k n hn⟩, X1, le1⟩
end CopyV
theorem acL : Cond.methodLink RX7 49 arraycopyName ∈ tbz := tbz_tb (tk5 (List.mem_of_getElem? (i := 148) rfl)) rfl
theorem acN : Cond.native arraycopyName ∈ tbz := tbz_tb (tk5 (List.mem_of_getElem? (i := 150) rfl)) rfl
theorem acS : Cond.static arraycopyName ∈ tbz := tbz_tb (tk5 (List.mem_of_getElem? (i := 149) rfl)) rfl
theorem acI : Cond.initialized "java/lang/System" ∈ tbz := tbz_tb (tk1 (List.mem_of_getElem? (i := 17) rfl)) rfl
