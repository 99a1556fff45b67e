/-! ===== the abstract heap and the machine's: what stays, what is written, what is new ===== -/
def sm (h h' : Hp) (k n : Nat) : Prop := (∀ i, gI h' k n i = gI h k n i) ∧ (∀ i, gJ h' k n i = gJ h k n i) ∧ (∀ i, gR h' k n i = gR h k n i)
theorem ov_sm {h h' : Hp} {ad : Ad} {k n c : Nat} (e : sm h h' k n) : ov ad h' k n c = ov ad h k n c := by
  funext j
  unfold ov
  rw [e.1, e.2.1, e.2.2]
theorem aw_sm {h h' : Hp} {ad : Ad} {k n t : Nat} (e : sm h h' k n) : aw ad h' k n t = aw ad h k n t := by
  funext j
  unfold aw
  rw [e.1, e.2.1, e.2.2]
theorem okc_sm {X : Cz} {h h' : Hp} {ad : Ad} {H : Heap} {k n : Nat} (e : sm h h' k n) (o : okc X h ad H k n) : okc X h' ad H k n := by
  unfold okc at o ⊢
  cases hk : kd k with
  | inl c => rw [hk] at o; dsimp only at o ⊢; rw [ov_sm e]; exact o
  | inr q => rw [hk] at o; dsimp only at o ⊢; rw [aw_sm e]; exact o
theorem okc_kept {X : Cz} {h : Hp} {ad : Ad} {H H1 : Heap} {k n : Nat} (o : okc X h ad H k n) (hq : H1[ad k n]? = H[ad k n]?) : okc X h ad H1 k n := by
  unfold okc at o ⊢
  cases hk : kd k with
  | inl c => rw [hk] at o; exact ⟨o.1, o.2.kept hq⟩
  | inr q => rw [hk] at o; exact ⟨o.1, hq.trans o.2⟩
theorem okc_lt {X : Cz} {h : Hp} {ad : Ad} {H : Heap} {k n : Nat} (o : okc X h ad H k n) : ad k n < H.size := by
  unfold okc at o
  cases hk : kd k with
  | inl c => rw [hk] at o; obtain ⟨-, cell, q, -⟩ := o; exact (Array.getElem?_eq_some_iff.mp q).1
  | inr q => rw [hk] at o; exact (Array.getElem?_eq_some_iff.mp o.2).1
theorem okc_o {X : Cz} {h : Hp} {ad : Ad} {H : Heap} {k n c : Nat} (hk : kd k = .inl c) (o : okc X h ad H k n) : c < 13 ∧ t_OB (ad k n) (X.2.1 c) (nf c) (X.2.2.1 c) H (ov ad h k n c) := by
  unfold okc at o
  rw [hk] at o
  exact o
theorem okc_a {X : Cz} {h : Hp} {ad : Ad} {H : Heap} {k n : Nat} {q : Nat × Nat} (hk : kd k = .inr q) (o : okc X h ad H k n) : q.1 < 6 ∧ H[ad k n]? = some (arrV (X.2.2.2 q.1) q.2 (aw ad h k n q.1)) := by
  unfold okc at o
  rw [hk] at o
  exact o
theorem okc_o' {X : Cz} {h : Hp} {ad : Ad} {H : Heap} {k n c : Nat} (hk : kd k = .inl c) (hc : c < 13) (o : t_OB (ad k n) (X.2.1 c) (nf c) (X.2.2.1 c) H (ov ad h k n c)) : okc X h ad H k n := by
  unfold okc
  rw [hk]
  exact ⟨hc, o⟩
theorem okc_a' {X : Cz} {h : Hp} {ad : Ad} {H : Heap} {k n : Nat} {q : Nat × Nat} (hk : kd k = .inr q) (hc : q.1 < 6) (o : H[ad k n]? = some (arrV (X.2.2.2 q.1) q.2 (aw ad h k n q.1))) : okc X h ad H k n := by
  unfold okc
  rw [hk]
  exact ⟨hc, o⟩
/-- one cell is written -/
theorem Hz.upd {X : Cz} {h h' : Hp} {ad : Ad} {H H1 : Heap} {k n : Nat} (Z : Hz X h ad H) (hn : n < gN h k) (eN : ∀ a, gN h' a = gN h a) (eS : ∀ a b, ¬ (a = k ∧ b = n) → sm h h' a b) (ok : okc X h' ad H1 k n) (z : H1.size = H.size) (oq : ∀ q : Nat, q ≠ ad k n → H1[q]? = H[q]?) (hr : ∀ i q, gR h' k n i = some q → q < gN h (sk k i)) : Hz X h' ad H1 := by
  obtain ⟨Z1, Z2, Z3, Z4, Z5⟩ := Z
  refine ⟨fun a b hb => ?_, fun a b a' b' hb hb' e => ?_, fun a b hb => ?_, fun a b i q hb e => ?_, by rw [z]; exact Z5⟩
  · rw [eN] at hb
    by_cases hab : a = k ∧ b = n
    · obtain ⟨rfl, rfl⟩ := hab
      exact ok
    · exact okc_sm (eS a b hab) (okc_kept (Z1 a b hb) (oq _ fun e => hab (Z2 a b k n hb hn e)))
  · rw [eN] at hb hb'
    exact Z2 a b a' b' hb hb' e
  · rw [eN] at hb
    exact Z3 a b hb
  · rw [eN] at hb ⊢
    by_cases hab : a = k ∧ b = n
    · obtain ⟨rfl, rfl⟩ := hab
      exact hr i q e
    · rw [(eS a b hab).2.2] at e
      exact Z4 a b i q hb e
theorem sm_I {h : Hp} {k n i : Nat} {v : Int32} : ∀ a b, ¬ (a = k ∧ b = n) → sm h (sI h k n i v) a b := fun a b hab => ⟨fun j => if_neg fun e => hab ⟨e.1, e.2.1⟩, fun _ => rfl, fun _ => rfl⟩
theorem sm_J {h : Hp} {k n i : Nat} {v : Int64} : ∀ a b, ¬ (a = k ∧ b = n) → sm h (sJ h k n i v) a b := fun a b hab => ⟨fun _ => rfl, fun j => if_neg fun e => hab ⟨e.1, e.2.1⟩, fun _ => rfl⟩
theorem sm_R {h : Hp} {k n i : Nat} {v : Option Nat} : ∀ a b, ¬ (a = k ∧ b = n) → sm h (sR h k n i v) a b := fun a b hab => ⟨fun _ => rfl, fun _ => rfl, fun j => if_neg fun e => hab ⟨e.1, e.2.1⟩⟩
theorem ov_I {h : Hp} {ad : Ad} {k n c f : Nat} {v : Int32} (hf : ft c f = 0 ∨ ft c f = 3) : ov ad (sI h k n f v) k n c = updV (ov ad h k n c) f (.int v) := by
  funext j
  unfold ov updV
  by_cases hj : j = f
  · subst hj; simp [hf, gI, sI]
  · simp [hj, gI, sI, gJ, gR]
theorem ov_J {h : Hp} {ad : Ad} {k n c f : Nat} {v : Int64} (hf : ft c f = 1) : ov ad (sJ h k n f v) k n c = updV (ov ad h k n c) f (.long v) := by
  funext j
  unfold ov updV
  by_cases hj : j = f
  · subst hj; simp [hf, gJ, sJ]
  · simp [hj, gI, sJ, gJ, gR]
theorem ov_R {h : Hp} {ad : Ad} {k n c f : Nat} {v : Option Nat} (hf : ft c f = 2) : ov ad (sR h k n f v) k n c = updV (ov ad h k n c) f (zv ad (zq (rk c f) v)) := by
  funext j
  unfold ov updV
  by_cases hj : j = f
  · subst hj; simp [hf, gR, sR]
  · simp [hj, gI, sR, gJ, gR]
theorem aw_I {h : Hp} {ad : Ad} {k n t i : Nat} {v : Int32} (ht : t = 0 ∨ t = 1) : aw ad (sI h k n i v) k n t = updV (aw ad h k n t) i (.int v) := by
  funext j
  unfold aw updV
  by_cases hj : j = i
  · subst hj; simp [ht, gI, sI]
  · simp [hj, gI, sI, gJ, gR]
theorem aw_J {h : Hp} {ad : Ad} {k n i : Nat} {v : Int64} : aw ad (sJ h k n i v) k n 2 = updV (aw ad h k n 2) i (.long v) := by
  funext j
  unfold aw updV
  by_cases hj : j = i
  · subst hj; simp [gJ, sJ]
  · simp [hj, sJ, gJ]
theorem aw_R {h : Hp} {ad : Ad} {k n t i : Nat} {v : Option Nat} (ht : ¬ (t = 0 ∨ t = 1)) (ht2 : ¬ t = 2) : aw ad (sR h k n i v) k n t = updV (aw ad h k n t) i (zv ad (zq (ek t) v)) := by
  funext j
  unfold aw updV
  by_cases hj : j = i
  · subst hj; simp [ht, ht2, gR, sR]
  · simp [hj, ht, ht2, sR, gR]
/-- a new cell -/
def adn (ad : Ad) (h : Hp) (k a : Nat) : Ad := fun x y => if x = k ∧ y = gN h k then a else ad x y
theorem adn_ex (ad : Ad) (h : Hp) (k a : Nat) : Ex h ad (adn ad h k a) := fun x y hy => if_neg fun e => by rw [e.1, e.2] at hy; exact Nat.lt_irrefl _ hy
theorem nw_le (h : Hp) (k z : Nat) : le h (nw h k z) := ⟨Nat.le_succ _, Nat.le_add_right _ _, fun a => by
  show gN h a ≤ if a = k then gN h k + 1 else gN h a
  by_cases e : a = k
  · rw [if_pos e, e]; exact Nat.le_succ _
  · rw [if_neg e]; exact Nat.le_refl _⟩
theorem nw_N (h : Hp) (k z : Nat) : gN (nw h k z) k = gN h k + 1 := if_pos rfl
theorem nw_sm {h : Hp} {k z a b : Nat} (hb : b < gN h a) : sm h (nw h k z) a b := by
  have hn : ¬ (a = k ∧ b = gN h k) := fun e => by rw [e.1, e.2] at hb; exact Nat.lt_irrefl _ hb
  exact ⟨fun i => if_neg hn, fun i => if_neg hn, fun i => if_neg hn⟩
theorem zq_ex {h : Hp} {ad ad1 : Ad} {k : Nat} {o : Option Nat} (ho : ∀ q, o = some q → q < gN h k) (e : Ex h ad ad1) : zv ad1 (zq k o) = zv ad (zq k o) := by
  cases o with
  | none => rfl
  | some q => exact zv_ex (lz_r (ho q rfl)) e
theorem okc_ex {X : Cz} {h : Hp} {ad ad1 : Ad} {H : Heap} {k n : Nat} (hn : n < gN h k) (hr : ∀ i q, gR h k n i = some q → q < gN h (sk k i)) (e : Ex h ad ad1) (o : okc X h ad H k n) : okc X h ad1 H k n := by
  have ea : ad1 k n = ad k n := e k n hn
  cases hk : kd k with
  | inl c =>
    obtain ⟨h1, h2⟩ := okc_o hk o
    refine okc_o' hk h1 ?_
    rw [ea]
    have : ov ad1 h k n c = ov ad h k n c := by
      funext j
      unfold ov
      rw [zq_ex (fun q hq => by have := hr j q hq; unfold sk at this; rw [hk] at this; exact this) e]
    rw [this]
    exact h2
  | inr q =>
    obtain ⟨h1, h2⟩ := okc_a hk o
    refine okc_a' hk h1 ?_
    rw [ea]
    have : aw ad1 h k n q.1 = aw ad h k n q.1 := by
      funext j
      unfold aw
      rw [zq_ex (fun q' hq => by have := hr j q' hq; unfold sk at this; rw [hk] at this; exact this) e]
    rw [this]
    exact h2
theorem Hz.new {X : Cz} {h : Hp} {ad : Ad} {H H1 : Heap} {k z : Nat} (Z : Hz X h ad H) (ok : okc X (nw h k z) (adn ad h k H.size) H1 k (gN h k)) (z1 : H1.size = H.size + 1) (oq : ∀ q : Nat, q < H.size → H1[q]? = H[q]?) : Hz X (nw h k z) (adn ad h k H.size) H1 := by
  obtain ⟨Z1, Z2, Z3, Z4, Z5⟩ := Z
  have cs : ∀ a b, b < gN (nw h k z) a → (a = k ∧ b = gN h k) ∨ (b < gN h a ∧ adn ad h k H.size a b = ad a b) := by
    intro a b hb
    by_cases e : a = k ∧ b = gN h k
    · exact Or.inl e
    · refine Or.inr ⟨?_, if_neg e⟩
      have hb : b < if a = k then gN h k + 1 else gN h a := hb
      by_cases e1 : a = k
      · subst e1
        rw [if_pos rfl] at hb
        have : ¬ b = gN h a := fun e2 => e ⟨rfl, e2⟩
        omega
      · rw [if_neg e1] at hb
        exact hb
  have nA : adn ad h k H.size k (gN h k) = H.size := if_pos ⟨rfl, rfl⟩
  refine ⟨fun a b hb => ?_, fun a b a' b' hb hb' e => ?_, fun a b hb => ?_, fun a b i q hb e => ?_, by omega⟩
  · rcases cs a b hb with ⟨rfl, rfl⟩ | ⟨h1, h2⟩
    · exact ok
    · exact okc_kept (okc_ex (Nat.lt_of_lt_of_le h1 ((nw_le h k z).2.2 a)) (fun i q e => by rw [(nw_sm h1).2.2] at e; exact Nat.lt_of_lt_of_le (Z4 a b i q h1 e) ((nw_le h k z).2.2 _)) (fun x y hy => by
        rcases cs x y hy with ⟨rfl, rfl⟩ | ⟨h3, h4⟩
        · rfl
        · rfl) (okc_sm (nw_sm h1) (okc_ex h1 (fun i q e => Z4 a b i q h1 e) (adn_ex ad h k H.size) (Z1 a b h1)))) (by rw [h2]; exact oq _ (okc_lt (Z1 a b h1)))
  · rcases cs a b hb with ⟨rfl, rfl⟩ | ⟨h1, h2⟩ <;> rcases cs a' b' hb' with ⟨e1, e2⟩ | ⟨h3, h4⟩
    · exact ⟨e1.symm, e2.symm⟩
    · rw [nA, h4] at e
      have := okc_lt (Z1 a' b' h3)
      omega
    · rw [e1, e2, nA, h2] at e
      have := okc_lt (Z1 a b h1)
      omega
    · rw [h2, h4] at e
      exact Z2 a b a' b' h1 h3 e
  · rcases cs a b hb with ⟨rfl, rfl⟩ | ⟨h1, h2⟩
    · rw [nA]; exact Z5
    · rw [h2]; exact Z3 a b h1
  · rcases cs a b hb with ⟨rfl, rfl⟩ | ⟨h1, h2⟩
    · have e : (if a = a ∧ gN h a = gN h a then none else gR h a (gN h a) i) = some q := e
      rw [if_pos ⟨rfl, rfl⟩] at e
      cases e
    · rw [(nw_sm h1).2.2] at e
      exact Nat.lt_of_lt_of_le (Z4 a b i q h1 e) ((nw_le h k z).2.2 _)
theorem Ly_I {h : Hp} {k n i : Nat} {v : Int32} (L : Ly h) : Ly (sI h k n i v) := L
theorem Ly_J {h : Hp} {k n i : Nat} {v : Int64} (L : Ly h) : Ly (sJ h k n i v) := L
theorem Ly_R {h : Hp} {k n i : Nat} {v : Option Nat} (hk : lyf k i = true) (L : Ly h) : Ly (sR h k n i v) := by
  intro q hq
  have h1 := List.all_eq_true.mp hk q hq
  have h2 : ¬ (q.1 = k ∧ (0 : Nat) = n ∧ q.2 = i) := fun e => by simp [e.1, e.2.2] at h1
  show (if q.1 = k ∧ 0 = n ∧ q.2 = i then v else gR h q.1 0 q.2) = some 0
  rw [if_neg h2]
  exact L q hq
theorem lyf_k {k i : Nat} (h : lyk k = true) : lyf k i = true := by
  refine List.all_eq_true.mpr fun q hq => ?_
  have := List.all_eq_true.mp h q hq
  simp at this ⊢
  exact Or.inl this
theorem Ly_nw {h : Hp} {k z : Nat} (hk : lyk k = true) (L : Ly h) : Ly (nw h k z) := by
  intro q hq
  have h1 := List.all_eq_true.mp hk q hq
  have h2 : ¬ (q.1 = k ∧ (0 : Nat) = gN h k) := fun e => by simp [e.1] at h1
  show (if q.1 = k ∧ 0 = gN h k then none else gR h q.1 0 q.2) = some 0
  rw [if_neg h2]
  exact L q hq
