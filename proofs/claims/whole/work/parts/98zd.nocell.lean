/-! ===== level 2: the reference makes no cell behind its constructor ===== -/
def NA {α : Type} (h : Hp) (e : Option (α × Hp)) : Prop := ∀ r h', e = some (r, h') → gC h' = gC h ∧ gS h' = gS h
theorem NA_some {α : Type} {h h' : Hp} {r : α} (q : gC h' = gC h ∧ gS h' = gS h) : NA h (some (r, h')) := fun a b e => by cases e; exact q
theorem NA_none {α : Type} {h : Hp} : NA (α := α) h none := fun a b e => by cases e
theorem NA_lb {α β : Type} {h : Hp} {e : β} {f : β → Option (α × Hp)} (q : NA h (f e)) : NA h (lb e f) := q
theorem NA_br {α : Type} {h : Hp} {c : Prop} [Decidable c] {a b : Option (α × Hp)} (q1 : NA h a) (q2 : NA h b) : NA h (br c a b) := by
  by_cases z : c
  · rw [br_p z]; exact q1
  · rw [br_n z]; exact q2
theorem NA_gd {α : Type} {h : Hp} {c : Prop} [Decidable c] {a : Option (α × Hp)} (q : NA h a) : NA h (gd c a) := by
  by_cases z : c
  · rw [gd_p z]; exact q
  · show NA h (if c then a else none)
    rw [if_neg z]; exact NA_none
theorem NA_bd {α β : Type} {h : Hp} {e : Option (α × Hp)} {f : α → Hp → Option (β × Hp)} (q1 : NA h e) (q2 : ∀ r h', gC h' = gC h ∧ gS h' = gS h → NA h (f r h')) : NA h (bd e f) := by
  cases e with
  | none => exact NA_none
  | some p => exact q2 p.1 p.2 (q1 p.1 p.2 rfl)
theorem NA_to {α : Type} {g h : Hp} {e : Option (α × Hp)} (q : gC g = gC h ∧ gS g = gS h) (w : NA g e) : NA h e := fun a b z => ⟨(w a b z).1.trans q.1, (w a b z).2.trans q.2⟩
theorem na_household (a1 a2 a3 : Int32) (h : Hp) : NA h (fX12_household a1 a2 a3 h) := by
  unfold fX12_household
  refine NA_lb (NA_br (NA_some ⟨rfl, rfl⟩) (NA_br (NA_some ⟨rfl, rfl⟩) (NA_gd (NA_lb (NA_gd (NA_lb (NA_gd (NA_lb (NA_lb (NA_some ⟨rfl, rfl⟩)))))))) ))
theorem na_adds (a1 a2 a3 a4 a5 a6 a7 a8 a9 : Int32) (a10 : Int64) (h : Hp) : NA h (fX12_adds a1 a2 a3 a4 a5 a6 a7 a8 a9 a10 h) := by
  unfold fX12_adds
  iterate 13 refine NA_gd (NA_lb ?_)
  exact NA_lb (NA_some ⟨rfl, rfl⟩)
