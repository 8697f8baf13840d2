/-! the layout holds at the start -/
theorem all_drop {α : Type} {p : α → Bool} : ∀ (l : List α) (k c : Nat), ((l.drop k).take c).all p = true → (l.drop (k + c)).all p = true → (l.drop k).all p = true := by
  intro l k c h1 h2
  rw [List.all_eq_true] at h1 h2 ⊢
  intro x hx
  rw [← List.take_append_drop c (l.drop k)] at hx
  rcases List.mem_append.mp hx with q | q
  · exact h1 x q
  · exact h2 x (by rw [List.drop_drop] at q; exact q)
theorem zFc_iff {g : zS} {q : Nat × Nat × Nat × Nat} (h : zFc g q = true) : zFv g q = q.2.2.2 := Nat.eq_of_beq_eq_true h
theorem init_S : Sy zhI.1 := by
  have h1 : (zFL.drop 0).all (zFc zhI.1) = true := (all_drop _ 0 200 init_f0 (by rfl))
  have h2 : (zWL.drop 0).all (zWc zhI.1) = true := (all_drop _ 0 40 init_w0 (by rfl))
  refine ⟨fun q hq => zFc_iff (List.all_eq_true.mp h1 q hq), fun w hw q hq => zFc_iff (List.all_eq_true.mp (List.all_eq_true.mp h2 w hw) q hq), fun q hq => zFc_iff (List.all_eq_true.mp init_h q hq)⟩
