/-! the codes of a row of clauses at work -/
def RK (n : Nat) (g : zS) (mi : Nat → Nat → Int32) (X sA ln L0 : Nat) (d : Option Int64) : Prop := ∃ L' p, EX n g mi X ln L0 L' p d ∧ L0 ≤ L' ∧ L' < ln ∧ 0 < p ∧ p ≤ 64 ∧ mi sA L' = nI 5
def RKi (n : Nat) (g : zS) (mi : Nat → Nat → Int32) (X sA ln : Nat) (x : Ci) : Prop := (∀ f, x.2.1 = some f → RK n g mi X sA ln f.1 (f.2 (mi 23))) ∧ (∀ f, x.2.2.1 = some f → RK n g mi X sA ln f.1 (f.2 (mi 23))) ∧ ∀ f, x.2.2.2.2 = some f → RK n g mi X sA ln f.1 ((f.2 (mi 23)).map tI)
section
variable {n : Nat} {g : zS} {mi : Nat → Nat → Int32} {X sA aA ln T : Nat} {o : Bool} {D V : Nat → Nat}
theorem x_w (hs : Sy g) (h : TX g mi X sA aA ln) (hT : D T = 0) {i p L j p' : Nat} {c : List (Nat × Nat)} {f : Nat × DS} (hi : i ≤ T) (hp : p ≤ 50) (hh : pW o D V i p L = .ok (j, p', c, f)) (hC : CA (mi sA) (mi aA) L c) (hl : L + c.length ≤ ln) : RK n g mi X sA ln f.1 (f.2 (mi 23)) := by
  unfold pW at hh
  cases hc : pSum o D V 8 i p with
  | error q => rw [hc] at hh; exact absurd hh (by simp)
  | ok x =>
    obtain ⟨j1, p1, c1, d1⟩ := x
    rw [hc] at hh
    obtain ⟨a1, a2, a3, a4, a5, a6⟩ := ok_sum hT 8 _ _ _ _ _ _ hi hp hc
    injection hh with hh
    obtain ⟨e1, e2, e3, e4⟩ := hh
    rw [CA_app] at hC
    simp only [List.length_append, List.length_cons, List.length_nil] at hl
    exact ⟨L + c1.length, p1 - p, x_sum hs h hT 8 _ _ _ _ _ _ L hi hp hc hC.1 (by omega), by dsimp only; omega, by omega, by omega, by omega, hC.2.1.1⟩
theorem x_ti {i p : Nat} {c : List (Nat × Nat)} {kd : Nat} {f1 f2 : Option (Nat × DS)} {j p' : Nat} {c' : List (Nat × Nat)} {kd' : Nat} {f1' f2' : Option (Nat × DS)} {tm : Nat} (h : pTi D V i p c kd f1 f2 = .ok (j, p', c', kd', f1', f2', tm)) : c' = c ∧ f1' = f1 ∧ f2' = f2 := by
  unfold pTi at h
  by_cases q : D i = 29
  · rw [if_pos q] at h
    by_cases q2 : D (i + 1) = 50 ∧ 1 ≤ V (i + 1) ∧ V (i + 1) ≤ 20
    · rw [if_pos q2] at h
      injection h with h
      obtain ⟨e1, e2, e3, e4, e5, e6, e7⟩ := h
      exact ⟨rfl, rfl, rfl⟩
    · rw [if_neg q2] at h; exact absurd h (by simp)
  · rw [if_neg q] at h
    injection h with h
    obtain ⟨e1, e2, e3, e4, e5, e6, e7⟩ := h
    exact ⟨rfl, rfl, rfl⟩
end
