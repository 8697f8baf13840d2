/-! the Java side's machine: a whole run -/
section
variable {n : Nat} {g : zS} {mi : Nat → Nat → Int32} {ml : Nat → Nat → Int64} {X sA aA ln : Nat}
theorem c_runs (hs : Sy g) (h : TX g mi X sA aA ln) {L L' p : Nat} {d : Option Int64} (hx : EX n g mi X ln L L' p d) (hL : L ≤ L') (hl : L' < ln) (hp : p ≤ 64) (h0 : 0 < p) (hn : 402 < n) (e : mi sA L' = nI 5) : (∀ x, d = some x → ∃ ml', f_X4_runs n 22 X (nI L) (g, mi, ml) = some (nI 1, (g, mi, ml')) ∧ ml' 22 2 = x ∧ ∀ a, a ≠ 24 → a ≠ 22 → ml' a = ml a) ∧ (d = none → ∃ ml', f_X4_runs n 22 X (nI L) (g, mi, ml) = some (nI 0, (g, mi, ml')) ∧ ∀ a, a ≠ 24 → a ≠ 22 → ml' a = ml a) := by
  have hl4 := h.2.2.2
  have u : ∀ ml, f_X4_runs n 22 X (nI L) (g, mi, ml) = zlp5 (fb_X4_runs_20 n) n 22 X (nI 0) (nI L) (nI 0) (g, mi, zu ml 22 2 1) := by
    intro ml
    unfold f_X4_runs
    simp (disch := omega) only [lit, ng1, S_pL22 hs, nm1, if_F]
  obtain ⟨a1, a2⟩ := hx (zu ml 22 2 1) 0 0 (by omega) (by omega)
  refine ⟨fun x hd => ?_, fun hd => ?_⟩
  · obtain ⟨e1, ml1, b1, b2, b3, b4⟩ := a1 x hd
    refine ⟨zu ml1 22 2 (ml1 24 0), ?_, by rw [zul_s, b2], fun a h1 h2 => ?_⟩
    · obtain ⟨f, hf⟩ : ∃ f, n = f + 1 + e1 := ⟨n - 1 - e1, by omega⟩
      have b5 := b4 (f + 1)
      rw [← hf] at b5
      rw [u, b5, x_stop hs h hl (by omega) (by omega) e]
    · rw [zul_a h2, b3.2 a h1 h2, zul_a h2]
  · obtain ⟨e1, ml1, b1, b2, b3⟩ := a2 hd
    refine ⟨ml1, ?_, fun a h1 h2 => ?_⟩
    · obtain ⟨f, hf⟩ : ∃ f, n = f + e1 := ⟨n - e1, by omega⟩
      have b5 := b3 f
      rw [← hf] at b5
      rw [u, b5]
    · rw [b2.2 a h1 h2, zul_a h2]
theorem c_runs0 (hs : Sy g) : f_X4_runs n 22 X m1 (g, mi, ml) = some (nI 1, (g, mi, zu ml 22 2 1)) := by
  unfold f_X4_runs
  simp (disch := omega) only [lit, ng1, S_pL22 hs, if_T]
end
