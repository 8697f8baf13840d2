/-! the plain form at work on the row of tokens: sums -/
def Mg (M : Nat → Nat → Int32) (x b : Int32) : Nat → Nat → Int32 := fun a k => if a = 422 then (if k = 22 then x else if k = 24 then b else M a k) else M a k
section
variable {g : zS} {M : Nat → Nat → Int32} {v : Nat → Int32} {ml : Nat → Nat → Int64} {x y b : Int32} {ρ : Type} {n : Nat}
theorem g_go {K : Int32 → Option ρ} (hs : Sy g) : zgI ((g, zrw (Mg M x b) 424 v, ml) : zH) 13 422 22 K = K x := by
  rw [S_gI422 hs, zrw_a (by decide)]; rfl
theorem g_br {K : Int32 → Option ρ} (hs : Sy g) : zgI ((g, zrw (Mg M x b) 424 v, ml) : zH) 13 422 24 K = K b := by
  rw [S_gI422 hs, zrw_a (by decide)]; rfl
theorem g_end {K : Int32 → Option ρ} (hs : Sy g) : zgI ((g, zrw (Mg M x b) 424 v, ml) : zH) 13 422 23 K = K (M 422 23) := by
  rw [S_gI422 hs, zrw_a (by decide)]; rfl
theorem g_in {K : Int32 → Option ρ} (hs : Sy g) : zgI ((g, zrw (Mg M x b) 424 v, ml) : zH) 13 422 25 K = K (M 422 25) := by
  rw [S_gI422 hs, zrw_a (by decide)]; rfl
theorem mg_z (N : Nat → Nat → Int32) (k : Nat) (z : Int32) : zu (zrw N 424 v) 422 k z = zrw (fun a j => if a = 422 then (if j = k then z else N a j) else N a j) 424 v := by
  rw [u_zu]
  unfold zrw
  funext a
  by_cases h : a = 422
  · subst h; simp
  · by_cases h2 : a = 424
    · subst h2; simp
    · simp [h, h2]
theorem mg_22 : (fun a j => if a = 422 then (if j = 22 then y else Mg M x b a j) else Mg M x b a j) = Mg M y b := by
  funext a k
  unfold Mg
  by_cases h : a = 422
  · subst h
    by_cases h1 : k = 22
    · subst h1; simp
    · simp [h1]
  · simp [h]
theorem mg_24 : (fun a j => if a = 422 then (if j = 24 then y else Mg M x b a j) else Mg M x b a j) = Mg M x y := by
  funext a k
  unfold Mg
  by_cases h : a = 422
  · subst h
    by_cases h1 : k = 24
    · subst h1; simp
    · simp [h1]
  · simp [h]
theorem g_pgo {K : zH → Option ρ} (hs : Sy g) : zpI ((g, zrw (Mg M x b) 424 v, ml) : zH) 13 422 22 y K = K (g, zrw (Mg M y b) 424 v, ml) := by
  rw [S_pI422 hs, mg_z, mg_22]
theorem g_pbr {K : zH → Option ρ} (hs : Sy g) (hy : y = nI 0 ∨ y = nI 1) : zpZ ((g, zrw (Mg M x b) 424 v, ml) : zH) 13 422 24 y K = K (g, zrw (Mg M x y) 424 v, ml) := by
  rw [S_pZ422 hs hy, mg_z, mg_24]
def EV (M : Nat → Nat → Int32) (v : Nat → Int32) (B T : Nat) (D V : Nat → Nat) : Prop := (M 422 23 = nI (B + T) ∧ B + T ≤ 2800 ∧ T ≤ 400) ∧ (∀ i, i < T → v (215 + (B + i)) = nI (D i) ∧ (D i = 50 → V i ≤ 1000 → v (3015 + (B + i)) = nI (V i))) ∧ D T = 0 ∧ ∀ i, D i < 1000
variable {B T : Nat} {D V : Nat → Nat}
theorem e_code (hs : Sy g) (h : EV M v B T D V) {i : Nat} (hi : i ≤ T) : f_X12_codeAt n 422 (nI (B + i)) (g, zrw (Mg M x b) 424 v, ml) = some (nI (D i), (g, zrw (Mg M x b) 424 v, ml)) := by
  have hB := h.1.2
  unfold f_X12_codeAt
  simp only [lit]
  rw [g_end hs, h.1.1]
  by_cases q : i = T
  · rw [q, iLe1 (by omega) (by omega) (by omega), h.2.2.1]
  · rw [iLe0 (by omega) (by omega) (by omega), S_gR422_2 hs, nI_add, R_a hs (by omega), (h.2.1 i (by omega)).1]
theorem e_pass (hs : Sy g) (h : EV M v B T D V) {i c : Nat} (hi : i ≤ T) (hc : c < 1000) : f_X12_passes0 n 422 (nI c) (g, zrw (Mg M (nI (B + i)) b) 424 v, ml) = if D i = c then some (nI 1, (g, zrw (Mg M (nI (B + (i + 1))) b) 424 v, ml)) else some (nI 0, (g, zrw (Mg M (nI (B + i)) b) 424 v, ml)) := by
  have hB := h.1.2
  have hD := h.2.2.2 i
  unfold f_X12_passes0 fb_X12_passes0_17
  simp only [lit]
  simp (disch := omega) only [↓g_go hs, ↓S_ck422 hs, e_code hs h hi, zb_s, nEq]
  by_cases q : D i = c
  · simp (disch := omega) only [q, if_T, if_neg, ↓iEq0, ↓g_go hs, ↓g_pgo hs, nI_add, zrZ1, Nat.add_assoc]
  · simp (disch := omega) only [q, if_F, if_T, zrZ0]
def Res (lv b b' : Int32) (r : Int64) (d : Option Int64) : Prop := (b' = nI 0 ∨ b' = nI 1) ∧ (lv = nI 1 ∧ b = nI 0 → (∀ x, d = some x → r = x ∧ b' = nI 0) ∧ (d = none → b' = nI 1)) ∧ (¬ (lv = nI 1 ∧ b = nI 0) → b' = b)
theorem e_bnd (hs : Sy g) {lv : Int32} {z : Int64} (hl : lv = nI 0 ∨ lv = nI 1) (hb : b = nI 0 ∨ b = nI 1) : ∃ r b', f_X12_bounded n 422 z lv (g, zrw (Mg M x b) 424 v, ml) = some (r, (g, zrw (Mg M x b') 424 v, ml)) ∧ Res lv b b' r (bnd z) := by
  unfold f_X12_bounded fb_X12_bounded_20 fb_X12_bounded_25
  have h1 : nI 1 = nI 0 ∨ nI 1 = nI 1 := Or.inr rfl
  simp only [lit]
  rcases hl with q | q <;> subst q
  · rcases hb with q | q <;> subst q
    · exact ⟨z, nI 0, by simp (disch := omega) only [↓iEq1, ↓g_br hs, if_T], Or.inl rfl, fun h => absurd h.1 n01, fun _ => rfl⟩
    · exact ⟨0, nI 1, by simp (disch := omega) only [↓iEq1, ↓iEq0, ↓g_br hs]; rfl, Or.inr rfl, fun h => absurd h.1 n01, fun _ => rfl⟩
  · have e : bnd z = if nI 0 < lg_cmp z 1000000000 then none else if nI 0 ≤ lg_cmp z (-1000000000) then some z else none := rfl
    rw [e]
    by_cases k1 : nI 0 < lg_cmp z 1000000000
    · refine ⟨0, nI 1, by simp (disch := omega) only [↓iEq0, k1, if_T, ↓g_pbr hs h1, ↓g_br hs]; rfl, Or.inr rfl, fun _ => ⟨fun x hx => ?_, fun _ => rfl⟩, fun h => ?_⟩
      · rw [if_pos k1] at hx; exact absurd hx (by simp)
      · rcases hb with q | q
        · exact absurd ⟨rfl, q⟩ h
        · exact q.symm
    · by_cases k2 : nI 0 ≤ lg_cmp z (-1000000000)
      · rcases hb with q | q <;> subst q
        · refine ⟨z, nI 0, by simp (disch := omega) only [↓iEq0, ↓iEq1, k1, k2, if_T, if_F, ↓g_br hs], Or.inl rfl, fun _ => ⟨fun x hx => ?_, fun hx => ?_⟩, fun h => absurd ⟨rfl, rfl⟩ h⟩
          · rw [if_neg k1, if_pos k2] at hx
            injection hx with hx
            exact ⟨hx, rfl⟩
          · rw [if_neg k1, if_pos k2] at hx; exact absurd hx (by simp)
        · exact ⟨0, nI 1, by simp (disch := omega) only [↓iEq0, k1, k2, if_T, if_F, ↓g_br hs]; rfl, Or.inr rfl, fun h => absurd h.2.symm n01, fun _ => rfl⟩
      · refine ⟨0, nI 1, by simp (disch := omega) only [↓iEq0, k1, k2, if_F, ↓g_pbr hs h1, ↓g_br hs]; rfl, Or.inr rfl, fun _ => ⟨fun x hx => ?_, fun _ => rfl⟩, fun h => ?_⟩
        · rw [if_neg k1, if_neg k2] at hx; exact absurd hx (by simp)
        · rcases hb with q | q
          · exact absurd ⟨rfl, q⟩ h
          · exact q.symm
end
