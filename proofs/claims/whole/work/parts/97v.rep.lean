/-! orders: what a clause holds; the Java side runs its sums -/
section
variable {D V : Nat → Nat} {T : Nat}
theorem ti_f {i p : Nat} {c : List (Nat × Nat)} {kd : Nat} {f1 f2 : Option (Nat × DS)} {j p' : Nat} {c' : List (Nat × Nat)} {kd' : Nat} {f1' f2' : Option (Nat × DS)} {tm : Nat} (h : pTi D V i p c kd f1 f2 = .ok (j, p', c', kd', f1', f2', tm)) : kd' = kd ∧ f1' = f1 ∧ f2' = f2 := by
  unfold pTi at h
  by_cases q : D i = 29
  · rw [if_pos q] at h
    by_cases q2 : D (i + 1) = 50 ∧ 1 ≤ V (i + 1) ∧ V (i + 1) ≤ 20
    · rw [if_pos q2] at h
      cases h
      exact ⟨rfl, rfl, rfl⟩
    · rw [if_neg q2] at h; exact absurd h (by simp)
  · rw [if_neg q] at h
    cases h
    exact ⟨rfl, rfl, rfl⟩
def BDf (f : Nat × DS) : Prop := ∀ e y, f.2 e = some y → BD y
theorem w_bd {i p L j p' : Nat} {c : List (Nat × Nat)} {f : Nat × DS} (h : pW true D V i p L = .ok (j, p', c, f)) : BDf f := by
  obtain ⟨c', hc⟩ := pW_s h
  exact bd_sum 8 _ _ _ _ _ _ hc
theorem hd_f {i p L j p' : Nat} {c : List (Nat × Nat)} {kd : Nat} {f1 f2 : Option (Nat × DS)} {tm : Nat} (hh : pHd true D V i p L = .ok (j, p', c, kd, f1, f2, tm)) : ((∀ f, f1 = some f → BDf f) ∧ ∀ f, f2 = some f → BDf f) ∧ (kd < 7 → ∃ f, f1 = some f) ∧ (kd = 0 → ∃ f, f2 = some f) := by
  unfold pHd at hh
  rw [if_pos rfl] at hh
  unfold pHo at hh
  by_cases q28 : D i = 28
  · rw [if_pos q28] at hh
    obtain ⟨e1, e2, e3⟩ := ti_f hh
    subst e1 e2 e3
    exact ⟨⟨fun f h => absurd h (by simp), fun f h => absurd h (by simp)⟩, fun h => absurd h (by decide), fun h => absurd h (by decide)⟩
  · rw [if_neg q28] at hh
    by_cases q20 : D i = 20
    · rw [if_pos q20] at hh
      cases hc : pW true D V (i + 1) p L with
      | error q => rw [hc] at hh; exact absurd hh (by simp)
      | ok y =>
        obtain ⟨ja, pa, ca, fa⟩ := y
        rw [hc] at hh
        dsimp only at hh
        by_cases q21 : D ja = 21
        · rw [if_pos q21] at hh
          cases hc2 : pW true D V (ja + 1) pa (L + ca.length) with
          | error q => rw [hc2] at hh; exact absurd hh (by simp)
          | ok y =>
            obtain ⟨jb, pb, cb, fb⟩ := y
            rw [hc2] at hh
            dsimp only at hh
            obtain ⟨e1, e2, e3⟩ := ti_f hh
            subst e1 e2 e3
            exact ⟨⟨fun f h => by cases h; exact w_bd hc, fun f h => by cases h; exact w_bd hc2⟩, fun _ => ⟨_, rfl⟩, fun _ => ⟨_, rfl⟩⟩
        · rw [if_neg q21] at hh; exact absurd hh (by simp)
    · rw [if_neg q20] at hh
      by_cases q22 : 22 ≤ D i ∧ D i ≤ 27
      · rw [if_pos q22] at hh
        cases hc : pW true D V (i + 1) p L with
        | error q => rw [hc] at hh; exact absurd hh (by simp)
        | ok y =>
          obtain ⟨ja, pa, ca, fa⟩ := y
          rw [hc] at hh
          dsimp only at hh
          obtain ⟨e1, e2, e3⟩ := ti_f hh
          subst e1 e2 e3
          exact ⟨⟨fun f h => by cases h; exact w_bd hc, fun f h => absurd h (by simp)⟩, fun _ => ⟨_, rfl⟩, fun h => absurd h (by omega)⟩
      · rw [if_neg q22] at hh; exact absurd hh (by simp)
/-- a clause, taken apart -/
theorem cl_f (hT : D T = 0) {i p L j p' : Nat} {c : List (Nat × Nat)} {x : Ci} (hi : i ≤ T) (hp : p ≤ 50) (hc : pCl true D V i p L = .ok (j, p', c, x)) : ∃ j1 p1 c1, pHd true D V i p L = .ok (j1, p1, c1, x.1, x.2.1, x.2.2.1, x.2.2.2.1) ∧ p1 ≤ 50 ∧ ((D j1 = 3 ∧ ∃ p2 k2 c2 L d, pTest true D V 8 (j1 + 1) p1 = .ok (j, p2, k2, c2, d) ∧ x.2.2.2.2 = some (L, d)) ∨ (D j1 ≠ 3 ∧ j = j1 ∧ x.2.2.2.2 = none)) := by
  unfold pCl at hc
  cases hd : pHd true D V i p L with
  | error q => rw [hd] at hc; exact absurd hc (by simp)
  | ok y =>
    obtain ⟨j1, p1, c1, kd, f1, f2, tm⟩ := y
    rw [hd] at hc
    obtain ⟨b1, b2, b3, b4, b5, b6, b7, b8⟩ := ok_hd hT hi hp hd
    dsimp only at hc
    by_cases q : D j1 = 3
    · rw [if_pos q] at hc
      cases hc2 : pTest true D V 8 (j1 + 1) p1 with
      | error q => rw [hc2] at hc; exact absurd hc (by simp)
      | ok z =>
        obtain ⟨j3, p3, k3, c3, d3⟩ := z
        rw [hc2] at hc
        cases hc
        exact ⟨j1, p1, c1, rfl, b4, Or.inl ⟨q, _, _, _, _, _, hc2, rfl⟩⟩
    · rw [if_neg q] at hc
      cases hc
      exact ⟨_, _, _, rfl, b4, Or.inr ⟨q, rfl, rfl⟩⟩
end
section
variable {g : zS} {mi : Nat → Nat → Int32} {ml : Nat → Nat → Int64} {n X sA aA ln : Nat}
theorem run_o (hs : Sy g) (hn : 3000 < n) (hx : TX g mi X sA aA ln) {q : Option (Nat × DS)} (hr : ∀ f, q = some f → RK n g mi X sA ln f.1 (f.2 (mi 23))) : ∃ ml', (sOk (mi 23) q = true ∧ f_X4_runs n 22 X (oL q) (g, mi, ml) = some (nI 1, (g, mi, ml')) ∧ ∀ f, q = some f → f.2 (mi 23) = some (ml' 22 2)) ∨ (sOk (mi 23) q = false ∧ f_X4_runs n 22 X (oL q) (g, mi, ml) = some (nI 0, (g, mi, ml'))) := by
  cases hq : q with
  | none => exact ⟨_, Or.inl ⟨rfl, c_runs0 hs, fun f h => absurd h (by simp)⟩⟩
  | some f =>
    obtain ⟨r1, r2⟩ := c_rs (ml := ml) hs hn hx (hr f hq)
    unfold sOk
    dsimp only
    cases hd : f.2 (mi 23) with
    | none =>
      obtain ⟨ml', e⟩ := r2 hd
      exact ⟨ml', Or.inr ⟨rfl, e⟩⟩
    | some y =>
      obtain ⟨ml', e, e2⟩ := r1 y hd
      refine ⟨ml', Or.inl ⟨rfl, e, fun f' hf => ?_⟩⟩
      cases hf
      rw [hd, e2]
end
