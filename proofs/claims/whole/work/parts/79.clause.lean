/-! clauses, read as plain functions -/
abbrev Ci : Type := Nat × Option (Nat × DS) × Option (Nat × DS) × Nat × Option (Nat × DT)
abbrev RW : Type := Except Nat (Nat × Nat × List (Nat × Nat) × (Nat × DS))
abbrev RH : Type := Except Nat (Nat × Nat × List (Nat × Nat) × Nat × Option (Nat × DS) × Option (Nat × DS) × Nat)
abbrev RC : Type := Except Nat (Nat × Nat × List (Nat × Nat) × Ci)
abbrev RR : Type := Except Nat (List Ci × List (Nat × Nat))
section
variable (o : Bool) (D V : Nat → Nat) (T : Nat)
def pW (i p L : Nat) : RW := match pSum o D V 8 i p with
  | .error q => .error q
  | .ok (j, p', c, d) => .ok (j, p', c ++ [(5, 0)], (L, d))
def pTi (i p : Nat) (c : List (Nat × Nat)) (kd : Nat) (f1 f2 : Option (Nat × DS)) : RH := if D i = 29 then (if D (i + 1) = 50 ∧ 1 ≤ V (i + 1) ∧ V (i + 1) ≤ 20 then .ok (i + 2, p, c, kd, f1, f2, V (i + 1)) else .error (i + 1)) else .ok (i, p, c, kd, f1, f2, 1)
def pHl (i p L : Nat) : RH :=
  if D i = 2 then .ok (i + 1, p, [], 1, none, none, 1)
  else if D i = 1 then match pW o D V (i + 1) p L with
    | .error q => .error q
    | .ok (j, p', c, f) => .ok (j, p', c, 0, some f, none, 1)
  else .error i
def pHo (i p L : Nat) : RH :=
  if D i = 28 then pTi D V (i + 1) p [] 7 none none
  else if D i = 20 then match pW o D V (i + 1) p L with
    | .error q => .error q
    | .ok (j, p1, c1, f1) => if D j = 21 then match pW o D V (j + 1) p1 (L + c1.length) with
        | .error q => .error q
        | .ok (j2, p2, c2, f2) => pTi D V j2 p2 (c1 ++ c2) 0 (some f1) (some f2)
      else .error j
  else if 22 ≤ D i ∧ D i ≤ 27 then match pW o D V (i + 1) p L with
    | .error q => .error q
    | .ok (j, p', c, f) => pTi D V j p' c (D i - 21) (some f) none
  else .error i
def pHd (i p L : Nat) : RH := if o = true then pHo o D V i p L else pHl o D V i p L
def pCl (i p L : Nat) : RC := match pHd o D V i p L with
  | .error q => .error q
  | .ok (j, p1, c, kd, f1, f2, tm) => if D j = 3 then match pTest o D V 8 (j + 1) p1 with
      | .error q => .error q
      | .ok (j2, p2, _, c2, d) => .ok (j2, p2, c ++ c2 (L + c.length) ++ [(5, 0)], (kd, f1, f2, tm, some (L + c.length, d)))
    else .ok (j, p1, c, (kd, f1, f2, tm, none))
def pRd : Nat → Nat → Nat → Nat → RR
  | 0, i, _, _ => .error i
  | m + 1, i, p, L => match pCl o D V i p L with
    | .error q => .error q
    | .ok (j, p', c, x) => if j = T then .ok ([x], c) else if D j = 159 then match pRd m (j + 1) p' (L + c.length) with
        | .error q => .error q
        | .ok (l, c2) => .ok (x :: l, c ++ c2)
      else .error j
end
section
variable {o : Bool} {D V : Nat → Nat} {T : Nat}
theorem ne_T (hT : D T = 0) {k : Nat} (h1 : k ≤ T) (h2 : D k ≠ 0) : k < T := by
  rcases Nat.lt_or_eq_of_le h1 with q | q
  · exact q
  · exact absurd (by rw [q]; exact hT) h2
theorem ok_w (hT : D T = 0) {i p L j p' : Nat} {c : List (Nat × Nat)} {f : Nat × DS} (hi : i ≤ T) (hp : p ≤ 50) (h : pW o D V i p L = .ok (j, p', c, f)) : i < j ∧ j ≤ T ∧ p < p' ∧ p' ≤ 50 ∧ c.length ≤ j - i + 1 := by
  unfold pW at h
  cases hc : pSum o D V 8 i p with
  | error q => rw [hc] at h; exact absurd h (by simp)
  | ok x =>
    obtain ⟨j1, p1, c1, d1⟩ := x
    rw [hc] at h
    obtain ⟨a1, a2, a3, a4, a5, a6⟩ := ok_sum hT 8 _ _ _ _ _ _ hi hp hc
    injection h with h
    obtain ⟨e1, e2, e3, e4⟩ := h
    exact ⟨a1, a2, a3, a4, by simp; omega⟩
theorem ok_ti (hT : D T = 0) {i p i0 : Nat} {c : List (Nat × Nat)} {kd : Nat} {f1 f2 : Option (Nat × DS)} {j p' : Nat} {c' : List (Nat × Nat)} {kd' : Nat} {f1' f2' : Option (Nat × DS)} {tm : Nat} (hi : i ≤ T) (h0 : i0 < i) (hc : c.length ≤ i - i0) (h : pTi D V i p c kd f1 f2 = .ok (j, p', c', kd', f1', f2', tm)) : (i0 < j ∧ j ≤ T ∧ p = p' ∧ c'.length ≤ j - i0) ∧ (c' = c ∧ kd' = kd ∧ f1' = f1 ∧ f2' = f2 ∧ 1 ≤ tm ∧ tm ≤ 20) := by
  unfold pTi at h
  by_cases q : D i = 29
  · rw [if_pos q] at h
    have := ne_T hT hi (by omega)
    by_cases q2 : D (i + 1) = 50 ∧ 1 ≤ V (i + 1) ∧ V (i + 1) ≤ 20
    · rw [if_pos q2] at h
      have := ne_T hT (k := i + 1) (by omega) (by omega)
      injection h with h
      obtain ⟨e1, e2, e3, e4, e5, e6, e7⟩ := h
      exact ⟨⟨by omega, by omega, rfl, by omega⟩, rfl, rfl, rfl, rfl, q2.2.1, q2.2.2⟩
    · rw [if_neg q2] at h; exact absurd h (by simp)
  · rw [if_neg q] at h
    injection h with h
    obtain ⟨e1, e2, e3, e4, e5, e6, e7⟩ := h
    exact ⟨⟨by omega, by omega, rfl, by omega⟩, rfl, rfl, rfl, rfl, by decide, by decide⟩
theorem ok_hd (hT : D T = 0) {i p L j p' : Nat} {c : List (Nat × Nat)} {kd : Nat} {f1 f2 : Option (Nat × DS)} {tm : Nat} (hi : i ≤ T) (hp : p ≤ 50) (h : pHd o D V i p L = .ok (j, p', c, kd, f1, f2, tm)) : i < j ∧ j ≤ T ∧ p ≤ p' ∧ p' ≤ 50 ∧ c.length ≤ j - i ∧ kd ≤ 7 ∧ 1 ≤ tm ∧ tm ≤ 20 := by
  unfold pHd at h
  cases o with
  | true =>
    rw [if_pos rfl] at h
    unfold pHo at h
    by_cases q1 : D i = 28
    · rw [if_pos q1] at h
      have := ne_T hT hi (by omega)
      obtain ⟨⟨a1, a2, a3, a4⟩, a5, a6, a7, a8, a9, a10⟩ := ok_ti hT (i0 := i) (by omega) (by omega) (by simp) h
      exact ⟨a1, a2, by omega, by omega, a4, by omega, a9, a10⟩
    · rw [if_neg q1] at h
      by_cases q2 : D i = 20
      · rw [if_pos q2] at h
        have := ne_T hT hi (by omega)
        cases hc : pW true D V (i + 1) p L with
        | error q => rw [hc] at h; exact absurd h (by simp)
        | ok x =>
          obtain ⟨j1, p1, c1, f1⟩ := x
          rw [hc] at h
          obtain ⟨b1, b2, b3, b4, b5⟩ := ok_w hT (by omega) hp hc
          dsimp only at h
          by_cases q3 : D j1 = 21
          · rw [if_pos q3] at h
            have := ne_T hT b2 (by omega)
            cases hc2 : pW true D V (j1 + 1) p1 (L + c1.length) with
            | error q => rw [hc2] at h; exact absurd h (by simp)
            | ok x =>
              obtain ⟨j2, p2, c2, f2⟩ := x
              rw [hc2] at h
              obtain ⟨d1, d2, d3, d4, d5⟩ := ok_w hT (by omega) b4 hc2
              obtain ⟨⟨a1, a2, a3, a4⟩, a5, a6, a7, a8, a9, a10⟩ := ok_ti hT (i0 := i) d2 (by omega) (by simp; omega) h
              exact ⟨a1, a2, by omega, by omega, a4, by omega, a9, a10⟩
          · rw [if_neg q3] at h; exact absurd h (by simp)
      · rw [if_neg q2] at h
        by_cases q3 : 22 ≤ D i ∧ D i ≤ 27
        · rw [if_pos q3] at h
          have := ne_T hT hi (by omega)
          cases hc : pW true D V (i + 1) p L with
          | error q => rw [hc] at h; exact absurd h (by simp)
          | ok x =>
            obtain ⟨j1, p1, c1, f1⟩ := x
            rw [hc] at h
            obtain ⟨b1, b2, b3, b4, b5⟩ := ok_w hT (by omega) hp hc
            obtain ⟨⟨a1, a2, a3, a4⟩, a5, a6, a7, a8, a9, a10⟩ := ok_ti hT (i0 := i) b2 (by omega) (by omega) h
            exact ⟨a1, a2, by omega, by omega, a4, by omega, a9, a10⟩
        · rw [if_neg q3] at h; exact absurd h (by simp)
  | false =>
    rw [if_neg (by decide)] at h
    unfold pHl at h
    by_cases q1 : D i = 2
    · rw [if_pos q1] at h
      have := ne_T hT hi (by omega)
      injection h with h
      obtain ⟨e1, e2, e3, e4, e5, e6, e7⟩ := h
      exact ⟨by omega, by omega, by omega, by omega, by simp, by decide, by decide, by decide⟩
    · rw [if_neg q1] at h
      by_cases q2 : D i = 1
      · rw [if_pos q2] at h
        have := ne_T hT hi (by omega)
        cases hc : pW false D V (i + 1) p L with
        | error q => rw [hc] at h; exact absurd h (by simp)
        | ok x =>
          obtain ⟨j1, p1, c1, f1⟩ := x
          rw [hc] at h
          obtain ⟨b1, b2, b3, b4, b5⟩ := ok_w hT (by omega) hp hc
          injection h with h
          obtain ⟨e1, e2, e3, e4, e5, e6, e7⟩ := h
          exact ⟨by omega, by omega, by omega, by omega, by omega, by decide, by decide, by decide⟩
      · rw [if_neg q2] at h; exact absurd h (by simp)
theorem ok_cl (hT : D T = 0) {i p L j p' : Nat} {c : List (Nat × Nat)} {x : Ci} (hi : i ≤ T) (hp : p ≤ 50) (h : pCl o D V i p L = .ok (j, p', c, x)) : i < j ∧ j ≤ T ∧ p ≤ p' ∧ p' ≤ 50 ∧ c.length ≤ j - i := by
  unfold pCl at h
  cases hc : pHd o D V i p L with
  | error q => rw [hc] at h; exact absurd h (by simp)
  | ok y =>
    obtain ⟨j1, p1, c1, kd, f1, f2, tm⟩ := y
    rw [hc] at h
    obtain ⟨a1, a2, a3, a4, a5, a6, a7, a8⟩ := ok_hd hT hi hp hc
    dsimp only at h
    by_cases q : D j1 = 3
    · rw [if_pos q] at h
      have := ne_T hT a2 (by omega)
      cases hc2 : pTest o D V 8 (j1 + 1) p1 with
      | error q => rw [hc2] at h; exact absurd h (by simp)
      | ok z =>
        obtain ⟨j2, p2, k2, c2, d2⟩ := z
        rw [hc2] at h
        obtain ⟨b1, b2, b3, b4, b5, b6, b7⟩ := ok_test hT 8 _ _ _ _ _ _ _ (by omega) a4 hc2
        injection h with h
        obtain ⟨e1, e2, e3, e4⟩ := h
        exact ⟨by omega, by omega, by omega, by omega, by simp [b7]; omega⟩
    · rw [if_neg q] at h
      injection h with h
      obtain ⟨e1, e2, e3, e4⟩ := h
      exact ⟨a1, a2, a3, a4, a5⟩
end
