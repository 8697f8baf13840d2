/-! the codes of a row of clauses at work -/
def RK (n : Nat) (g : zS) (mi : Nat → Nat → Int32) (X sA ln L0 : Nat) (d : Option Int64) : Prop := ∃ L' p, EX n g mi X ln L0 L' p d ∧ L0 ≤ L' ∧ L' < ln ∧ 0 < p ∧ p ≤ 64 ∧ mi sA L' = nI 5
def RKi (n : Nat) (g : zS) (mi : Nat → Nat → Int32) (X sA ln : Nat) (x : Ci) : Prop := (∀ f, x.2.1 = some f → RK n g mi X sA ln f.1 (f.2 (mi 23))) ∧ (∀ f, x.2.2.1 = some f → RK n g mi X sA ln f.1 (f.2 (mi 23))) ∧ ∀ f, x.2.2.2.2 = some f → RK n g mi X sA ln f.1 ((f.2 (mi 23)).map tI)
section
variable {n : Nat} {g : zS} {mi : Nat → Nat → Int32} {X sA aA ln T : Nat} {o : Bool} {D V : Nat → Nat}
theorem x_w (hs : Sy g) (h : TX g mi X sA aA ln) (hT : D T = 0) {i p L j p' : Nat} {c : List (Nat × Nat)} {f : Nat × DS} (hi : i ≤ T) (hp : p ≤ 50) (hh : pW o D V i p L = .ok (j, p', c, f)) (hC : CA (mi sA) (mi aA) L c) (hl : L + c.length ≤ ln) : RK n g mi X sA ln f.1 (f.2 (mi 23)) := by
  unfold pW at hh
  cases hc : pSum o D V 8 i p with
  | error q => rw [hc] at hh; exact absurd hh (by simp)
  | ok x =>
    obtain ⟨j1, p1, c1, d1⟩ := x
    rw [hc] at hh
    obtain ⟨a1, a2, a3, a4, a5, a6⟩ := ok_sum hT 8 _ _ _ _ _ _ hi hp hc
    injection hh with hh
    obtain ⟨e1, e2, e3, e4⟩ := hh
    rw [CA_app] at hC
    simp only [List.length_append, List.length_cons, List.length_nil] at hl
    exact ⟨_, _, x_sum hs h hT 8 _ _ _ _ _ _ L hi hp hc hC.1 (by omega), by dsimp only; omega, by omega, by omega, by omega, hC.2.1.1⟩
theorem x_ti {i p : Nat} {c : List (Nat × Nat)} {kd : Nat} {f1 f2 : Option (Nat × DS)} {j p' : Nat} {c' : List (Nat × Nat)} {kd' : Nat} {f1' f2' : Option (Nat × DS)} {tm : Nat} (h : pTi D V i p c kd f1 f2 = .ok (j, p', c', kd', f1', f2', tm)) : c' = c ∧ f1' = f1 ∧ f2' = f2 := by
  unfold pTi at h
  by_cases q : D i = 29
  · rw [if_pos q] at h
    by_cases q2 : D (i + 1) = 50 ∧ 1 ≤ V (i + 1) ∧ V (i + 1) ≤ 20
    · rw [if_pos q2] at h
      injection h with h
      obtain ⟨e1, e2, e3, e4, e5, e6, e7⟩ := h
      exact ⟨rfl, rfl, rfl⟩
    · rw [if_neg q2] at h; exact absurd h (by simp)
  · rw [if_neg q] at h
    injection h with h
    obtain ⟨e1, e2, e3, e4, e5, e6, e7⟩ := h
    exact ⟨rfl, rfl, rfl⟩
theorem x_hd (hs : Sy g) (h : TX g mi X sA aA ln) (hT : D T = 0) {i p L j p' : Nat} {c : List (Nat × Nat)} {kd : Nat} {f1 f2 : Option (Nat × DS)} {tm : Nat} (hi : i ≤ T) (hp : p ≤ 50) (hh : pHd o D V i p L = .ok (j, p', c, kd, f1, f2, tm)) (hC : CA (mi sA) (mi aA) L c) (hl : L + c.length ≤ ln) : (∀ f, f1 = some f → RK n g mi X sA ln f.1 (f.2 (mi 23))) ∧ ∀ f, f2 = some f → RK n g mi X sA ln f.1 (f.2 (mi 23)) := by
  unfold pHd at hh
  cases o with
  | true =>
    rw [if_pos rfl] at hh
    unfold pHo at hh
    by_cases q1 : D i = 28
    · rw [if_pos q1] at hh
      obtain ⟨e1, e2, e3⟩ := x_ti hh
      rw [e2, e3]
      exact ⟨fun f he => absurd he (by simp), fun f he => absurd he (by simp)⟩
    · rw [if_neg q1] at hh
      by_cases q2 : D i = 20
      · rw [if_pos q2] at hh
        have := ne_T hT hi (by omega)
        cases hc : pW true D V (i + 1) p L with
        | error q => rw [hc] at hh; exact absurd hh (by simp)
        | ok x =>
          obtain ⟨j1, p1, c1, g1⟩ := x
          rw [hc] at hh
          obtain ⟨b1, b2, b3, b4, b5⟩ := ok_w hT (by omega) hp hc
          dsimp only at hh
          by_cases q3 : D j1 = 21
          · rw [if_pos q3] at hh
            have := ne_T hT b2 (by omega)
            cases hc2 : pW true D V (j1 + 1) p1 (L + c1.length) with
            | error q => rw [hc2] at hh; exact absurd hh (by simp)
            | ok x =>
              obtain ⟨j2, p2, c2, g2⟩ := x
              rw [hc2] at hh
              obtain ⟨e1, e2, e3⟩ := x_ti hh
              rw [e1, CA_app] at hC
              rw [e1] at hl
              simp only [List.length_append] at hl
              have t1 := x_w (n := n) hs h hT (by omega) hp hc hC.1 (by omega)
              have t2 := x_w (n := n) hs h hT (by omega) b4 hc2 hC.2 (by omega)
              rw [e2, e3]
              refine ⟨fun f he => ?_, fun f he => ?_⟩
              · injection he with he; rw [← he]; exact t1
              · injection he with he; rw [← he]; exact t2
          · rw [if_neg q3] at hh; exact absurd hh (by simp)
      · rw [if_neg q2] at hh
        by_cases q3 : 22 ≤ D i ∧ D i ≤ 27
        · rw [if_pos q3] at hh
          have := ne_T hT hi (by omega)
          cases hc : pW true D V (i + 1) p L with
          | error q => rw [hc] at hh; exact absurd hh (by simp)
          | ok x =>
            obtain ⟨j1, p1, c1, g1⟩ := x
            rw [hc] at hh
            obtain ⟨e1, e2, e3⟩ := x_ti hh
            rw [e1] at hC hl
            have t1 := x_w (n := n) hs h hT (by omega) hp hc hC hl
            rw [e2, e3]
            refine ⟨fun f he => ?_, fun f he => absurd he (by simp)⟩
            injection he with he; rw [← he]; exact t1
        · rw [if_neg q3] at hh; exact absurd hh (by simp)
  | false =>
    rw [if_neg (by decide)] at hh
    unfold pHl at hh
    by_cases q1 : D i = 2
    · rw [if_pos q1] at hh
      injection hh with hh
      obtain ⟨e1, e2, e3, e4, e5, e6, e7⟩ := hh
      exact ⟨fun f he => absurd he (by simp), fun f he => absurd he (by simp)⟩
    · rw [if_neg q1] at hh
      by_cases q2 : D i = 1
      · rw [if_pos q2] at hh
        have := ne_T hT hi (by omega)
        cases hc : pW false D V (i + 1) p L with
        | error q => rw [hc] at hh; exact absurd hh (by simp)
        | ok x =>
          obtain ⟨j1, p1, c1, g1⟩ := x
          rw [hc] at hh
          injection hh with hh
          obtain ⟨e1, e2, e3, e4, e5, e6, e7⟩ := hh
          have t1 := x_w (n := n) hs h hT (by omega) hp hc hC hl
          refine ⟨fun f he => ?_, fun f he => absurd he (by simp)⟩
          injection he with he; rw [← he]; exact t1
      · rw [if_neg q2] at hh; exact absurd hh (by simp)
theorem x_cl (hs : Sy g) (h : TX g mi X sA aA ln) (hT : D T = 0) {i p L j p' : Nat} {c : List (Nat × Nat)} {x : Ci} (hi : i ≤ T) (hp : p ≤ 50) (hh : pCl o D V i p L = .ok (j, p', c, x)) (hC : CA (mi sA) (mi aA) L c) (hl : L + c.length ≤ ln) : RKi n g mi X sA ln x := by
  unfold pCl at hh
  cases hc : pHd o D V i p L with
  | error q => rw [hc] at hh; exact absurd hh (by simp)
  | ok y =>
    obtain ⟨j1, p1, c1, kd, f1, f2, tm⟩ := y
    rw [hc] at hh
    obtain ⟨a1, a2, a3, a4, a5, a6, a7, a8⟩ := ok_hd hT hi hp hc
    dsimp only at hh
    by_cases q : D j1 = 3
    · rw [if_pos q] at hh
      have := ne_T hT a2 (by omega)
      cases hc2 : pTest o D V 8 (j1 + 1) p1 with
      | error q => rw [hc2] at hh; exact absurd hh (by simp)
      | ok z =>
        obtain ⟨j2, p2, k2, c2, d2⟩ := z
        rw [hc2] at hh
        obtain ⟨b1, b2, b3, b4, b5, b6, b7⟩ := ok_test hT 8 _ _ _ _ _ _ _ (by omega) a4 hc2
        injection hh with hh
        obtain ⟨e1, e2, e3, e4⟩ := hh
        rw [List.append_assoc, CA_app, CA_app, b7] at hC
        simp only [List.length_append, List.length_cons, List.length_nil, b7] at hl
        obtain ⟨t1, t2⟩ := x_hd (n := n) hs h hT hi hp hc hC.1 (by omega)
        refine ⟨t1, t2, fun f he => ?_⟩
        injection he with he
        rw [← he]
        exact ⟨_, _, x_test hs h hT 8 _ _ _ _ _ _ _ (L + c1.length) (by omega) a4 hc2 hC.2.1 (by omega), by dsimp only; omega, by omega, by omega, by omega, hC.2.2.1.1⟩
    · rw [if_neg q] at hh
      injection hh with hh
      obtain ⟨e1, e2, e3, e4⟩ := hh
      obtain ⟨t1, t2⟩ := x_hd (n := n) hs h hT hi hp hc hC (by omega)
      exact ⟨t1, t2, fun f he => absurd he (by simp)⟩
theorem x_rd (hs : Sy g) (h : TX g mi X sA aA ln) (hT : D T = 0) : ∀ (m i p L : Nat) (l : List Ci) (c : List (Nat × Nat)), i ≤ T → p ≤ 50 → pRd o D V T m i p L = .ok (l, c) → CA (mi sA) (mi aA) L c → L + c.length ≤ ln → ∀ x, x ∈ l → RKi n g mi X sA ln x
  | 0, i, p, L, l, c, _, _, hh, _, _ => absurd hh (by simp [pRd])
  | m + 1, i, p, L, l, c, hi, hp, hh, hC, hl => by
    unfold pRd at hh
    cases hc : pCl o D V i p L with
    | error q => rw [hc] at hh; exact absurd hh (by simp)
    | ok y =>
      obtain ⟨j1, p1, c1, x1⟩ := y
      rw [hc] at hh
      obtain ⟨a1, a2, a3, a4, a5⟩ := ok_cl hT hi hp hc
      dsimp only at hh
      by_cases w : j1 = T
      · rw [if_pos w] at hh
        injection hh with hh
        obtain ⟨e1, e2⟩ := hh
        intro x hx
        rw [List.mem_singleton.mp hx]
        exact x_cl hs h hT hi hp hc hC hl
      · rw [if_neg w] at hh
        by_cases w2 : D j1 = 159
        · rw [if_pos w2] at hh
          cases hr : pRd o D V T m (j1 + 1) p1 (L + c1.length) with
          | error q => rw [hr] at hh; exact absurd hh (by simp)
          | ok z =>
            obtain ⟨l3, c3⟩ := z
            rw [hr] at hh
            injection hh with hh
            obtain ⟨e1, e2⟩ := hh
            rw [CA_app] at hC
            simp only [List.length_append] at hl
            intro x hx
            rcases List.mem_cons.mp hx with y | y
            · rw [y]; exact x_cl hs h hT hi hp hc hC.1 (by omega)
            · exact x_rd hs h hT m (j1 + 1) p1 (L + c1.length) l3 c3 (by omega) a4 hr hC.2 (by omega) x y
        · rw [if_neg w2] at hh; exact absurd hh (by simp)
theorem rd_kinds (hT : D T = 0) : ∀ (m i p L : Nat) (l : List Ci) (c : List (Nat × Nat)), i ≤ T → p ≤ 50 → pRd o D V T m i p L = .ok (l, c) → (∀ x, x ∈ l → x.1 ≤ 7 ∧ 1 ≤ x.2.2.2.1 ∧ x.2.2.2.1 ≤ 20) ∧ 0 < l.length
  | 0, i, p, L, l, c, _, _, hh => absurd hh (by simp [pRd])
  | m + 1, i, p, L, l, c, hi, hp, hh => by
    unfold pRd at hh
    cases hc : pCl o D V i p L with
    | error q => rw [hc] at hh; exact absurd hh (by simp)
    | ok y =>
      obtain ⟨j1, p1, c1, x1⟩ := y
      rw [hc] at hh
      obtain ⟨a1, a2, a3, a4, a5⟩ := ok_cl hT hi hp hc
      have hx1 : x1.1 ≤ 7 ∧ 1 ≤ x1.2.2.2.1 ∧ x1.2.2.2.1 ≤ 20 := by
        unfold pCl at hc
        cases hd : pHd o D V i p L with
        | error q => rw [hd] at hc; exact absurd hc (by simp)
        | ok y =>
          obtain ⟨j2, p2, c2, kd, f1, f2, tm⟩ := y
          rw [hd] at hc
          obtain ⟨b1, b2, b3, b4, b5, b6, b7, b8⟩ := ok_hd hT hi hp hd
          dsimp only at hc
          by_cases q : D j2 = 3
          · rw [if_pos q] at hc
            cases hc2 : pTest o D V 8 (j2 + 1) p2 with
            | error q => rw [hc2] at hc; exact absurd hc (by simp)
            | ok z =>
              obtain ⟨j3, p3, k3, c3, d3⟩ := z
              rw [hc2] at hc
              injection hc with hc
              obtain ⟨e1, e2, e3, e4⟩ := hc
              exact ⟨b6, b7, b8⟩
          · rw [if_neg q] at hc
            injection hc with hc
            obtain ⟨e1, e2, e3, e4⟩ := hc
            exact ⟨b6, b7, b8⟩
      dsimp only at hh
      by_cases w : j1 = T
      · rw [if_pos w] at hh
        injection hh with hh
        obtain ⟨e1, e2⟩ := hh
        exact ⟨fun x hx => by rw [List.mem_singleton.mp hx]; exact hx1, by simp⟩
      · rw [if_neg w] at hh
        by_cases w2 : D j1 = 159
        · rw [if_pos w2] at hh
          have := ne_T hT a2 (by omega)
          cases hr : pRd o D V T m (j1 + 1) p1 (L + c1.length) with
          | error q => rw [hr] at hh; exact absurd hh (by simp)
          | ok z =>
            obtain ⟨l3, c3⟩ := z
            rw [hr] at hh
            injection hh with hh
            obtain ⟨e1, e2⟩ := hh
            obtain ⟨t1, t2⟩ := rd_kinds hT m (j1 + 1) p1 (L + c1.length) l3 c3 (by omega) a4 hr
            refine ⟨fun x hx => ?_, by simp⟩
            rcases List.mem_cons.mp hx with y | y
            · rw [y]; exact hx1
            · exact t1 x y
        · rw [if_neg w2] at hh; exact absurd hh (by simp)
end
