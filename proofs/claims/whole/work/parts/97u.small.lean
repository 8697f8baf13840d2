/-! orders: sums as arguments -/
def BD (y : Int64) : Prop := -2147483648 ≤ y.toInt ∧ y.toInt ≤ 2147483647
def BdS (sub : Nat → Nat → RS) : Prop := ∀ i p j p' c d, sub i p = .ok (j, p', c, d) → ∀ e y, d e = some y → BD y
theorem bd_bnd {x y : Int64} (h : bnd x = some y) : BD y := by
  have e1 : (1000000000 : Int64).toInt = 1000000000 := by decide +kernel
  have e2 : (-1000000000 : Int64).toInt = -1000000000 := by decide +kernel
  unfold bnd at h
  by_cases q1 : 0 < lg_cmp x 1000000000
  · rw [if_pos q1] at h; exact absurd h (by simp)
  · rw [if_neg q1] at h
    by_cases q2 : 0 ≤ lg_cmp x (-1000000000)
    · rw [if_pos q2] at h
      cases h
      rw [lg_cmp_gt, Int64.lt_iff_toInt_lt, e1] at q1
      rw [lg_cmp_ge, Int64.le_iff_toInt_le, e2] at q2
      exact ⟨by omega, by omega⟩
    · rw [if_neg q2] at h; exact absurd h (by simp)
theorem bd_bop {s : Nat} {a b y : Int64} (h : bop s a b = some y) : BD y := by
  unfold bop at h
  by_cases q1 : s = 43
  · rw [if_pos q1] at h; exact bd_bnd h
  · rw [if_neg q1] at h
    by_cases q2 : s = 45
    · rw [if_pos q2] at h; exact bd_bnd h
    · rw [if_neg q2] at h
      by_cases q3 : s = 42
      · rw [if_pos q3] at h; exact bd_bnd h
      · rw [if_neg q3] at h
        by_cases q4 : b = 0
        · rw [if_pos q4] at h; exact absurd h (by simp)
        · rw [if_neg q4] at h
          by_cases q5 : s = 47
          · rw [if_pos q5] at h; exact bd_bnd h
          · rw [if_neg q5] at h; exact bd_bnd h
theorem bd_i (x : Int32) : BD x.toInt64 := by
  unfold BD
  rw [Int32.toInt_toInt64]
  have h1 := x.le_toInt
  have h2 := x.toInt_lt
  exact ⟨by omega, by omega⟩
section
variable {o : Bool} {D V : Nat → Nat}
theorem bd_part {sub : Nat → Nat → RS} (hs : BdS sub) : BdS (pPart o D V sub) := by
  intro i p j p' c d h e y hy
  unfold pPart at h
  by_cases q1 : D i = 191
  · rw [if_pos q1] at h
    cases hc : sub (i + 1) p with
    | error q => rw [hc] at h; exact absurd h (by simp)
    | ok x =>
      obtain ⟨j1, p1, c1, d1⟩ := x
      rw [hc] at h
      dsimp only at h
      by_cases q2 : D j1 = 193
      · rw [if_pos q2] at h
        cases h
        exact hs _ _ _ _ _ _ hc e y hy
      · rw [if_neg q2] at h; exact absurd h (by simp)
  · rw [if_neg q1] at h
    by_cases q2 : 50 ≤ p
    · rw [if_pos q2] at h; exact absurd h (by simp)
    · rw [if_neg q2] at h
      by_cases q3 : isWd o (D i) = true
      · rw [if_pos q3] at h
        cases h
        cases hy
        exact bd_i _
      · rw [if_neg q3] at h
        by_cases q4 : o = true ∧ D i = 18
        · rw [if_pos q4] at h
          by_cases q5 : D (i + 1) = 50 ∧ V (i + 1) ≤ 7
          · rw [if_pos q5] at h
            cases h
            cases hy
            exact bd_i _
          · rw [if_neg q5] at h; exact absurd h (by simp)
        · rw [if_neg q4] at h
          by_cases q6 : o = true ∧ D i = 19
          · rw [if_pos q6] at h
            by_cases q5 : D (i + 1) = 50 ∧ V (i + 1) ≤ 99
            · rw [if_pos q5] at h
              cases h
              cases hy
              exact bd_i _
            · rw [if_neg q5] at h; exact absurd h (by simp)
          · rw [if_neg q6] at h
            by_cases q7 : D i = 50 ∧ V i ≤ 1000
            · rw [if_pos q7] at h
              cases h
              cases hy
              exact bd_i _
            · rw [if_neg q7] at h; exact absurd h (by simp)
theorem bd_lp {sub : Nat → Nat → RS} {op : Nat → Bool} : ∀ (f i p : Nat) (c : List (Nat × Nat)) (d : DS) (j p' : Nat) (c' : List (Nat × Nat)) (d' : DS), (∀ e y, d e = some y → BD y) → pLp D sub op f (i, p, c, d) = .ok (j, p', c', d') → ∀ e y, d' e = some y → BD y
  | 0, i, p, c, d, j, p', c', d', hd, h => by
    have h : (Except.ok (i, p, c, d) : RS) = .ok (j, p', c', d') := h
    cases h
    exact hd
  | f + 1, i, p, c, d, j, p', c', d', hd, h => by
    unfold pLp at h
    by_cases q : op (D i) = true
    · rw [if_pos q] at h
      cases hc : sub (i + 1) p with
      | error q => rw [hc] at h; exact absurd h (by simp)
      | ok x =>
        obtain ⟨j1, p1, c1, d1⟩ := x
        rw [hc] at h
        refine bd_lp f j1 p1 _ _ j p' c' d' (fun e y hy => ?_) h
        rw [bin_o] at hy
        unfold o2 at hy
        cases h1 : d e with
        | none => rw [h1] at hy; exact absurd hy (by simp)
        | some a =>
          rw [h1] at hy
          cases h2 : d1 e with
          | none => rw [h2] at hy; exact absurd hy (by simp)
          | some b =>
            rw [h2] at hy
            exact bd_bop hy
    · rw [if_neg q] at h
      cases h
      exact hd
theorem bd_ch {sub : Nat → Nat → RS} (hs : BdS sub) {op : Nat → Bool} : BdS (pCh D sub op) := by
  intro i p j p' c d h
  unfold pCh at h
  cases hc : sub i p with
  | error q => rw [hc] at h; exact absurd h (by simp)
  | ok x =>
    obtain ⟨j1, p1, c1, d1⟩ := x
    rw [hc] at h
    exact bd_lp 401 j1 p1 c1 d1 j p' c d (hs _ _ _ _ _ _ hc) h
theorem bd_sum : ∀ r, BdS (pSum o D V r)
  | 0 => bd_ch (bd_ch (bd_part (fun _ _ _ _ _ _ h => absurd h (by simp))))
  | r + 1 => bd_ch (bd_ch (bd_part (bd_sum r)))
end
/-- what the plain form makes of a sum -/
def sml (y : Int64) : Int32 := if lg_cmp y 0 < 0 then m1 else if lg_cmp y 1000000 ≤ 0 then Int64.toInt32 y else m1
theorem r_small {n : Nat} {y : Int64} {h : zH} : f_X12_small n y h = some (sml y, h) := by
  unfold f_X12_small sml
  simp only [li, ng1]
  by_cases q1 : lg_cmp y 0 < nI 0
  · rw [iP q1, iP q1]
  · rw [iN q1, iN q1]
    by_cases q2 : lg_cmp y 1000000 ≤ nI 0
    · rw [iP q2, iP q2]
    · rw [iN q2, iN q2]
def bad (z : Int32) : Prop := z < 0 ∨ nI 1000001 ≤ z
def sa (a a' : Int32) : Prop := a' = a ∨ (a' = m1 ∧ bad a)
theorem sa_y {y : Int64} (h : BD y) : sa (Int64.toInt32 y) (sml y) := by
  have e0 : (0 : Int64).toInt = 0 := by decide +kernel
  have e1 : (1000000 : Int64).toInt = 1000000 := by decide +kernel
  have et : (Int64.toInt32 y).toInt = y.toInt := by
    rw [Int64.toInt_toInt32]
    exact Int.bmod_eq_of_le (by simp only [Nat.reducePow]; have := h.1; omega) (by simp only [Nat.reducePow]; have := h.2; omega)
  unfold sml
  by_cases q1 : lg_cmp y 0 < 0
  · rw [if_pos q1]
    rw [lg_cmp_lt, Int64.lt_iff_toInt_lt, e0] at q1
    exact Or.inr ⟨rfl, Or.inl (by rw [Int32.lt_iff_toInt_lt, et]; exact q1)⟩
  · rw [if_neg q1]
    by_cases q2 : lg_cmp y 1000000 ≤ 0
    · rw [if_pos q2]; exact Or.inl rfl
    · rw [if_neg q2]
      rw [lg_cmp_le, Int64.le_iff_toInt_le, e1] at q2
      exact Or.inr ⟨rfl, Or.inr (by rw [Int32.le_iff_toInt_le, et, nI_toInt (by omega)]; omega)⟩
section
variable {n : Nat} {h : zH} {z : Int32}
theorem bad_g {N : Nat} (hN : N < 1000000) (hz : bad z) : z < 0 ∨ nI (N + 1) ≤ z := hz.imp id (fun q => by
  rw [Int32.le_iff_toInt_le, nI_toInt (by omega)] at q ⊢
  omega)
theorem bad_l {N : Nat} (hN : N < 1000000) (hz : bad z) : f_X12_lies n z (nI 0) (nI N) h = some (nI 0, h) := by
  rcases bad_g hN hz with q | q
  · exact r_lies0 q
  · exact r_lies1 (by omega) q
theorem bad_key (hz : bad z) : f_X12_isKey n z h = some (nI 0, h) := by
  unfold f_X12_isKey
  simp only [li]
  rw [bad_l (by decide) hz, zb_s, zrZ0]
theorem bad_pr (hz : bad z) : f_X12_isProcessor n z h = some (nI 0, h) := by
  rcases bad_g (N := 7) (by decide) hz with q | q
  · exact r_isP0 q
  · exact r_isP1 q
theorem bad_m1 : bad m1 := Or.inl (by decide)
theorem acts_bad {k : Nat} (hk : k < 7) (hz : bad z) (b : Int32) {g : zS} {mi : Nat → Nat → Int32} {ml : Nat → Nat → Int64} (hs : Sy g) : f_X12_acts n 422 (nI k) z b (g, mi, ml) = some (m1, (g, mi, ml)) := by
  have : k = 0 ∨ k = 1 ∨ k = 2 ∨ k = 3 ∨ k = 4 ∨ k = 5 ∨ k = 6 := by omega
  rcases this with e | e | e | e | e | e | e <;> subst e
  · refine (ck_id hs _).trans ?_
    unfold f_X12_puts
    simp only [li, ng1]
    rw [bad_key hz, zb_s, iP rfl]
  · refine (ck_id hs _).trans ?_
    unfold f_X12_drops
    simp only [li, ng1]
    rw [bad_key hz, zb_s, iP rfl]
  · refine (ck_id hs _).trans ?_
    unfold f_X12_enters
    simp only [li, ng1]
    rw [bad_pr hz, zb_s, iP rfl]
  · refine (ck_id hs _).trans ?_
    unfold f_X12_steps
    simp only [li, ng1]
    rw [bad_pr hz, zb_s, iP rfl]
  · refine (ck_id hs _).trans ?_
    unfold f_X12_parks
    simp only [li, ng1]
    rw [bad_pr hz, zb_s, iP rfl]
  · refine (ck_id hs _).trans ?_
    unfold f_X12_leaves0
    simp only [li, ng1]
    rw [bad_pr hz, zb_s, iP rfl]
  · refine (ck_id hs _).trans ?_
    unfold f_X12_ticks
    simp only [li, ng1]
    rw [bad_pr hz, zb_s, iP rfl]
theorem puts_bad {a b : Int32} {g : zS} {mi : Nat → Nat → Int32} {ml : Nat → Nat → Int64} (hs : Sy g) (hb : bad b) : f_X12_acts n 422 (nI 0) a b (g, mi, ml) = some (m1, (g, mi, ml)) := by
  refine (ck_id hs _).trans ?_
  rcases pk_ix a (n := 100) (by decide) with ha | ha | ⟨k, hk, ha⟩
  · unfold f_X12_puts f_X12_isKey
    simp only [li, ng1]
    rw [r_lies0 ha, zb_s, zrZ0, zb_s, iP rfl]
  · unfold f_X12_puts f_X12_isKey
    simp only [li, ng1]
    rw [r_lies1 (N := 99) (by decide) ha, zb_s, zrZ0, zb_s, iP rfl]
  · subst ha
    unfold f_X12_puts f_X12_isKey
    simp only [li, ng1]
    rw [r_lies2 (by decide) (by omega), zb_s, zrZ1, zb_s, iN n01.symm, bad_l (by decide) hb, zb_s, iP rfl]
theorem acts_7 (a b a' b' : Int32) (h : zH) : f_X12_acts n 422 (nI 7) a b h = f_X12_acts n 422 (nI 7) a' b' h := by
  have w : ∀ y z, f_X12_acts n 422 (nI 7) y z h = zck h 13 422 (zb (f_X12_beginsOr n 422 h) fun r h => some (r, h)) := fun y z => rfl
  rw [w, w]
theorem acts_sm {k : Nat} {a a' b b' : Int32} {g : zS} {mi : Nat → Nat → Int32} {ml : Nat → Nat → Int64} (hs : Sy g) (hk : k < 8) (ha : k < 7 → sa a a') (hb : k = 0 → sa b b') : f_X12_acts n 422 (nI k) a' b' (g, mi, ml) = f_X12_acts n 422 (nI k) a b (g, mi, ml) := by
  by_cases q7 : k = 7
  · subst q7; exact acts_7 _ _ _ _ _
  rcases ha (by omega) with e | ⟨e, e2⟩
  · subst e
    by_cases q0 : k = 0
    · subst q0
      rcases hb rfl with e | ⟨e, e2⟩
      · rw [e]
      · rw [e, puts_bad hs bad_m1, puts_bad hs e2]
    · exact acts_b (by omega) hk _ _ _ _
  · rw [e, acts_bad (by omega) bad_m1 _ hs, acts_bad (by omega) e2 _ hs]
end
