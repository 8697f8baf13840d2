/-! the Java side's machine at work on a code -/
def CA (S A : Nat → Int32) : Nat → List (Nat × Nat) → Prop
  | _, [] => True
  | L, x :: c => (S L = nI x.1 ∧ A L = nI x.2) ∧ CA S A (L + 1) c
theorem CA_app {S A : Nat → Int32} : ∀ {c1 c2 : List (Nat × Nat)} {L : Nat}, CA S A L (c1 ++ c2) ↔ CA S A L c1 ∧ CA S A (L + c1.length) c2
  | [], c2, L => by simp [CA]
  | x :: c1, c2, L => by
    have e : L + (x :: c1).length = L + 1 + c1.length := by simp; omega
    rw [e, List.cons_append]
    show ((S L = nI x.1 ∧ A L = nI x.2) ∧ CA S A (L + 1) (c1 ++ c2)) ↔ ((S L = nI x.1 ∧ A L = nI x.2) ∧ CA S A (L + 1) c1) ∧ CA S A (L + 1 + c1.length) c2
    rw [CA_app]
    exact and_assoc.symm
theorem CA_cong {S A S' A' : Nat → Int32} : ∀ {c : List (Nat × Nat)} {L : Nat}, CA S A L c → (∀ k, L ≤ k → k < L + c.length → S' k = S k ∧ A' k = A k) → CA S' A' L c
  | [], _, _, _ => trivial
  | x :: c, L, h, e => by
    have e0 := e L (by omega) (by simp)
    exact ⟨by rw [e0.1, e0.2]; exact h.1, CA_cong h.2 (fun k h1 h2 => e k (by omega) (by simp; omega))⟩
def TX (g : zS) (mi : Nat → Nat → Int32) (X sA aA ln : Nat) : Prop := (g.1 X = 9 ∧ g.2.2.1 X 0 = sA ∧ sA ≠ 0 ∧ g.2.2.1 X 1 = aA ∧ aA ≠ 0) ∧ (g.1 sA = 21 ∧ g.1 aA = 21 ∧ (ln ≤ g.2.1 sA ∧ g.2.1 sA < 2147483648) ∧ (ln ≤ g.2.1 aA ∧ g.2.1 aA < 2147483648)) ∧ mi X 3 = nI ln ∧ ln ≤ 400
def Xm (ml ml' : Nat → Nat → Int64) (t : Nat) : Prop := (∀ k, k < t → ml' 24 k = ml 24 k) ∧ ∀ a, a ≠ 24 → a ≠ 22 → ml' a = ml a
theorem Xm_t {ml ml' ml'' : Nat → Nat → Int64} {t : Nat} (h1 : Xm ml ml' t) (h2 : Xm ml' ml'' t) : Xm ml ml'' t := ⟨fun k hk => (h2.1 k hk).trans (h1.1 k hk), fun a h3 h4 => (h2.2 a h3 h4).trans (h1.2 a h3 h4)⟩
theorem Xm_w {ml ml' : Nat → Nat → Int64} {t t' : Nat} (h : Xm ml ml' t) (ht : t' ≤ t) : Xm ml ml' t' := ⟨fun k hk => h.1 k (by omega), h.2⟩
theorem zul_s {ml : Nat → Nat → Int64} {a k : Nat} {x : Int64} : zu ml a k x a k = x := by
  rw [u_zu]; unfold zrw; rw [if_pos rfl, if_pos rfl]
theorem zul_k {ml : Nat → Nat → Int64} {a k j : Nat} {x : Int64} (h : j ≠ k) : zu ml a k x a j = ml a j := by
  rw [u_zu]; unfold zrw; rw [if_pos rfl, if_neg h]
theorem zul_a {ml : Nat → Nat → Int64} {a b k : Nat} {x : Int64} (h : b ≠ a) : zu ml a k x b = ml b := by
  rw [u_zu]; unfold zrw; rw [if_neg h]
theorem Xm_s {ml : Nat → Nat → Int64} {t k : Nat} {x : Int64} (h : t ≤ k) : Xm ml (zu ml 24 k x) t := ⟨fun j hj => zul_k (by omega), fun a h1 _ => zul_a h1⟩
theorem Xm_r {ml : Nat → Nat → Int64} {t k : Nat} {x : Int64} : Xm ml (zu ml 22 k x) t := ⟨fun j _ => by rw [zul_a (by decide)], fun a _ h2 => zul_a h2⟩
theorem Xm_0 {ml : Nat → Nat → Int64} {t : Nat} : Xm ml ml t := ⟨fun _ _ => rfl, fun _ _ _ => rfl⟩
def tI (b : Bool) : Int64 := if b then 1 else 0
def EX (n : Nat) (g : zS) (mi : Nat → Nat → Int32) (X ln L L' p : Nat) (d : Option Int64) : Prop := ∀ (ml : Nat → Nat → Int64) (t dn : Nat), t + p ≤ 64 → dn + (L' - L) ≤ ln → (∀ x, d = some x → ∃ e ml', e ≤ L' - L ∧ ml' 24 t = x ∧ Xm ml ml' t ∧ ∀ f, zlp5 (fb_X4_runs_20 n) (f + e) 22 X (nI t) (nI L) (nI dn) (g, mi, ml) = zlp5 (fb_X4_runs_20 n) f 22 X (nI (t + 1)) (nI L') (nI (dn + e)) (g, mi, ml')) ∧ (d = none → ∃ e ml', e ≤ L' - L ∧ Xm ml ml' t ∧ ∀ f, zlp5 (fb_X4_runs_20 n) (f + e) 22 X (nI t) (nI L) (nI dn) (g, mi, ml) = some (nI 0, (g, mi, ml')))
theorem cmp0 (x : Int64) : (lg_cmp x 0 = nI 0) = (x = 0) := by
  unfold lg_cmp
  by_cases h : x = 0
  · subst h; simp; rfl
  · by_cases h2 : x > 0
    · rw [if_pos h2]; simp [h]; decide
    · rw [if_neg h2, if_neg h]; simp [h]; decide
theorem cmp_c (x y : Int64) : lg_cmp x y = nI 1 ∨ lg_cmp x y = nI 0 ∨ lg_cmp x y = m1 := by
  unfold lg_cmp
  by_cases h2 : x > y
  · rw [if_pos h2]; exact Or.inl rfl
  · rw [if_neg h2]
    by_cases h : x = y
    · rw [if_pos h]; exact Or.inr (Or.inl rfl)
    · rw [if_neg h]; exact Or.inr (Or.inr rfl)
theorem nI_lit (k : Nat) : nI k = OfNat.ofNat k := rfl
section
variable {n : Nat} {g : zS} {mi : Nat → Nat → Int32} {X sA aA ln : Nat}
theorem c_276 {ml : Nat → Nat → Int64} (hs : Sy g) {x : Int64} : fb_X4_isBroken_276 n 22 (g, mi, zu ml 22 2 x) = some (if (bnd x).isSome then nI 0 else nI 1, (g, mi, zu ml 22 2 x)) := by
  unfold fb_X4_isBroken_276
  simp only [S_gL22 hs, zul_s]
  unfold bnd
  by_cases h : 0 < lg_cmp x 1000000000
  · rw [if_pos h, if_pos h]; rfl
  · rw [if_neg h, if_neg h]
    by_cases h2 : 0 ≤ lg_cmp x (-1000000000)
    · rw [if_pos h2, if_pos h2]; rfl
    · rw [if_neg h2, if_neg h2]; rfl
theorem bnd_i {x y : Int64} (h : bnd x = some y) : y = x := by
  unfold bnd at h
  split at h
  · exact absurd h (by simp)
  · split at h
    · injection h with h; exact h.symm
    · exact absurd h (by simp)
theorem c_276' {ml : Nat → Nat → Int64} (hs : Sy g) {x : Int64} : (∀ y, bnd x = some y → fb_X4_isBroken_276 n 22 (g, mi, zu ml 22 2 x) = some (nI 0, (g, mi, zu ml 22 2 y))) ∧ (bnd x = none → fb_X4_isBroken_276 n 22 (g, mi, zu ml 22 2 x) = some (nI 1, (g, mi, zu ml 22 2 x))) := by
  refine ⟨fun y h => ?_, fun h => ?_⟩
  · rw [c_276 hs, h, bnd_i h]; rfl
  · rw [c_276 hs, h]; rfl
theorem c_broken {ml : Nat → Nat → Int64} (hs : Sy g) {s : Nat} (h : s = 43 ∨ s = 45 ∨ s = 42 ∨ s = 47 ∨ s = 37) (a b : Int64) : (∀ y, bop s a b = some y → f_X4_isBroken n 22 (nI s) a b (g, mi, ml) = some (nI 0, (g, mi, zu ml 22 2 y))) ∧ (bop s a b = none → ∃ ml', (ml' = ml ∨ ∃ x, ml' = zu ml 22 2 x) ∧ f_X4_isBroken n 22 (nI s) a b (g, mi, ml) = some (nI 1, (g, mi, ml'))) := by
  have fin : ∀ x : Int64, (∀ y, bnd x = some y → fb_X4_isBroken_276 n 22 (g, mi, zu ml 22 2 x) = some (nI 0, (g, mi, zu ml 22 2 y))) ∧ (bnd x = none → ∃ ml', (ml' = ml ∨ ∃ x, ml' = zu ml 22 2 x) ∧ fb_X4_isBroken_276 n 22 (g, mi, zu ml 22 2 x) = some (nI 1, (g, mi, ml'))) := fun x => ⟨(c_276' hs).1, fun h => ⟨_, Or.inr ⟨x, rfl⟩, (c_276' hs).2 h⟩⟩
  have U : ∀ s, s < 500 → f_X4_isBroken n 22 (nI s) a b (g, mi, ml) = if s = 47 then (if b = 0 then some (nI 1, (g, mi, ml)) else fb_X4_isBroken_276 n 22 (g, mi, zu ml 22 2 (a / b))) else if s = 37 then (if b = 0 then some (nI 1, (g, mi, ml)) else fb_X4_isBroken_276 n 22 (g, mi, zu ml 22 2 (a - a / b * b))) else fb_X4_isBroken_21 n 22 (nI s) a b (g, mi, ml) := by
    intro s hs'
    unfold f_X4_isBroken fb_X4_isBroken_12
    simp (disch := omega) only [lit, nEq, cmp0]
    by_cases q : s = 47
    · subst q
      simp only [if_T]
      by_cases z : b = 0
      · simp only [z, if_T]
      · simp only [z, if_F]
        unfold fb_X4_isBroken_21 fb_X4_isBroken_189
        simp (disch := omega) only [lit, zswl, nEq, if_neg, cmp0, z, if_F, if_T, S_pL22 hs]
    · simp only [q, if_F]
      by_cases q : s = 37
      · subst q
        simp only [if_T]
        by_cases z : b = 0
        · simp only [z, if_T]
        · simp only [z, if_F]
          unfold fb_X4_isBroken_21 fb_X4_isBroken_211
          simp (disch := omega) only [lit, zswl, nEq, if_neg, cmp0, z, if_F, if_T, S_pL22 hs]
      · simp only [q, if_F]
  rw [U s (by omega)]
  unfold bop
  rcases h with e | e | e | e | e <;> subst e
  · simp (disch := omega) only [if_pos, if_neg]
    have e2 : fb_X4_isBroken_21 n 22 (nI 43) a b (g, mi, ml) = fb_X4_isBroken_276 n 22 (g, mi, zu ml 22 2 (a + b)) := by
      unfold fb_X4_isBroken_21
      simp (disch := omega) only [lit, zswl, nEq, if_neg, if_T, S_pL22 hs]
    rw [e2]; exact fin _
  · simp (disch := omega) only [if_pos, if_neg]
    have e2 : fb_X4_isBroken_21 n 22 (nI 45) a b (g, mi, ml) = fb_X4_isBroken_276 n 22 (g, mi, zu ml 22 2 (a - b)) := by
      unfold fb_X4_isBroken_21
      simp (disch := omega) only [lit, zswl, nEq, if_neg, if_T, S_pL22 hs]
    rw [e2]; exact fin _
  · simp (disch := omega) only [if_pos, if_neg]
    have e2 : fb_X4_isBroken_21 n 22 (nI 42) a b (g, mi, ml) = fb_X4_isBroken_276 n 22 (g, mi, zu ml 22 2 (a * b)) := by
      unfold fb_X4_isBroken_21
      simp (disch := omega) only [lit, zswl, nEq, if_neg, if_T, S_pL22 hs]
    rw [e2]; exact fin _
  · simp (disch := omega) only [if_neg, if_T]
    by_cases z : b = 0
    · simp only [z, if_T]
      exact ⟨fun y h => absurd h (by simp), fun _ => ⟨ml, Or.inl rfl, rfl⟩⟩
    · simp only [z, if_F]
      exact fin _
  · simp (disch := omega) only [if_neg, if_T]
    by_cases z : b = 0
    · simp only [z, if_T]
      exact ⟨fun y h => absurd h (by simp), fun _ => ⟨ml, Or.inl rfl, rfl⟩⟩
    · simp only [z, if_F]
      exact fin _
theorem c_cmp {ml : Nat → Nat → Int64} (hs : Sy g) {s : Nat} (h : s = 60 ∨ s = 61 ∨ s = 62) (a b : Int64) : f_X4_isBroken n 22 (nI s) a b (g, mi, ml) = some (nI 0, (g, mi, zu ml 22 2 (tI (cpr s a b)))) := by
  have b0 : bnd 0 = some 0 := by decide
  have b1 : bnd 1 = some 1 := by decide
  have k0 : fb_X4_isBroken_276 n 22 (g, mi, zu ml 22 2 0) = some (nI 0, (g, mi, zu ml 22 2 0)) := (c_276' hs).1 0 b0
  have k1 : fb_X4_isBroken_276 n 22 (g, mi, zu ml 22 2 1) = some (nI 0, (g, mi, zu ml 22 2 1)) := (c_276' hs).1 1 b1
  have j0 : nI 0 ≤ nI 1 := by decide
  have j1 : nI 0 ≤ nI 0 := by decide
  have j2 : ¬ nI 0 ≤ m1 := by decide
  have U : ∀ s, s < 500 → s ≠ 47 → s ≠ 37 → f_X4_isBroken n 22 (nI s) a b (g, mi, ml) = fb_X4_isBroken_21 n 22 (nI s) a b (g, mi, ml) := by
    intro s h1 h2 h3
    unfold f_X4_isBroken
    simp (disch := omega) only [lit, nEq, if_neg]
  rw [U s (by omega) (by omega) (by omega)]
  unfold cpr fb_X4_isBroken_21 fb_X4_isBroken_230 fb_X4_isBroken_268 fb_X4_isBroken_249
  rcases h with e | e | e <;> subst e
  · simp (disch := omega) only [lit, zswl, nEq, if_neg, if_T, S_pL22 hs, k0, k1]
    rcases cmp_c a b with q | q | q <;> rw [q] <;> rfl
  · simp (disch := omega) only [lit, zswl, nEq, if_neg, if_T, S_pL22 hs, k0, k1]
    rcases cmp_c a b with q | q | q <;> rw [q] <;> rfl
  · simp (disch := omega) only [lit, zswl, nEq, if_neg, if_T, S_pL22 hs, k0, k1]
    rcases cmp_c a b with q | q | q <;> rw [q] <;> rfl
end
