/-! the Java side reads a row of tokens -/
def kmL : Nat → Nat
  | 1 => 262 | 2 => 263 | 3 => 256 | 4 => 257 | 5 => 258 | 6 => 259 | 7 => 400 | 8 => 401 | 9 => 402 | 10 => 403 | 11 => 404 | 12 => 406 | 13 => 405 | _ => 2
def kmO : Nat → Nat
  | 3 => 256 | 4 => 257 | 5 => 258 | 6 => 259 | 13 => 400 | 14 => 401 | 15 => 402 | 16 => 403 | 17 => 404 | 18 => 264 | 19 => 265 | 20 => 300 | 21 => 260 | 22 => 301 | 23 => 302 | 24 => 303 | 25 => 304 | 26 => 305 | 27 => 306 | 28 => 307 | 29 => 261 | _ => 2
def km (o : Bool) (d : Nat) : Nat := if 100 ≤ d then (if 132 < d then d - 100 else 2) else if d = 50 then 1 else if o then kmO d else kmL d
def kk (o : Bool) (T : Nat) (D : Nat → Nat) (i : Nat) : Nat := if i < T then km o (D i) else 0
def Ps (M : Nat → Nat → Int32) (tk pt fl ln cc : Int32) (S A E : Nat → Int32) : Nat → Nat → Int32 := fun a k => if a = 410 then (if k = 2 then tk else if k = 3 then pt else if k = 4 then fl else M a k) else if a = 411 then (if k = 3 then ln else if k = 4 then cc else M a k) else if a = 412 then S k else if a = 413 then A k else if a = 414 then E k else M a k
def TC (o : Bool) (M : Nat → Nat → Int32) (T : Nat) (D V P : Nat → Nat) : Prop := (∀ i, i ≤ T → M 416 i = nI (kk o T D i) ∧ M 417 i = nI (P i) ∧ (D i = 50 → M 418 i = nI (V i) ∧ V i ≤ 10000)) ∧ T ≤ 400 ∧ D T = 0 ∧ ∀ i, D i < 356
theorem km_lt : ((List.range 356).all fun d => decide (km true d < 1000) && decide (km false d < 1000)) = true := by decide +kernel
theorem km_b {d : Nat} (h : d < 356) (o : Bool) : km o d < 1000 := by
  have := List.all_eq_true.mp km_lt d (List.mem_range.mpr h)
  simp at this
  cases o
  · exact this.2
  · exact this.1
def kT (o : Bool) (s c : Nat) : Bool := (List.range 356).all fun d => decide (km o d = s) == decide (d = c)
theorem kT_e {o : Bool} {s c : Nat} (h : kT o s c = true) {d : Nat} (hd : d < 356) : km o d = s ↔ d = c := by
  have := List.all_eq_true.mp h d (List.mem_range.mpr hd)
  simpa using this
section
variable {o : Bool} {T : Nat} {D V P : Nat → Nat} {M : Nat → Nat → Int32}
theorem kk_b (h : TC o M T D V P) (i : Nat) : kk o T D i < 1000 := by
  unfold kk
  split
  · exact km_b (h.2.2.2 i) o
  · decide
theorem kk_e (h : TC o M T D V P) {i s c : Nat} (hi : i ≤ T) (hT : kT o s c = true) (h1 : s ≠ 0) (h2 : c ≠ 0) : (kk o T D i = s) = (D i = c) := by
  unfold kk
  by_cases q : i < T
  · rw [if_pos q]
    exact propext (kT_e hT (h.2.2.2 i))
  · rw [if_neg q]
    have : i = T := by omega
    rw [this, h.2.2.1]
    exact propext ⟨fun z => absurd z.symm h1, fun z => absurd z.symm h2⟩
theorem kk_0 (h : TC o M T D V P) {i : Nat} (hi : i ≤ T) : (kk o T D i = 0) = (i = T) := by
  have h0 : ((List.range 356).all fun d => decide (km true d ≠ 0) && decide (km false d ≠ 0)) = true := by decide +kernel
  have h1 : km o (D i) ≠ 0 := by
    have := List.all_eq_true.mp h0 (D i) (List.mem_range.mpr (h.2.2.2 i))
    simp at this
    cases o
    · exact this.2
    · exact this.1
  unfold kk
  by_cases q : i < T
  · rw [if_pos q]
    exact propext ⟨fun z => absurd z h1, fun z => absurd z (by omega)⟩
  · rw [if_neg q]
    exact propext ⟨fun _ => by omega, fun _ => rfl⟩
theorem kk_w (h : TC o M T D V P) {i : Nat} (hi : i ≤ T) : (400 ≤ kk o T D i ∧ kk o T D i < 500) = (isWd o (D i) = true) ∧ (isWd o (D i) = true → kk o T D i = 400 + wi o (D i)) := by
  have h0 : ((List.range 356).all fun d => (decide (400 ≤ km true d ∧ km true d < 500) == isWd true d) && (decide (400 ≤ km false d ∧ km false d < 500) == isWd false d) && (!isWd true d || km true d == 400 + wi true d) && (!isWd false d || km false d == 400 + wi false d)) = true := by decide +kernel
  have h1 := List.all_eq_true.mp h0 (D i) (List.mem_range.mpr (h.2.2.2 i))
  simp only [Bool.and_eq_true, beq_iff_eq, Bool.or_eq_true, Bool.not_eq_true'] at h1
  unfold kk
  by_cases q : i < T
  · rw [if_pos q]
    cases o
    · refine ⟨propext ⟨fun z => ?_, fun z => ?_⟩, fun z => ?_⟩
      · rw [← h1.1.1.2]; exact decide_eq_true z
      · rw [← h1.1.1.2] at z; exact of_decide_eq_true z
      · rcases h1.2 with y | y
        · rw [y] at z; exact absurd z (by decide)
        · exact y
    · refine ⟨propext ⟨fun z => ?_, fun z => ?_⟩, fun z => ?_⟩
      · rw [← h1.1.1.1]; exact decide_eq_true z
      · rw [← h1.1.1.1] at z; exact of_decide_eq_true z
      · rcases h1.1.2 with y | y
        · rw [y] at z; exact absurd z (by decide)
        · exact y
  · rw [if_neg q]
    have e : i = T := by omega
    have : isWd o (D i) = false := by
      rw [e, h.2.2.1]
      cases o <;> rfl
    rw [this]
    exact ⟨propext ⟨fun z => absurd z (by omega), fun z => absurd z (by decide)⟩, fun z => absurd z (by decide)⟩
end
section
variable {g : zS} {M : Nat → Nat → Int32} {ml : Nat → Nat → Int64} {tk pt fl ln cc y : Int32} {S A E : Nat → Int32} {ρ : Type} {n T : Nat} {D V P : Nat → Nat} {o : Bool}
theorem p_z (N : Nat → Nat → Int32) (b k : Nat) (z : Int32) : zu N b k z = fun a j => if a = b then (if j = k then z else N a j) else N a j := by
  rw [u_zu]
  unfold zrw
  funext a
  by_cases h : a = b
  · subst h; simp
  · simp [h]
theorem p_gtk {K : Int32 → Option ρ} (hs : Sy g) : zgI ((g, Ps M tk pt fl ln cc S A E, ml) : zH) 6 410 2 K = K tk := by
  rw [S_gI410 hs]; rfl
theorem p_ptk {K : zH → Option ρ} (hs : Sy g) : zpI ((g, Ps M tk pt fl ln cc S A E, ml) : zH) 6 410 2 y K = K (g, Ps M y pt fl ln cc S A E, ml) := by
  rw [S_pI410 hs, p_z]
  congr 2
  congr 1
  funext a k
  unfold Ps
  by_cases h : a = 410
  · subst h
    by_cases h1 : k = 2
    · subst h1; simp
    · simp [h1]
  · simp [h]
theorem p_gpt {K : Int32 → Option ρ} (hs : Sy g) : zgI ((g, Ps M tk pt fl ln cc S A E, ml) : zH) 6 410 3 K = K pt := by
  rw [S_gI410 hs]; rfl
theorem p_ppt {K : zH → Option ρ} (hs : Sy g) : zpI ((g, Ps M tk pt fl ln cc S A E, ml) : zH) 6 410 3 y K = K (g, Ps M tk y fl ln cc S A E, ml) := by
  rw [S_pI410 hs, p_z]
  congr 2
  congr 1
  funext a k
  unfold Ps
  by_cases h : a = 410
  · subst h
    by_cases h1 : k = 3
    · subst h1; simp
    · simp [h1]
  · simp [h]
theorem p_gfl {K : Int32 → Option ρ} (hs : Sy g) : zgI ((g, Ps M tk pt fl ln cc S A E, ml) : zH) 6 410 4 K = K fl := by
  rw [S_gI410 hs]; rfl
theorem p_pfl {K : zH → Option ρ} (hs : Sy g) : zpI ((g, Ps M tk pt fl ln cc S A E, ml) : zH) 6 410 4 y K = K (g, Ps M tk pt y ln cc S A E, ml) := by
  rw [S_pI410 hs, p_z]
  congr 2
  congr 1
  funext a k
  unfold Ps
  by_cases h : a = 410
  · subst h
    by_cases h1 : k = 4
    · subst h1; simp
    · simp [h1]
  · simp [h]
theorem p_gln {K : Int32 → Option ρ} (hs : Sy g) : zgI ((g, Ps M tk pt fl ln cc S A E, ml) : zH) 9 411 3 K = K ln := by
  rw [S_gI411 hs]; rfl
theorem p_pln {K : zH → Option ρ} (hs : Sy g) : zpI ((g, Ps M tk pt fl ln cc S A E, ml) : zH) 9 411 3 y K = K (g, Ps M tk pt fl y cc S A E, ml) := by
  rw [S_pI411 hs, p_z]
  congr 2
  congr 1
  funext a k
  unfold Ps
  by_cases h : a = 411
  · subst h
    by_cases h1 : k = 3
    · subst h1; simp
    · simp [h1]
  · simp [h]
theorem p_gcc {K : Int32 → Option ρ} (hs : Sy g) : zgI ((g, Ps M tk pt fl ln cc S A E, ml) : zH) 9 411 4 K = K cc := by
  rw [S_gI411 hs]; rfl
theorem p_pcc {K : zH → Option ρ} (hs : Sy g) : zpI ((g, Ps M tk pt fl ln cc S A E, ml) : zH) 9 411 4 y K = K (g, Ps M tk pt fl ln y S A E, ml) := by
  rw [S_pI411 hs, p_z]
  congr 2
  congr 1
  funext a k
  unfold Ps
  by_cases h : a = 411
  · subst h
    by_cases h1 : k = 4
    · subst h1; simp
    · simp [h1]
  · simp [h]
theorem p_eS {K : zH → Option ρ} (hs : Sy g) {j : Nat} (hj : j < 400) : zeI ((g, Ps M tk pt fl ln cc S A E, ml) : zH) 412 (nI j) y K = K (g, Ps M tk pt fl ln cc (upd S j y) A E, ml) := by
  rw [S_eI412 hs hj, p_z]
  congr 2
  congr 1
  funext a k
  unfold Ps upd
  by_cases h : a = 412
  · subst h
    by_cases h1 : k = j
    · subst h1; simp
    · simp [h1]
  · simp [h]
theorem p_eA {K : zH → Option ρ} (hs : Sy g) {j : Nat} (hj : j < 400) : zeI ((g, Ps M tk pt fl ln cc S A E, ml) : zH) 413 (nI j) y K = K (g, Ps M tk pt fl ln cc S (upd A j y) E, ml) := by
  rw [S_eI413 hs hj, p_z]
  congr 2
  congr 1
  funext a k
  unfold Ps upd
  by_cases h : a = 413
  · subst h
    by_cases h1 : k = j
    · subst h1; simp
    · simp [h1]
  · simp [h]
theorem p_eE {K : zH → Option ρ} (hs : Sy g) {j : Nat} (hj : j < 60) : zeI ((g, Ps M tk pt fl ln cc S A E, ml) : zH) 414 (nI j) y K = K (g, Ps M tk pt fl ln cc S A (upd E j y), ml) := by
  rw [S_eI414 hs hj, p_z]
  congr 2
  congr 1
  funext a k
  unfold Ps upd
  by_cases h : a = 414
  · subst h
    by_cases h1 : k = j
    · subst h1; simp
    · simp [h1]
  · simp [h]
theorem p_kd {K : Int32 → Option ρ} (hs : Sy g) (h : TC o M T D V P) {i : Nat} (hi : i ≤ T) : zaI ((g, Ps M tk pt fl ln cc S A E, ml) : zH) 21 416 (nI i) K = K (nI (kk o T D i)) := by
  have hT := h.2.1
  rw [S_aI416 hs (by omega), ← (h.1 i hi).1]; rfl
theorem p_st {K : Int32 → Option ρ} (hs : Sy g) (h : TC o M T D V P) {i : Nat} (hi : i ≤ T) : zaI ((g, Ps M tk pt fl ln cc S A E, ml) : zH) 21 417 (nI i) K = K (nI (P i)) := by
  have hT := h.2.1
  rw [S_aI417 hs (by omega), ← (h.1 i hi).2.1]; rfl
theorem p_nm {K : Int32 → Option ρ} (hs : Sy g) (h : TC o M T D V P) {i : Nat} (hi : i ≤ T) (h5 : D i = 50) : zaI ((g, Ps M tk pt fl ln cc S A E, ml) : zH) 21 418 (nI i) K = K (nI (V i)) := by
  have hT := h.2.1
  rw [S_aI418 hs (by omega), ← ((h.1 i hi).2.2 h5).1]; rfl
theorem p_pres (hs : Sy g) (h : TC o M T D V P) {i : Nat} (hi : i ≤ T) : f_X5_present n 410 (g, Ps M (nI i) pt fl ln cc S A E, ml) = some (nI (kk o T D i), (g, Ps M (nI i) pt fl ln cc S A E, ml)) := by
  have hT := h.2.1
  unfold f_X5_present
  simp only [lit]
  simp (disch := omega) only [↓p_gtk hs, ↓iLt0, ↓iLe0, ↓S_gR410_1 hs, ↓S_gR415_0 hs, ↓p_kd hs h hi]
theorem p_fail (hs : Sy g) (h : TC o M T D V P) {i : Nat} (hi : i ≤ T) : f_X5_fails n 410 (g, Ps M (nI i) pt fl ln cc S A E, ml) = some (nI 0, (g, Ps M (nI i) pt (nI (P i)) ln cc S A E, ml)) := by
  have hT := h.2.1
  unfold f_X5_fails
  simp only [lit]
  simp (disch := omega) only [↓p_gtk hs, ↓iLt0, ↓iLe0, ↓S_gR410_1 hs, ↓S_gR415_1 hs, ↓p_st hs h hi, ↓p_pfl hs]
theorem p_take (hs : Sy g) (h : TC o M T D V P) {i s : Nat} (hi : i ≤ T) (hs' : s < 1000) : f_X5_takes n 410 (nI s) (g, Ps M (nI i) pt fl ln cc S A E, ml) = if kk o T D i = s then some (nI 1, (g, Ps M (nI (i + 1)) pt fl ln cc S A E, ml)) else some (nI 0, (g, Ps M (nI i) pt fl ln cc S A E, ml)) := by
  have hT := h.2.1
  have hk := kk_b h i
  unfold f_X5_takes fb_X5_takes_37 fb_X5_takes_38
  simp only [lit]
  simp (disch := omega) only [↓p_gtk hs, ↓iLt0, ↓iLe0, ↓S_gR410_1 hs, ↓S_gR415_0 hs, ↓p_kd hs h hi, nEq]
  by_cases q : kk o T D i = s
  · simp (disch := omega) only [q, if_T, if_neg, nEq, ↓p_gtk hs, ↓p_ptk hs, nI_add, zrZ1]
  · simp (disch := omega) only [q, if_F, if_T, ↓p_gtk hs, ↓p_ptk hs, nI_add, zrZ0, Nat.add_zero]
theorem p_nw (hs : Sy g) (h : TC o M T D V P) {i a c : Nat} (hi : i ≤ T) (ha : a ≤ 1000) (hc : c ≤ 1000) : f_X5_numberWithin n 410 (nI a) (nI c) (g, Ps M (nI i) pt fl ln cc S A E, ml) = some (if D i = 50 ∧ a ≤ V i ∧ V i ≤ c then nI (V i) else m1, (g, Ps M (nI i) pt fl ln cc S A E, ml)) := by
  have hT := h.2.1
  have hk := kk_b h i
  have k50 : (kk o T D i = 1) = (D i = 50) := kk_e h hi (by cases o <;> decide +kernel) (by decide) (by decide)
  unfold f_X5_numberWithin
  simp only [lit, ng1]
  simp (disch := omega) only [↓p_gtk hs, ↓iLt0, ↓iLe0, ↓S_gR410_1 hs, ↓S_gR415_0 hs, ↓p_kd hs h hi, nEq, k50]
  by_cases q : D i = 50
  · have hv := ((h.1 i hi).2.2 q).2
    simp (disch := omega) only [q, if_T, ↓p_gtk hs, ↓S_gR410_1 hs, ↓S_gR415_2 hs, ↓p_nm hs h hi q, true_and]
    by_cases q1 : a ≤ V i
    · by_cases q2 : V i ≤ c
      · simp (disch := omega) only [↓iLt0, q1, q2, and_self, if_T, nLt, if_neg]
      · simp (disch := omega) only [↓iLt0, ↓iLt1, q1, q2, and_false, if_F, nLt, if_neg, if_pos]
    · simp (disch := omega) only [↓iLt1, q1, false_and, if_F, nLt, if_pos]
  · simp (disch := omega) only [q, if_F, false_and]
theorem p_add (hs : Sy g) {L : Nat} (hL : L < 400) {x z : Int32} : f_X8_addStep n 411 x z (g, Ps M tk pt fl (nI L) cc S A E, ml) = some (nI L, (g, Ps M tk pt fl (nI (L + 1)) cc (upd S L x) (upd A L z) E, ml)) := by
  unfold f_X8_addStep
  simp only [lit]
  simp (disch := omega) only [↓p_gln hs, ↓S_gR411_0 hs, ↓S_gR411_1 hs, ↓S_ln412 hs, ↓S_ln413 hs, ↓iLe0, ↓iLt1, ↓p_eS hs, ↓p_eA hs, ↓p_pln hs, nI_add, nI_sub, Nat.add_sub_cancel]
theorem p_land (hs : Sy g) {L k : Nat} (hk : k < 400) : f_X8_landHere n 411 (nI k) (g, Ps M tk pt fl (nI L) cc S A E, ml) = some ((), (g, Ps M tk pt fl (nI L) cc S (upd A k (nI L)) E, ml)) := by
  unfold f_X8_landHere
  simp only [lit]
  simp (disch := omega) only [↓iLt0, ↓p_gln hs, ↓S_gR411_1 hs, ↓S_ln413 hs, ↓iLe0, ↓p_eA hs]
theorem p_land0 {hh : zH} : f_X8_landHere n 411 m1 hh = some ((), hh) := if_pos (by decide)
theorem p_set (hs : Sy g) {k w : Nat} (h0 : 0 < k) (hk : k ≤ 12) (hw : w < 5) {x : Int32} : f_X8_setEntry n 411 (nI w) x (g, Ps M tk pt fl ln (nI k) S A E, ml) = some ((), (g, Ps M tk pt fl ln (nI k) S A (upd E (5 * (k - 1) + w) x), ml)) := by
  unfold f_X8_setEntry
  simp only [lit]
  simp (disch := omega) only [↓p_gcc hs, ↓q_let, nI_sub, pk_mul, nI_add]
  simp (disch := omega) only [↓iLt0, ↓S_gR411_2 hs, ↓S_ln414 hs, ↓iLe0, ↓p_eE hs]
end
