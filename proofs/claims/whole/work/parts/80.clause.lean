/-! the Java side reads clauses -/
def oL {α : Type} (f : Option (Nat × α)) : Int32 := match f with
  | none => m1
  | some (L, _) => nI L
def En (E E' : Nat → Int32) (k : Nat) (a b c d e : Int32) : Prop := (∀ x, x < 5 * k → E' x = E x) ∧ E' (5 * k) = a ∧ E' (5 * k + 1) = b ∧ E' (5 * k + 2) = c ∧ E' (5 * k + 3) = d ∧ E' (5 * k + 4) = e
def eC (E : Nat → Int32) (k : Nat) (x : Int32) : Nat → Int32 := upd (upd (upd (upd (upd E (5 * k) x) (5 * k + 1) m1) (5 * k + 2) m1) (5 * k + 3) (nI 1)) (5 * k + 4) m1
theorem eC_n {E : Nat → Int32} {k : Nat} {x : Int32} : En E (eC E k x) k x m1 m1 (nI 1) m1 := by
  unfold eC
  refine ⟨fun y hy => ?_, ?_, ?_, ?_, ?_, ?_⟩
  · rw [upd_ne (by omega), upd_ne (by omega), upd_ne (by omega), upd_ne (by omega), upd_ne (by omega)]
  · rw [upd_ne (by omega), upd_ne (by omega), upd_ne (by omega), upd_ne (by omega), upd_eq]
  · rw [upd_ne (by omega), upd_ne (by omega), upd_ne (by omega), upd_eq]
  · rw [upd_ne (by omega), upd_ne (by omega), upd_eq]
  · rw [upd_ne (by omega), upd_eq]
  · rw [upd_eq]
theorem En_1 {E E' : Nat → Int32} {k : Nat} {a b c d e x : Int32} (h : En E E' k a b c d e) : En E (upd E' (5 * k + 1) x) k a x c d e := by
  obtain ⟨h0, h1, h2, h3, h4, h5⟩ := h
  exact ⟨fun y hy => by rw [upd_ne (by omega), h0 y hy], by rw [upd_ne (by omega), h1], upd_eq, by rw [upd_ne (by omega), h3], by rw [upd_ne (by omega), h4], by rw [upd_ne (by omega), h5]⟩
theorem En_2 {E E' : Nat → Int32} {k : Nat} {a b c d e x : Int32} (h : En E E' k a b c d e) : En E (upd E' (5 * k + 2) x) k a b x d e := by
  obtain ⟨h0, h1, h2, h3, h4, h5⟩ := h
  exact ⟨fun y hy => by rw [upd_ne (by omega), h0 y hy], by rw [upd_ne (by omega), h1], by rw [upd_ne (by omega), h2], upd_eq, by rw [upd_ne (by omega), h4], by rw [upd_ne (by omega), h5]⟩
theorem En_3 {E E' : Nat → Int32} {k : Nat} {a b c d e x : Int32} (h : En E E' k a b c d e) : En E (upd E' (5 * k + 3) x) k a b c x e := by
  obtain ⟨h0, h1, h2, h3, h4, h5⟩ := h
  exact ⟨fun y hy => by rw [upd_ne (by omega), h0 y hy], by rw [upd_ne (by omega), h1], by rw [upd_ne (by omega), h2], by rw [upd_ne (by omega), h3], upd_eq, by rw [upd_ne (by omega), h5]⟩
theorem En_4 {E E' : Nat → Int32} {k : Nat} {a b c d e x : Int32} (h : En E E' k a b c d e) : En E (upd E' (5 * k + 4) x) k a b c d x := by
  obtain ⟨h0, h1, h2, h3, h4, h5⟩ := h
  exact ⟨fun y hy => by rw [upd_ne (by omega), h0 y hy], by rw [upd_ne (by omega), h1], by rw [upd_ne (by omega), h2], by rw [upd_ne (by omega), h3], by rw [upd_ne (by omega), h4], upd_eq⟩
theorem s300 : ∀ a, a < 300 → nI a - nI 300 < nI 0 := by decide +kernel
section
variable {g : zS} {M : Nat → Nat → Int32} {ml : Nat → Nat → Int64} {tk pt fl ln cc y : Int32} {S A E : Nat → Int32} {n T : Nat} {D V P : Nat → Nat} {o : Bool}
theorem p_addc (hs : Sy g) {k : Nat} (hk : k < 12) {x : Int32} : f_X8_addClause n 411 x (g, Ps M tk pt fl ln (nI k) S A E, ml) = some ((), (g, Ps M tk pt fl ln (nI (k + 1)) S A (eC E k x), ml)) := by
  unfold f_X8_addClause eC
  simp only [lit, ng1]
  have e0 : 5 * (k + 1 - 1) + 0 = 5 * k := by omega
  have e1 : k + 1 - 1 = k := by omega
  simp (disch := omega) only [↓p_gcc hs, ↓p_pcc hs, nI_add, ↓S_ck411 hs, p_set hs, zb_s, e1, Nat.add_zero]
theorem c_w (hs : Sy g) (h : TC o M T D V P) (hn : 3000 < n) {i p L k w : Nat} (hi : i ≤ T) (hp : p ≤ 50) (hL : L < i) (hk0 : 0 < k) (hk : k ≤ 12) (hw : w < 5) : (∀ j p' c f, pW o D V i p L = .ok (j, p', c, f) → f.1 = L ∧ ∃ S' A', f_X5_wholeSum n 410 (nI w) (g, Ps M (nI i) (nI p) fl (nI L) (nI k) S A E, ml) = some (nI 1, (g, Ps M (nI j) (nI p') fl (nI (L + c.length)) (nI k) S' A' (upd E (5 * (k - 1) + w) (nI L)), ml)) ∧ Wr S A S' A' L c) ∧ ∀ q, pW o D V i p L = .error q → ∃ tk pt ln S' A' E', f_X5_wholeSum n 410 (nI w) (g, Ps M (nI i) (nI p) fl (nI L) (nI k) S A E, ml) = some (nI 0, (g, Ps M tk pt (nI (P q)) ln (nI k) S' A' E', ml)) := by
  have hT := h.2.1
  obtain ⟨k1, k2⟩ := c_sum hs h hn 8 0 12 rfl (by decide) i p hi hp L fl (nI k) S A (upd E (5 * (k - 1) + w) (nI L)) ml (by omega)
  unfold pW
  cases hc : pSum o D V 8 i p with
  | error q' =>
    obtain ⟨tk, pt, ln, S', A', s1⟩ := k2 q' hc
    refine ⟨fun j p' c f he => absurd he (by simp), fun q he => ?_⟩
    injection he with he
    subst he
    refine ⟨tk, pt, ln, S', A', upd E (5 * (k - 1) + w) (nI L), ?_⟩
    unfold f_X5_wholeSum
    simp only [lit]
    simp (disch := omega) only [↓S_gR410_0 hs, ↓p_gln hs, ↓S_ck411 hs, p_set hs, zb_s, ↓S_ck410 hs, s1, if_T]
  | ok x =>
    obtain ⟨j1, p1, c1, d1⟩ := x
    obtain ⟨S1, A1, s1, s2⟩ := k1 _ _ _ _ hc
    obtain ⟨a1, a2, a3, a4, a5, a6⟩ := ok_sum h.2.2.1 8 _ _ _ _ _ _ hi hp hc
    refine ⟨fun j p' c f he => ?_, fun q he => absurd he (by simp)⟩
    injection he with he
    obtain ⟨e1, e2, e3, e4⟩ := he
    refine ⟨rfl, upd S1 (L + c1.length) (nI 5), upd A1 (L + c1.length) (nI 0), ?_, Wr_a s2 Wr_1⟩
    unfold f_X5_wholeSum
    have e5 : L + (c1 ++ [(5, 0)]).length = L + c1.length + 1 := by simp; omega
    rw [e5]
    simp only [lit]
    simp (disch := omega) only [↓S_gR410_0 hs, ↓p_gln hs, ↓S_ck411 hs, p_set hs, zb_s, ↓S_ck410 hs, s1, nEq, if_neg, p_add hs]
theorem kf (h : TC false M T D V P) {i s c : Nat} (hi : i ≤ T) (h1 : kT false s c = true) (h3 : s ≠ 0) (h4 : c ≠ 0) : (kk false T D i = s) = (D i = c) := kk_e h hi h1 h3 h4
theorem c_hl (hs : Sy g) (h : TC false M T D V P) (hn : 3000 < n) {i p L k : Nat} (hi : i ≤ T) (hp : p ≤ 50) (hL : L ≤ i) (hk : k < 12) : (∀ j p' c kd f1 f2 tm, pHl false D V i p L = .ok (j, p', c, kd, f1, f2, tm) → ∃ S' A' E', f_X5_lawClause n 410 (g, Ps M (nI i) (nI p) fl (nI L) (nI k) S A E, ml) = some (nI 1, (g, Ps M (nI j) (nI p') fl (nI (L + c.length)) (nI (k + 1)) S' A' E', ml)) ∧ Wr S A S' A' L c ∧ En E E' k (nI kd) (oL f1) (oL f2) (nI tm) m1) ∧ ∀ q, pHl false D V i p L = .error q → ∃ tk pt ln cc S' A' E', f_X5_lawClause n 410 (g, Ps M (nI i) (nI p) fl (nI L) (nI k) S A E, ml) = some (nI 0, (g, Ps M tk pt (nI (P q)) ln cc S' A' E', ml)) := by
  have hT := h.2.1
  have k263 : (kk false T D i = 263) = (D i = 2) := kf h hi (by decide +kernel) (by decide) (by decide)
  have k262 : (kk false T D i = 262) = (D i = 1) := kf h hi (by decide +kernel) (by decide) (by decide)
  unfold pHl
  by_cases q1 : D i = 2
  · simp only [q1, if_T]
    refine ⟨fun j p' c kd f1 f2 tm he => ?_, fun q he => absurd he (by simp)⟩
    injection he with he
    obtain ⟨e1, e2, e3, e4, e5, e6, e7⟩ := he
    refine ⟨S, A, eC E k (nI 1), ?_, Wr_0, eC_n⟩
    have e8 : kk false T D i = 263 := by rw [k263]; exact q1
    unfold f_X5_lawClause
    simp only [lit]
    simp (disch := omega) only [↓S_ck410 hs, p_take hs h hi, e8, if_T, zb_s, nEq, if_neg, ↓S_gR410_0 hs, ↓S_ck411 hs, p_addc hs hk, List.length_nil, Nat.add_zero]
  · have n263 : ¬ kk false T D i = 263 := by rw [k263]; exact q1
    simp only [q1, if_F]
    by_cases q2 : D i = 1
    · simp only [q2, if_T]
      have hi' := ne_T h.2.2.1 hi (by omega)
      have e8 : kk false T D i = 262 := by rw [k262]; exact q2
      have U : f_X5_lawClause n 410 (g, Ps M (nI i) (nI p) fl (nI L) (nI k) S A E, ml) = zb (f_X5_wholeSum n 410 (nI 1) (g, Ps M (nI (i + 1)) (nI p) fl (nI L) (nI (k + 1)) S A (eC E k (nI 0)), ml)) fun r8 h9 => zrZ r8 h9 := by
        unfold f_X5_lawClause
        simp only [lit]
        simp (disch := omega) only [↓S_ck410 hs, p_take hs h hi, n263, e8, if_F, if_T, zb_s, nEq, if_neg, ↓S_gR410_0 hs, ↓S_ck411 hs, p_addc hs hk]
      obtain ⟨k1, k2⟩ := c_w (fl := fl) (S := S) (A := A) (E := eC E k (nI 0)) (ml := ml) (i := i + 1) (p := p) (L := L) (k := k + 1) (w := 1) hs h hn (by omega) hp (by omega) (by omega) (by omega) (by decide)
      rw [U]
      cases hc : pW false D V (i + 1) p L with
      | error q' =>
        obtain ⟨tk, pt, ln, S', A', E', s1⟩ := k2 q' hc
        refine ⟨fun j p' c kd f1 f2 tm he => absurd he (by simp), fun q he => ?_⟩
        injection he with he
        subst he
        exact ⟨tk, pt, ln, _, S', A', E', by rw [s1, zb_s]; rfl⟩
      | ok x =>
        obtain ⟨j1, p1, c1, f⟩ := x
        obtain ⟨s0, S1, A1, s1, s2⟩ := k1 _ _ _ _ hc
        refine ⟨fun j p' c kd f1 f2 tm he => ?_, fun q he => absurd he (by simp)⟩
        injection he with he
        obtain ⟨e1, e2, e3, e4, e5, e6, e7⟩ := he
        refine ⟨S1, A1, _, by rw [s1, zb_s]; rfl, s2, ?_⟩
        have e9 : 5 * (k + 1 - 1) + 1 = 5 * k + 1 := by omega
        have e10 : oL (some f) = nI L := by rw [← s0]; rfl
        rw [e9, e10]
        exact En_1 eC_n
    · simp only [q2, if_F]
      have n262 : ¬ kk false T D i = 262 := by rw [k262]; exact q2
      refine ⟨fun j p' c kd f1 f2 tm he => absurd he (by simp), fun q he => ?_⟩
      injection he with he
      subst he
      refine ⟨nI i, nI p, nI L, nI k, S, A, E, ?_⟩
      unfold f_X5_lawClause
      simp only [lit]
      simp (disch := omega) only [↓S_ck410 hs, p_take hs h hi, n263, n262, if_F, if_T, zb_s, p_fail hs h hi, zrZ0]
theorem c_ti (hs : Sy g) (h : TC true M T D V P) {i p L k : Nat} {c : List (Nat × Nat)} {kd : Nat} {f1 f2 : Option (Nat × DS)} (hi : i ≤ T) (hk : k < 12) {E0 : Nat → Int32} (hE : En E0 E k (nI kd) (oL f1) (oL f2) (nI 1) m1) : (∀ j p' c' kd' f1' f2' tm, pTi D V i p c kd f1 f2 = .ok (j, p', c', kd', f1', f2', tm) → ∃ E', fb_X5_orderClause_87 n 410 (g, Ps M (nI i) (nI p) fl (nI L) (nI (k + 1)) S A E, ml) = some (nI 1, (g, Ps M (nI j) (nI p') fl (nI L) (nI (k + 1)) S A E', ml)) ∧ c' = c ∧ En E0 E' k (nI kd') (oL f1') (oL f2') (nI tm) m1) ∧ ∀ q, pTi D V i p c kd f1 f2 = .error q → ∃ tk pt ln cc S' A' E', fb_X5_orderClause_87 n 410 (g, Ps M (nI i) (nI p) fl (nI L) (nI (k + 1)) S A E, ml) = some (nI 0, (g, Ps M tk pt (nI (P q)) ln cc S' A' E', ml)) := by
  have hT := h.2.1
  have k261 : (kk true T D i = 261) = (D i = 29) := kk_e h hi (by decide +kernel) (by decide) (by decide)
  unfold pTi
  by_cases q : D i = 29
  · simp only [q, if_T]
    have hi' := ne_T h.2.2.1 hi (by omega)
    have e8 : kk true T D i = 261 := by rw [k261]; exact q
    by_cases q2 : D (i + 1) = 50 ∧ 1 ≤ V (i + 1) ∧ V (i + 1) ≤ 20
    · rw [if_pos q2]
      refine ⟨fun j p' c' kd' f1' f2' tm he => ?_, fun q he => absurd he (by simp)⟩
      injection he with he
      obtain ⟨e1, e2, e3, e4, e5, e6, e7⟩ := he
      refine ⟨upd E (5 * k + 3) (nI (V (i + 1))), ?_, rfl, En_3 hE⟩
      unfold fb_X5_orderClause_87
      simp only [lit, ng1]
      simp (disch := omega) only [↓S_ck410 hs, p_take hs h hi, e8, if_T, zb_s, nEq, if_neg, p_nw hs h, q2, and_self, nm1, if_F, ↓S_gR410_0 hs, ↓S_ck411 hs, p_set hs, Nat.add_sub_cancel, ↓p_gtk hs, ↓p_ptk hs, nI_add]
    · rw [if_neg q2]
      refine ⟨fun j p' c' kd' f1' f2' tm he => absurd he (by simp), fun q he => ?_⟩
      injection he with he
      subst he
      refine ⟨nI (i + 1), nI p, nI L, nI (k + 1), S, A, E, ?_⟩
      unfold fb_X5_orderClause_87
      simp only [lit, ng1]
      simp (disch := omega) only [↓S_ck410 hs, p_take hs h hi, e8, if_T, zb_s, nEq, if_neg, p_nw hs h, q2, if_F, p_fail hs h, zrZ0]
  · simp only [q, if_F]
    refine ⟨fun j p' c' kd' f1' f2' tm he => ?_, fun q he => absurd he (by simp)⟩
    injection he with he
    obtain ⟨e1, e2, e3, e4, e5, e6, e7⟩ := he
    refine ⟨E, ?_, rfl, hE⟩
    have e8 : ¬ kk true T D i = 261 := by rw [k261]; exact q
    unfold fb_X5_orderClause_87
    simp only [lit, ng1]
    simp (disch := omega) only [↓S_ck410 hs, p_take hs h hi, e8, if_F, if_T, zb_s]
theorem k_ho (h : TC true M T D V P) {i : Nat} (hi : i ≤ T) : (D i = 20 → kk true T D i = 300) ∧ (22 ≤ D i ∧ D i ≤ 28 → kk true T D i = 300 + (D i - 21)) ∧ (¬ (D i = 20 ∨ 22 ≤ D i ∧ D i ≤ 28) → kk true T D i < 300 ∨ 308 ≤ kk true T D i) := by
  have h0 : ((List.range 356).all fun d => (!(d == 20) || km true d == 300) && (!(decide (22 ≤ d ∧ d ≤ 28)) || km true d == 300 + (d - 21)) && (decide (d = 20 ∨ 22 ≤ d ∧ d ≤ 28) || decide (km true d < 300 ∨ 308 ≤ km true d))) = true := by decide +kernel
  have h1 := List.all_eq_true.mp h0 (D i) (List.mem_range.mpr (h.2.2.2 i))
  simp at h1
  unfold kk
  by_cases q : i < T
  · rw [if_pos q]
    refine ⟨fun z => ?_, fun z => ?_, fun z => ?_⟩
    · rcases h1.1.1 with y | y
      · exact absurd z y
      · exact y
    · rcases h1.1.2 with y | y
      · omega
      · exact y
    · rcases h1.2 with y | y
      · exact absurd y z
      · exact y
  · rw [if_neg q]
    have e : i = T := by omega
    rw [e, h.2.2.1]
    exact ⟨fun z => absurd z (by decide), fun z => absurd z (by omega), fun _ => Or.inl (by decide)⟩
end
