/-! the Java side reads orders and whole texts -/
section
variable {g : zS} {M : Nat → Nat → Int32} {ml : Nat → Nat → Int64} {tk pt fl ln cc y : Int32} {S A E : Nat → Int32} {n T : Nat} {D V P : Nat → Nat} {o : Bool}
theorem c_ho (hs : Sy g) (h : TC true M T D V P) (hn : 3000 < n) {i p L k : Nat} (hi : i ≤ T) (hp : p ≤ 50) (hL : L ≤ i) (hk : k < 12) : (∀ j p' c kd f1 f2 tm, pHo true D V i p L = .ok (j, p', c, kd, f1, f2, tm) → ∃ S' A' E', f_X5_orderClause n 410 (g, Ps M (nI i) (nI p) fl (nI L) (nI k) S A E, ml) = some (nI 1, (g, Ps M (nI j) (nI p') fl (nI (L + c.length)) (nI (k + 1)) S' A' E', ml)) ∧ Wr S A S' A' L c ∧ En E E' k (nI kd) (oL f1) (oL f2) (nI tm) m1) ∧ ∀ q, pHo true D V i p L = .error q → ∃ tk pt ln cc S' A' E', f_X5_orderClause n 410 (g, Ps M (nI i) (nI p) fl (nI L) (nI k) S A E, ml) = some (nI 0, (g, Ps M tk pt (nI (P q)) ln cc S' A' E', ml)) := by
  have hT := h.2.1
  have hkb := kk_b h i
  obtain ⟨ka, kb, kc⟩ := k_ho h hi
  have k7 : ∀ b, b ≤ 7 → kk true T D i = 300 + b → f_X5_orderClause n 410 (g, Ps M (nI i) (nI p) fl (nI L) (nI k) S A E, ml) = if b = 7 then fb_X5_orderClause_58 n 410 (nI 7) (g, Ps M (nI (i + 1)) (nI p) fl (nI L) (nI (k + 1)) S A (eC E k (nI 7)), ml) else zb (f_X5_wholeSum n 410 (nI 1) (g, Ps M (nI (i + 1)) (nI p) fl (nI L) (nI (k + 1)) S A (eC E k (nI b)), ml)) fun r9 h10 => if r9 = nI 0 then some (nI 0, h10) else fb_X5_orderClause_58 n 410 (nI b) h10 := by
    intro b hb e
    have e1 : nI (300 + b) - nI 300 = nI b := by rw [nI_sub (by omega), Nat.add_sub_cancel_left]
    unfold f_X5_orderClause
    simp only [lit]
    simp (disch := omega) only [↓S_ck410 hs, p_pres hs h hi, e, zb_s, e1, ↓q_let, nLt, nLe, if_neg, if_pos, ↓p_gtk hs, ↓p_ptk hs, nI_add, ↓S_gR410_0 hs, ↓S_ck411 hs, p_addc hs hk, nEq]
    by_cases z : b = 7
    · subst z
      simp only [if_T]
    · simp only [z, if_F]
  have e9 : 5 * (k + 1 - 1) + 1 = 5 * k + 1 := by omega
  have e92 : 5 * (k + 1 - 1) + 2 = 5 * k + 2 := by omega
  unfold pHo
  by_cases q1 : D i = 28
  · have hi' := ne_T h.2.2.1 hi (by omega)
    rw [if_pos q1]
    have e := kb (by omega)
    rw [q1] at e
    rw [k7 7 (by omega) e, if_pos rfl]
    have U : fb_X5_orderClause_58 n 410 (nI 7) (g, Ps M (nI (i + 1)) (nI p) fl (nI L) (nI (k + 1)) S A (eC E k (nI 7)), ml) = fb_X5_orderClause_87 n 410 (g, Ps M (nI (i + 1)) (nI p) fl (nI L) (nI (k + 1)) S A (eC E k (nI 7)), ml) := if_neg (by decide)
    rw [U]
    obtain ⟨k1, k2⟩ := c_ti (fl := fl) (S := S) (A := A) (ml := ml) (n := n) (E := eC E k (nI 7)) (E0 := E) (i := i + 1) (p := p) (L := L) (c := []) (kd := 7) (f1 := none) (f2 := none) hs h (by omega) hk eC_n
    refine ⟨fun j p' c kd f1 f2 tm he => ?_, k2⟩
    obtain ⟨E', s1, s2, s3⟩ := k1 _ _ _ _ _ _ _ he
    subst s2
    exact ⟨S, A, E', by simpa using s1, Wr_0, s3⟩
  · rw [if_neg q1]
    by_cases q2 : D i = 20
    · have hi' := ne_T h.2.2.1 hi (by omega)
      rw [if_pos q2]
      rw [k7 0 (by omega) (ka q2), if_neg (by decide)]
      obtain ⟨k1, k2⟩ := c_w (fl := fl) (S := S) (A := A) (E := eC E k (nI 0)) (ml := ml) (i := i + 1) (p := p) (L := L) (k := k + 1) (w := 1) hs h hn (by omega) hp (by omega) (by omega) (by omega) (by decide)
      cases hc : pW true D V (i + 1) p L with
      | error q' =>
        obtain ⟨tk, pt, ln, S', A', E', s1⟩ := k2 q' hc
        refine ⟨fun j p' c kd f1 f2 tm he => absurd he (by simp), fun q he => ?_⟩
        injection he with he
        subst he
        exact ⟨tk, pt, ln, _, S', A', E', by rw [s1, zb_s, iEq1 rfl]⟩
      | ok x =>
        obtain ⟨j1, p1, c1, f⟩ := x
        obtain ⟨s0, S1, A1, s1, s2⟩ := k1 _ _ _ _ hc
        obtain ⟨b1, b2, b3, b4, b5⟩ := ok_w h.2.2.1 (by omega) hp hc
        rw [e9] at s1
        have e10 : oL (some f) = nI L := by rw [← s0]; rfl
        have k260 : (kk true T D j1 = 260) = (D j1 = 21) := kk_e h b2 (by decide +kernel) (by decide) (by decide)
        rw [s1, zb_s, iEq0 (by decide) (by decide) (by decide)]
        dsimp only
        by_cases q3 : D j1 = 21
        · rw [if_pos q3]
          have hj := ne_T h.2.2.1 b2 (by omega)
          have e11 : kk true T D j1 = 260 := by rw [k260]; exact q3
          have U : fb_X5_orderClause_58 n 410 (nI 0) (g, Ps M (nI j1) (nI p1) fl (nI (L + c1.length)) (nI (k + 1)) S1 A1 (upd (eC E k (nI 0)) (5 * k + 1) (nI L)), ml) = zb (f_X5_wholeSum n 410 (nI 2) (g, Ps M (nI (j1 + 1)) (nI p1) fl (nI (L + c1.length)) (nI (k + 1)) S1 A1 (upd (eC E k (nI 0)) (5 * k + 1) (nI L)), ml)) fun r3 h4 => if r3 = nI 0 then some (nI 0, h4) else fb_X5_orderClause_87 n 410 h4 := by
            unfold fb_X5_orderClause_58
            simp only [lit]
            simp (disch := omega) only [if_T, ↓S_ck410 hs, p_take hs h b2, e11, zb_s, nEq, if_neg]
            rfl
          obtain ⟨m1', m2⟩ := c_w (fl := fl) (S := S1) (A := A1) (E := upd (eC E k (nI 0)) (5 * k + 1) (nI L)) (ml := ml) (i := j1 + 1) (p := p1) (L := L + c1.length) (k := k + 1) (w := 2) hs h hn (by omega) b4 (by omega) (by omega) (by omega) (by decide)
          rw [U]
          cases hc2 : pW true D V (j1 + 1) p1 (L + c1.length) with
          | error q' =>
            obtain ⟨tk, pt, ln, S', A', E', s3⟩ := m2 q' hc2
            refine ⟨fun j p' c kd f1 f2 tm he => absurd he (by simp), fun q he => ?_⟩
            injection he with he
            subst he
            exact ⟨tk, pt, ln, _, S', A', E', by rw [s3, zb_s, iEq1 rfl]⟩
          | ok x =>
            obtain ⟨j2, p2, c2, f2⟩ := x
            obtain ⟨t0, S2, A2, t1, t2⟩ := m1' _ _ _ _ hc2
            obtain ⟨d1, d2, d3, d4, d5⟩ := ok_w h.2.2.1 (by omega) b4 hc2
            rw [e92] at t1
            have e12 : oL (some f2) = nI (L + c1.length) := by rw [← t0]; rfl
            rw [t1, zb_s, iEq0 (by decide) (by decide) (by decide)]
            have hE : En E (upd (upd (eC E k (nI 0)) (5 * k + 1) (nI L)) (5 * k + 2) (nI (L + c1.length))) k (nI 0) (oL (some f)) (oL (some f2)) (nI 1) m1 := by
              rw [e10, e12]
              exact En_2 (En_1 eC_n)
            obtain ⟨u1, u2⟩ := c_ti (fl := fl) (S := S2) (A := A2) (ml := ml) (n := n) (i := j2) (p := p2) (L := L + c1.length + c2.length) (c := c1 ++ c2) hs h d2 hk hE
            refine ⟨fun j p' c kd f1 f2 tm he => ?_, u2⟩
            obtain ⟨E', s1, s2', s3⟩ := u1 _ _ _ _ _ _ _ he
            subst s2'
            have e13 : L + (c1 ++ c2).length = L + c1.length + c2.length := by simp; omega
            rw [e13]
            exact ⟨S2, A2, E', s1, Wr_a s2 t2, s3⟩
        · rw [if_neg q3]
          have e11 : ¬ kk true T D j1 = 260 := by rw [k260]; exact q3
          refine ⟨fun j p' c kd f1 f2 tm he => absurd he (by simp), fun q he => ?_⟩
          injection he with he
          subst he
          refine ⟨nI j1, nI p1, nI (L + c1.length), nI (k + 1), S1, A1, upd (eC E k (nI 0)) (5 * k + 1) (nI L), ?_⟩
          unfold fb_X5_orderClause_58
          simp only [lit]
          simp (disch := omega) only [if_T, ↓S_ck410 hs, p_take hs h b2, e11, if_F, zb_s, p_fail hs h b2, zrZ0]
    · rw [if_neg q2]
      by_cases q3 : 22 ≤ D i ∧ D i ≤ 27
      · have hi' := ne_T h.2.2.1 hi (by omega)
        rw [if_pos q3]
        rw [k7 (D i - 21) (by omega) (kb (by omega)), if_neg (by omega)]
        obtain ⟨k1, k2⟩ := c_w (fl := fl) (S := S) (A := A) (E := eC E k (nI (D i - 21))) (ml := ml) (i := i + 1) (p := p) (L := L) (k := k + 1) (w := 1) hs h hn (by omega) hp (by omega) (by omega) (by omega) (by decide)
        cases hc : pW true D V (i + 1) p L with
        | error q' =>
          obtain ⟨tk, pt, ln, S', A', E', s1⟩ := k2 q' hc
          refine ⟨fun j p' c kd f1 f2 tm he => absurd he (by simp), fun q he => ?_⟩
          injection he with he
          subst he
          exact ⟨tk, pt, ln, _, S', A', E', by rw [s1, zb_s, iEq1 rfl]⟩
        | ok x =>
          obtain ⟨j1, p1, c1, f⟩ := x
          obtain ⟨s0, S1, A1, s1, s2⟩ := k1 _ _ _ _ hc
          obtain ⟨b1, b2, b3, b4, b5⟩ := ok_w h.2.2.1 (by omega) hp hc
          rw [e9] at s1
          have e10 : oL (some f) = nI L := by rw [← s0]; rfl
          rw [s1, zb_s, iEq0 (by decide) (by decide) (by decide)]
          have U : fb_X5_orderClause_58 n 410 (nI (D i - 21)) (g, Ps M (nI j1) (nI p1) fl (nI (L + c1.length)) (nI (k + 1)) S1 A1 (upd (eC E k (nI (D i - 21))) (5 * k + 1) (nI L)), ml) = fb_X5_orderClause_87 n 410 (g, Ps M (nI j1) (nI p1) fl (nI (L + c1.length)) (nI (k + 1)) S1 A1 (upd (eC E k (nI (D i - 21))) (5 * k + 1) (nI L)), ml) := if_neg (by
            intro z
            have := nI_inj (a := D i - 21) (b := 0) (by omega) (by decide) z
            omega)
          rw [U]
          have hE : En E (upd (eC E k (nI (D i - 21))) (5 * k + 1) (nI L)) k (nI (D i - 21)) (oL (some f)) (oL (none : Option (Nat × DS))) (nI 1) m1 := by
            rw [e10]
            exact En_1 eC_n
          obtain ⟨u1, u2⟩ := c_ti (fl := fl) (S := S1) (A := A1) (ml := ml) (n := n) (i := j1) (p := p1) (L := L + c1.length) (c := c1) hs h b2 hk hE
          refine ⟨fun j p' c kd f1 f2 tm he => ?_, u2⟩
          obtain ⟨E', s1, s2', s3⟩ := u1 _ _ _ _ _ _ _ he
          subst s2'
          exact ⟨S1, A1, E', s1, s2, s3⟩
      · rw [if_neg q3]
        refine ⟨fun j p' c kd f1 f2 tm he => absurd he (by simp), fun q he => ?_⟩
        injection he with he
        subst he
        refine ⟨nI i, nI p, nI L, nI k, S, A, E, ?_⟩
        unfold f_X5_orderClause fb_X5_orderClause_19
        simp only [lit]
        rcases kc (by omega) with z | z
        · have z2 := s300 _ z
          simp (disch := omega) only [↓S_ck410 hs, p_pres hs h hi, zb_s, ↓q_let, z2, if_T, p_fail hs h hi, zrZ0]
        · have z2 : nI (kk true T D i) - nI 300 = nI (kk true T D i - 300) := nI_sub (by omega)
          simp (disch := omega) only [↓S_ck410 hs, p_pres hs h hi, zb_s, ↓q_let, z2, nLt, nLe, if_neg, p_fail hs h hi, zrZ0]
theorem c_hd (hs : Sy g) (h : TC o M T D V P) (hn : 3000 < n) {i p L k : Nat} (hi : i ≤ T) (hp : p ≤ 50) (hL : L ≤ i) (hk : k < 12) : (∀ j p' c kd f1 f2 tm, pHd o D V i p L = .ok (j, p', c, kd, f1, f2, tm) → ∃ S' A' E', (if o = true then f_X5_orderClause n 410 else f_X5_lawClause n 410) (g, Ps M (nI i) (nI p) fl (nI L) (nI k) S A E, ml) = some (nI 1, (g, Ps M (nI j) (nI p') fl (nI (L + c.length)) (nI (k + 1)) S' A' E', ml)) ∧ Wr S A S' A' L c ∧ En E E' k (nI kd) (oL f1) (oL f2) (nI tm) m1) ∧ ∀ q, pHd o D V i p L = .error q → ∃ tk pt ln cc S' A' E', (if o = true then f_X5_orderClause n 410 else f_X5_lawClause n 410) (g, Ps M (nI i) (nI p) fl (nI L) (nI k) S A E, ml) = some (nI 0, (g, Ps M tk pt (nI (P q)) ln cc S' A' E', ml)) := by
  unfold pHd
  cases o
  · rw [if_neg (by decide), if_neg (by decide)]
    exact c_hl hs h hn hi hp hL hk
  · rw [if_pos rfl, if_pos rfl]
    exact c_ho hs h hn hi hp hL hk
/-- the entries and codes of a row of clauses -/
def EnL (E : Nat → Int32) : Nat → List Ci → Prop
  | _, [] => True
  | k, x :: l => (E (5 * k) = nI x.1 ∧ E (5 * k + 1) = oL x.2.1 ∧ E (5 * k + 2) = oL x.2.2.1 ∧ E (5 * k + 3) = nI x.2.2.2.1 ∧ E (5 * k + 4) = oL x.2.2.2.2) ∧ EnL E (k + 1) l
theorem c_rd (hs : Sy g) (h : TC o M T D V P) (hn : 3000 < n) : ∀ (m i p L k ff : Nat) (fl : Int32) (S A E : Nat → Int32) (ml : Nat → Nat → Int64), m + k = 12 → i ≤ T → p ≤ 50 → L ≤ i → m < ff → (∀ l c, pRd o D V T m i p L = .ok (l, c) → ∃ tk pt S' A' E', zlp3 (fb_X5_reads_33 n) ff 410 (tB o) (nI k) (g, Ps M (nI i) (nI p) fl (nI L) (nI k) S A E, ml) = some (nI 1, (g, Ps M tk pt fl (nI (L + c.length)) (nI (k + l.length)) S' A' E', ml)) ∧ Wr S A S' A' L c ∧ (∀ x, x < 5 * k → E' x = E x) ∧ EnL E' k l ∧ L + c.length ≤ 400 ∧ k + l.length ≤ 12) ∧ ∀ q, pRd o D V T m i p L = .error q → ∃ tk pt ln cc S' A' E', zlp3 (fb_X5_reads_33 n) ff 410 (tB o) (nI k) (g, Ps M (nI i) (nI p) fl (nI L) (nI k) S A E, ml) = some (nI 0, (g, Ps M tk pt (nI (P q)) ln cc S' A' E', ml))
  | m, i, p, L, k, 0, fl, S, A, E, ml, _, _, _, _, h1 => absurd h1 (by omega)
  | 0, i, p, L, k, ff + 1, fl, S, A, E, ml, hk, hi, hp, hL, _ => by
    refine ⟨fun l c he => absurd he (by simp [pRd]), fun q he => ?_⟩
    have he : (Except.error i : RR) = .error q := he
    injection he with he
    subst he
    refine ⟨nI i, nI p, nI L, nI k, S, A, E, ?_⟩
    show fb_X5_reads_33 n (zlp3 (fb_X5_reads_33 n) ff) 410 (tB o) (nI k) _ = _
    unfold fb_X5_reads_33 fb_X5_reads_136
    simp only [lit]
    simp (disch := omega) only [nLe, if_pos, ↓S_ck410 hs, p_fail hs h hi, zb_s, zrZ0]
  | m + 1, i, p, L, k, ff + 1, fl, S, A, E, ml, hk, hi, hp, hL, hf => by
    have hT := h.2.1
    generalize hX : zlp3 (fb_X5_reads_33 n) (ff + 1) 410 (tB o) (nI k) (g, Ps M (nI i) (nI p) fl (nI L) (nI k) S A E, ml) = X
    have hX0 : X = zb ((if o = true then f_X5_orderClause n 410 else f_X5_lawClause n 410) (g, Ps M (nI i) (nI p) fl (nI L) (nI k) S A E, ml)) fun r1 h2 => if r1 = nI 0 then some (nI 0, h2) else fb_X5_reads_62 n (zlp3 (fb_X5_reads_33 n) ff) 410 (tB o) (nI k) h2 := by
      rw [← hX]
      show fb_X5_reads_33 n (zlp3 (fb_X5_reads_33 n) ff) 410 (tB o) (nI k) _ = _
      generalize zlp3 (fb_X5_reads_33 n) ff = kx
      unfold fb_X5_reads_33
      simp only [lit]
      cases o
      · simp (disch := omega) only [nLe, if_neg, tb0', if_T, ↓S_ck410 hs, Bool.false_eq_true, if_F]
        rfl
      · simp (disch := omega) only [nLe, if_neg, tb1, nEq, if_T, ↓S_ck410 hs]
        rfl
    have finE : ∀ tk pt ln cc S' A' E' q', X = some (nI 0, (g, Ps M tk pt (nI (P q')) ln cc S' A' E', ml)) → (∀ l c, (.error q' : RR) = .ok (l, c) → ∃ tk pt S' A' E', X = some (nI 1, (g, Ps M tk pt fl (nI (L + c.length)) (nI (k + l.length)) S' A' E', ml)) ∧ Wr S A S' A' L c ∧ (∀ x, x < 5 * k → E' x = E x) ∧ EnL E' k l ∧ L + c.length ≤ 400 ∧ k + l.length ≤ 12) ∧ ∀ q, (.error q' : RR) = .error q → ∃ tk pt ln cc S' A' E', X = some (nI 0, (g, Ps M tk pt (nI (P q)) ln cc S' A' E', ml)) := by
      intro tk pt ln cc S' A' E' q' e1
      refine ⟨fun l c he => absurd he (by simp), fun q he => ?_⟩
      injection he with he
      subst he
      exact ⟨tk, pt, ln, cc, S', A', E', e1⟩
    obtain ⟨k1, k2⟩ := c_hd (fl := fl) (S := S) (A := A) (E := E) (ml := ml) (i := i) (p := p) (L := L) (k := k) hs h hn hi hp hL (by omega)
    unfold pRd pCl
    cases hc : pHd o D V i p L with
    | error q' =>
      obtain ⟨tk, pt, ln, cc, S', A', E', s1⟩ := k2 q' hc
      exact finE tk pt ln cc S' A' E' q' (by rw [hX0, s1, zb_s, iEq1 rfl])
    | ok y =>
      obtain ⟨j1, p1, c1, kd, f1, f2, tm⟩ := y
      obtain ⟨a1, a2, a3, a4, a5, a6, a7, a8⟩ := ok_hd h.2.2.1 hi hp hc
      obtain ⟨S1, A1, E1, s1, s2, s3⟩ := k1 _ _ _ _ _ _ _ hc
      rw [s1, zb_s, iEq0 (by decide) (by decide) (by decide)] at hX0
      -- behind the clause
      have tail : ∀ j2 p2 c2 td S2 A2 E2, j1 ≤ j2 → j2 ≤ T → p2 ≤ 50 → c2.length ≤ j2 - i → X = fb_X5_reads_107 n (zlp3 (fb_X5_reads_33 n) ff) 410 (tB o) (nI k) (g, Ps M (nI j2) (nI p2) fl (nI (L + c2.length)) (nI (k + 1)) S2 A2 E2, ml) → Wr S A S2 A2 L c2 → En E E2 k (nI kd) (oL f1) (oL f2) (nI tm) (oL td) → (∀ l c, (if j2 = T then .ok ([(kd, f1, f2, tm, td)], c2) else if D j2 = 159 then (match pRd o D V T m (j2 + 1) p2 (L + c2.length) with | .error q => .error q | .ok (l, c3) => .ok ((kd, f1, f2, tm, td) :: l, c2 ++ c3)) else .error j2 : RR) = .ok (l, c) → ∃ tk pt S' A' E', X = some (nI 1, (g, Ps M tk pt fl (nI (L + c.length)) (nI (k + l.length)) S' A' E', ml)) ∧ Wr S A S' A' L c ∧ (∀ x, x < 5 * k → E' x = E x) ∧ EnL E' k l ∧ L + c.length ≤ 400 ∧ k + l.length ≤ 12) ∧ ∀ q, (if j2 = T then .ok ([(kd, f1, f2, tm, td)], c2) else if D j2 = 159 then (match pRd o D V T m (j2 + 1) p2 (L + c2.length) with | .error q => .error q | .ok (l, c3) => .ok ((kd, f1, f2, tm, td) :: l, c2 ++ c3)) else .error j2 : RR) = .error q → ∃ tk pt ln cc S' A' E', X = some (nI 0, (g, Ps M tk pt (nI (P q)) ln cc S' A' E', ml)) := by
        intro j2 p2 c2 td S2 A2 E2 b0 b1 b2 b3 hX1 hW hE
        have hkb := kk_b h j2
        have k0 := kk_0 h b1
        have k59 : (kk o T D j2 = 59) = (D j2 = 159) := kk_e h b1 (by cases o <;> decide +kernel) (by decide) (by decide)
        by_cases z : j2 = T
        · rw [if_pos z]
          refine ⟨fun l c he => ?_, fun q he => absurd he (by simp)⟩
          injection he with he
          obtain ⟨e1, e2⟩ := he
          refine ⟨nI j2, nI p2, S2, A2, E2, ?_, hW, hE.1, ⟨⟨hE.2.1, hE.2.2.1, hE.2.2.2.1, hE.2.2.2.2.1, hE.2.2.2.2.2⟩, trivial⟩, by omega, by simp; omega⟩
          rw [hX1]
          have e3 : kk o T D j2 = 0 := by rw [k0]; exact z
          unfold fb_X5_reads_107
          simp only [lit]
          simp (disch := omega) only [↓S_ck410 hs, p_pres hs h b1, e3, zb_s, if_T]
          rfl
        · rw [if_neg z]
          have e3 : ¬ kk o T D j2 = 0 := by rw [k0]; exact z
          by_cases z2 : D j2 = 159
          · rw [if_pos z2]
            have e4 : kk o T D j2 = 59 := by rw [k59]; exact z2
            have e5 : X = zlp3 (fb_X5_reads_33 n) ff 410 (tB o) (nI (k + 1)) (g, Ps M (nI (j2 + 1)) (nI p2) fl (nI (L + c2.length)) (nI (k + 1)) S2 A2 E2, ml) := by
              rw [hX1]
              generalize zlp3 (fb_X5_reads_33 n) ff = kx
              unfold fb_X5_reads_107
              simp only [lit]
              simp (disch := omega) only [↓S_ck410 hs, p_pres hs h b1, e4, zb_s, nEq, if_neg, p_take hs h b1, if_T, nI_add]
            obtain ⟨m1', m2⟩ := c_rd hs h hn m (j2 + 1) p2 (L + c2.length) (k + 1) ff fl S2 A2 E2 ml (by omega) (by omega) b2 (by omega) (by omega)
            rw [e5]
            cases hr : pRd o D V T m (j2 + 1) p2 (L + c2.length) with
            | error q' =>
              obtain ⟨tk, pt, ln, cc, S', A', E', t1⟩ := m2 q' hr
              refine ⟨fun l c he => absurd he (by simp), fun q he => ?_⟩
              injection he with he
              subst he
              exact ⟨tk, pt, ln, cc, S', A', E', t1⟩
            | ok x =>
              obtain ⟨l3, c3⟩ := x
              obtain ⟨tk, pt, S', A', E', t1, t2, t3, t4, t5, t6⟩ := m1' _ _ hr
              refine ⟨fun l c he => ?_, fun q he => absurd he (by simp)⟩
              injection he with he
              obtain ⟨e6, e7⟩ := he
              have e8 : L + (c2 ++ c3).length = L + c2.length + c3.length := by simp; omega
              have e9 : k + ((kd, f1, f2, tm, td) :: l3).length = k + 1 + l3.length := by simp; omega
              rw [e8, e9]
              refine ⟨tk, pt, S', A', E', t1, Wr_a hW t2, fun x hx => by rw [t3 x (by omega), hE.1 x hx], ⟨⟨?_, ?_, ?_, ?_, ?_⟩, t4⟩, t5, t6⟩
              · rw [t3 _ (by omega)]; exact hE.2.1
              · rw [t3 _ (by omega)]; exact hE.2.2.1
              · rw [t3 _ (by omega)]; exact hE.2.2.2.1
              · rw [t3 _ (by omega)]; exact hE.2.2.2.2.1
              · rw [t3 _ (by omega)]; exact hE.2.2.2.2.2
          · rw [if_neg z2]
            have e4 : ¬ kk o T D j2 = 59 := by rw [k59]; exact z2
            refine ⟨fun l c he => absurd he (by simp), fun q he => ?_⟩
            injection he with he
            subst he
            refine ⟨nI j2, nI p2, nI (L + c2.length), nI (k + 1), S2, A2, E2, ?_⟩
            rw [hX1]
            generalize zlp3 (fb_X5_reads_33 n) ff = kx
            unfold fb_X5_reads_107 fb_X5_reads_125
            simp only [lit]
            simp (disch := omega) only [↓S_ck410 hs, p_pres hs h b1, zb_s, nEq, e3, if_F, p_take hs h b1, e4, if_T, p_fail hs h b1, zrZ0]
      have k256 := k_256 h a2
      dsimp only
      by_cases q : D j1 = 3
      · rw [if_pos q]
        have hj := ne_T h.2.2.1 a2 (by omega)
        have e4 : kk o T D j1 = 256 := by rw [k256]; exact q
        obtain ⟨m1', m2⟩ := c_test hs h hn 8 0 12 rfl (by decide) (j1 + 1) p1 (by omega) a4 (L + c1.length) fl (nI (k + 1)) S1 A1 (upd E1 (5 * k + 4) (nI (L + c1.length))) ml (by omega)
        have U : ∀ Y, (zb (f_X5_test n 12 410 (nI 0) (g, Ps M (nI (j1 + 1)) (nI p1) fl (nI (L + c1.length)) (nI (k + 1)) S1 A1 (upd E1 (5 * k + 4) (nI (L + c1.length))), ml)) fun r8 h9 => if r8 = nI 0 then some (nI 0, h9) else zgR h9 6 410 0 fun v10 => zck h9 9 v10 (zb (f_X8_addStep n v10 (nI 5) (nI 0) h9) fun r11 h12 => fb_X5_reads_107 n (zlp3 (fb_X5_reads_33 n) ff) 410 (tB o) (nI k) h12)) = Y → X = Y := by
          intro Y hY
          rw [hX0, ← hY]
          generalize zlp3 (fb_X5_reads_33 n) ff = kx
          unfold fb_X5_reads_62
          have e5 : 5 * (k + 1 - 1) + 4 = 5 * k + 4 := by omega
          simp only [lit]
          simp (disch := omega) only [↓S_ck410 hs, p_take hs h a2, e4, if_T, zb_s, nEq, if_neg, ↓S_gR410_0 hs, ↓p_gln hs, ↓S_ck411 hs, p_set hs, e5]
          rfl
        cases hc2 : pTest o D V 8 (j1 + 1) p1 with
        | error q' =>
          obtain ⟨tk, pt, ln, S', A', s4⟩ := m2 q' hc2
          exact finE tk pt ln _ S' A' _ q' (U _ (by rw [s4, zb_s, iEq1 rfl]))
        | ok z =>
          obtain ⟨j2, p2, k2', c2, d2⟩ := z
          obtain ⟨b1, b2, b3, b4, b5, b6, b7⟩ := ok_test h.2.2.1 8 _ _ _ _ _ _ _ (by omega) a4 hc2
          obtain ⟨S2, A2, s4, s5⟩ := m1' _ _ _ _ _ hc2
          have e8 : L + (c1 ++ c2 (L + c1.length) ++ [(5, 0)]).length = L + c1.length + k2' + 1 := by simp [b7]; omega
          have w1 := Wr_a s2 s5
          have e9 : L + (c1 ++ c2 (L + c1.length)).length = L + c1.length + k2' := by simp [b7]; omega
          have w2 : Wr S A (upd S2 (L + c1.length + k2') (nI 5)) (upd A2 (L + c1.length + k2') (nI 0)) L (c1 ++ c2 (L + c1.length) ++ [(5, 0)]) := by
            rw [← e9]; exact Wr_a w1 Wr_1
          refine tail j2 p2 _ (some (L + c1.length, d2)) _ _ (upd E1 (5 * k + 4) (nI (L + c1.length))) (by omega) b2 b4 (by simp [b7]; omega) (U _ ?_) w2 (En_4 s3)
          rw [s4, zb_s, iEq0 (by decide) (by decide) (by decide), S_gR410_0 hs, S_ck411 hs, p_add hs (by omega), zb_s, e8]
      · rw [if_neg q]
        have e4 : ¬ kk o T D j1 = 256 := by rw [k256]; exact q
        refine tail j1 p1 c1 none S1 A1 E1 (by omega) a2 a4 a5 ?_ s2 s3
        rw [hX0]
        generalize zlp3 (fb_X5_reads_33 n) ff = kx
        generalize hG : fb_X5_reads_107 n kx 410 (tB o) (nI k) = G
        unfold fb_X5_reads_62
        simp only [lit]
        simp (disch := omega) only [↓S_ck410 hs, p_take hs h a2, e4, if_F, if_T, zb_s, hG]
end
