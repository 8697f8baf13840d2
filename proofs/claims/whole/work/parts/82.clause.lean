/-! the plain form reads clauses -/
section
variable {g : zS} {M : Nat → Nat → Int32} {ml : Nat → Nat → Int64} {t l b : Int32} {n T : Nat} {D V P : Nat → Nat} {o : Bool}
theorem t_w (hs : Sy g) (h : TR o M T D V P) (hn : 3000 < n) {i p L : Nat} (hi : i ≤ T) (hp : p ≤ 50) : (∀ j p' c f, pW o D V i p L = .ok (j, p', c, f) → f_X12_readSum n 12 422 (nI 0) (g, Mt M (nI i) (nI p) m1, ml) = some ((), (g, Mt M (nI j) (nI p') m1, ml))) ∧ ∀ q, pW o D V i p L = .error q → q ≤ T ∧ ∃ t l, f_X12_readSum n 12 422 (nI 0) (g, Mt M (nI i) (nI p) m1, ml) = some ((), (g, Mt M t l (nI (P q)), ml)) := by
  obtain ⟨k1, k2⟩ := (t_sum hs h hn 8 0 12 rfl (by decide)).2 i p hi hp ml
  unfold pW
  cases hc : pSum o D V 8 i p with
  | error q' =>
    rw [hc] at k1 k2
    refine ⟨fun j p' c f he => absurd he (by simp), fun q he => ?_⟩
    injection he with he
    subst he
    exact k2 _ rfl
  | ok x =>
    obtain ⟨j1, p1, c1, d1⟩ := x
    rw [hc] at k1 k2
    refine ⟨fun j p' c f he => ?_, fun q he => absurd he (by simp)⟩
    injection he with he
    obtain ⟨e1, e2, e3, e4⟩ := he
    exact k1 _ _ rfl
theorem t_sb (hs : Sy g) (h : TR o M T D V P) (hn : 3000 < n) (hb : b ≠ m1) : f_X12_readSum n 12 422 (nI 0) (g, Mt M t l b, ml) = some ((), (g, Mt M t l b, ml)) := (t_sum hs h hn 8 0 12 rfl (by decide)).1 t l b ml hb
theorem t_21b (hs : Sy g) (hb : b ≠ m1) : fb_X12_readClause_21 n 422 (g, Mt M t l b, ml) = some ((), (g, Mt M t l b, ml)) := by
  unfold fb_X12_readClause_21
  simp only [lit]
  simp (disch := omega) only [↓S_ck422 hs, t_tk0 hs hb, zb_s, if_T]
theorem t_69b (hs : Sy g) (hb : b ≠ m1) : fb_X12_readOrder_69 n 422 (g, Mt M t l b, ml) = some ((), (g, Mt M t l b, ml)) := by
  unfold fb_X12_readOrder_69
  simp only [lit]
  simp (disch := omega) only [↓S_ck422 hs, t_tk0 hs hb, zb_s, if_T]
theorem t_53b (hs : Sy g) (hb : b ≠ m1) : fb_X12_readOrder_53 n 422 (g, Mt M t l b, ml) = some ((), (g, Mt M t l b, ml)) := by
  unfold fb_X12_readOrder_53
  simp only [lit]
  simp (disch := omega) only [↓S_ck422 hs, t_tk0 hs hb, zb_s, if_T, t_69b hs hb]
theorem t_21e : fb_X12_readClause_21 n 422 = fb_X12_readOrder_69 n 422 := rfl
/-- behind the head of a clause -/
theorem t_if (hs : Sy g) (h : TR o M T D V P) (hn : 3000 < n) {i p : Nat} (hi : i ≤ T) (hp : p ≤ 50) : fb_X12_readOrder_69 n 422 (g, Mt M (nI i) (nI p) m1, ml) = if D i = 3 then f_X12_readTest n 12 422 (nI 0) (g, Mt M (nI (i + 1)) (nI p) m1, ml) else some ((), (g, Mt M (nI i) (nI p) m1, ml)) := by
  unfold fb_X12_readOrder_69
  simp only [lit]
  simp (disch := omega) only [↓S_ck422 hs, t_tk1 hs h hi]
  by_cases q : D i = 3
  · simp (disch := omega) only [q, if_T, zb_s, nEq, if_neg, ↓S_ck422 hs, zb_iu]
  · simp (disch := omega) only [q, if_F, zb_s, if_T]
theorem t_cl (hs : Sy g) (h : TR o M T D V P) (hn : 3000 < n) {i p L : Nat} (hi : i ≤ T) (hp : p ≤ 50) : (∀ j p' c x, pCl o D V i p L = .ok (j, p', c, x) → f_X12_readOne n 422 (g, Mt M (nI i) (nI p) m1, ml) = some ((), (g, Mt M (nI j) (nI p') m1, ml))) ∧ ∀ q, pCl o D V i p L = .error q → q ≤ T ∧ ∃ t l, f_X12_readOne n 422 (g, Mt M (nI i) (nI p) m1, ml) = some ((), (g, Mt M t l (nI (P q)), ml)) := by
  have hT := h.2.1.1
  have hT0 := h.2.1.2.1
  have hD := h.2.1.2.2 i
  have key : (∀ j p' c kd f1 f2 tm, pHd o D V i p L = .ok (j, p', c, kd, f1, f2, tm) → f_X12_readOne n 422 (g, Mt M (nI i) (nI p) m1, ml) = fb_X12_readOrder_69 n 422 (g, Mt M (nI j) (nI p') m1, ml)) ∧ ∀ q, pHd o D V i p L = .error q → q ≤ T ∧ ∃ t l, f_X12_readOne n 422 (g, Mt M (nI i) (nI p) m1, ml) = some ((), (g, Mt M t l (nI (P q)), ml)) := by
    unfold pHd
    cases o with
    | false =>
      rw [if_neg (by decide)]
      have U : f_X12_readOne n 422 (g, Mt M (nI i) (nI p) m1, ml) = f_X12_readClause n 422 (g, Mt M (nI i) (nI p) m1, ml) := by
        unfold f_X12_readOne
        have h10 := h.2.2.1
        rw [t_10 hs, h10]
        simp only [lit]
        simp (disch := omega) only [tb0', if_T, ↓S_ck422 hs, zb_iu]
      rw [U]
      unfold pHl
      by_cases q1 : D i = 2
      · rw [if_pos q1]
        refine ⟨fun j p' c kd f1 f2 tm he => ?_, fun q he => absurd he (by simp)⟩
        injection he with he
        obtain ⟨e1, e2, e3, e4, e5, e6, e7⟩ := he
        unfold f_X12_readClause
        simp only [lit]
        simp (disch := omega) only [↓S_ck422 hs, t_tk1 hs h hi, if_neg, zb_s, if_T, t_mu1 hs h hi, q1]
        rfl
      · rw [if_neg q1]
        by_cases q2 : D i = 1
        · rw [if_pos q2]
          have hi' := ne_T hT0 hi (by omega)
          obtain ⟨k1, k2⟩ := t_w (ml := ml) (L := L) (i := i + 1) (p := p) hs h hn (by omega) hp
          have U2 : f_X12_readClause n 422 (g, Mt M (nI i) (nI p) m1, ml) = zb (f_X12_readSum n 12 422 (nI 0) (g, Mt M (nI (i + 1)) (nI p) m1, ml)) fun _ h6 => fb_X12_readOrder_69 n 422 h6 := by
            unfold f_X12_readClause
            simp only [lit]
            simp (disch := omega) only [↓S_ck422 hs, t_tk1 hs h hi, q2, if_T, zb_s, nEq, if_neg]
            rfl
          rw [U2]
          cases hc : pW false D V (i + 1) p L with
          | error q' =>
            obtain ⟨s1, t, l, s2⟩ := k2 q' hc
            refine ⟨fun j p' c kd f1 f2 tm he => absurd he (by simp), fun q he => ?_⟩
            injection he with he
            subst he
            exact ⟨s1, t, l, by rw [s2, zb_s, t_69b hs (t_pb h s1)]⟩
          | ok x =>
            obtain ⟨j1, p1, c1, f⟩ := x
            refine ⟨fun j p' c kd f1 f2 tm he => ?_, fun q he => absurd he (by simp)⟩
            injection he with he
            obtain ⟨e1, e2, e3, e4, e5, e6, e7⟩ := he
            rw [k1 _ _ _ _ hc, zb_s]
        · rw [if_neg q2]
          refine ⟨fun j p' c kd f1 f2 tm he => absurd he (by simp), fun q he => ?_⟩
          injection he with he
          subst he
          refine ⟨hi, nI i, nI p, ?_⟩
          unfold f_X12_readClause
          simp only [lit]
          simp (disch := omega) only [↓S_ck422 hs, t_tk1 hs h hi, q2, if_F, zb_s, if_T, t_mu1 hs h hi, q1, t_21b hs (t_pb h hi)]
    | true =>
      rw [if_pos rfl]
      have U : f_X12_readOne n 422 (g, Mt M (nI i) (nI p) m1, ml) = f_X12_readOrder n 422 (g, Mt M (nI i) (nI p) m1, ml) := by
        unfold f_X12_readOne
        have h10 := h.2.2.1
        rw [t_10 hs, h10]
        simp only [lit]
        simp (disch := omega) only [tb1, nEq, if_neg, ↓S_ck422 hs, zb_iu]
      rw [U]
      have ti : ∀ j0 p0 c0 kd0 (f10 f20 : Option (Nat × DS)), j0 ≤ T → p0 ≤ 50 → (∀ j p' c kd f1 f2 tm, pTi D V j0 p0 c0 kd0 f10 f20 = .ok (j, p', c, kd, f1, f2, tm) → fb_X12_readOrder_53 n 422 (g, Mt M (nI j0) (nI p0) m1, ml) = fb_X12_readOrder_69 n 422 (g, Mt M (nI j) (nI p') m1, ml)) ∧ ∀ q, pTi D V j0 p0 c0 kd0 f10 f20 = .error q → q ≤ T ∧ ∃ t l, fb_X12_readOrder_53 n 422 (g, Mt M (nI j0) (nI p0) m1, ml) = some ((), (g, Mt M t l (nI (P q)), ml)) := by
        intro j0 p0 c0 kd0 f10 f20 hj0 hp0
        unfold pTi
        by_cases q : D j0 = 29
        · have hj' := ne_T hT0 hj0 (by omega)
          rw [if_pos q]
          have U3 : fb_X12_readOrder_53 n 422 (g, Mt M (nI j0) (nI p0) m1, ml) = if D (j0 + 1) = 50 ∧ 1 ≤ V (j0 + 1) ∧ V (j0 + 1) ≤ 20 then fb_X12_readOrder_69 n 422 (g, Mt M (nI (j0 + 2)) (nI p0) m1, ml) else fb_X12_readOrder_69 n 422 (g, Mt M (nI (j0 + 1)) (nI p0) (nI (P (j0 + 1))), ml) := by
            unfold fb_X12_readOrder_53
            generalize fb_X12_readOrder_69 n 422 = G
            simp only [lit]
            simp (disch := omega) only [↓S_ck422 hs, t_tk1 hs h hj0, q, if_T, zb_s, nEq, if_neg, t_nu1 hs h]
            by_cases q2 : D (j0 + 1) = 50 ∧ 1 ≤ V (j0 + 1) ∧ V (j0 + 1) ≤ 20
            · simp only [q2, and_self, if_T, zb_s]
            · simp only [q2, if_F, zb_s]
          by_cases q2 : D (j0 + 1) = 50 ∧ 1 ≤ V (j0 + 1) ∧ V (j0 + 1) ≤ 20
          · rw [if_pos q2] at U3 ⊢
            refine ⟨fun j p' c kd f1 f2 tm he => ?_, fun q he => absurd he (by simp)⟩
            injection he with he
            obtain ⟨e1, e2, e3, e4, e5, e6, e7⟩ := he
            exact U3
          · rw [if_neg q2] at U3 ⊢
            refine ⟨fun j p' c kd f1 f2 tm he => absurd he (by simp), fun q he => ?_⟩
            injection he with he
            subst he
            exact ⟨by omega, _, _, by rw [U3, t_69b hs (t_pb h (by omega))]⟩
        · rw [if_neg q]
          refine ⟨fun j p' c kd f1 f2 tm he => ?_, fun q he => absurd he (by simp)⟩
          injection he with he
          obtain ⟨e1, e2, e3, e4, e5, e6, e7⟩ := he
          unfold fb_X12_readOrder_53
          generalize fb_X12_readOrder_69 n 422 = G
          simp only [lit]
          simp (disch := omega) only [↓S_ck422 hs, t_tk1 hs h hj0, q, if_F, zb_s, if_T]
      unfold pHo
      by_cases q1 : D i = 28
      · rw [if_pos q1]
        have hi' := ne_T hT0 hi (by omega)
        have U2 : f_X12_readOrder n 422 (g, Mt M (nI i) (nI p) m1, ml) = fb_X12_readOrder_53 n 422 (g, Mt M (nI (i + 1)) (nI p) m1, ml) := by
          unfold f_X12_readOrder
          generalize fb_X12_readOrder_53 n 422 = G
          simp only [lit]
          simp (disch := omega) only [↓S_ck422 hs, t_tk1 hs h hi, if_neg, zb_s, if_T, t_on1 hs h hi, t_mu1 hs h hi, q1]
        rw [U2]
        exact ti _ _ _ _ _ _ (by omega) hp
      · rw [if_neg q1]
        by_cases q2 : D i = 20
        · rw [if_pos q2]
          have hi' := ne_T hT0 hi (by omega)
          have U2 : f_X12_readOrder n 422 (g, Mt M (nI i) (nI p) m1, ml) = zb (f_X12_readSum n 12 422 (nI 0) (g, Mt M (nI (i + 1)) (nI p) m1, ml)) fun _ h10 => zck h10 13 422 (zb (f_X12_must n 422 (nI 21) h10) fun _ h12 => zck h12 13 422 (zb (f_X12_readSum n 12 422 (nI 0) h12) fun _ h14 => fb_X12_readOrder_53 n 422 h14)) := by
            unfold f_X12_readOrder
            generalize fb_X12_readOrder_53 n 422 = G
            simp only [lit]
            simp (disch := omega) only [↓S_ck422 hs, t_tk1 hs h hi, q2, if_T, zb_s, nEq, if_neg]
          obtain ⟨k1, k2⟩ := t_w (ml := ml) (L := L) (i := i + 1) (p := p) hs h hn (by omega) hp
          rw [U2]
          cases hc : pW true D V (i + 1) p L with
          | error q' =>
            obtain ⟨s1, t, l, s2⟩ := k2 q' hc
            have hx := t_pb h s1
            refine ⟨fun j p' c kd f1 f2 tm he => absurd he (by simp), fun q he => ?_⟩
            injection he with he
            subst he
            exact ⟨s1, t, l, by rw [s2, zb_s, S_ck422 hs, t_mu0 hs hx, zb_s, S_ck422 hs, t_sb hs h hn hx, zb_s, t_53b hs hx]⟩
          | ok x =>
            obtain ⟨j1, p1, c1, f⟩ := x
            obtain ⟨b1, b2, b3, b4, b5⟩ := ok_w hT0 (by omega) hp hc
            rw [k1 _ _ _ _ hc, zb_s, S_ck422 hs, t_mu1 hs h b2 (by decide)]
            dsimp only
            by_cases q3 : D j1 = 21
            · rw [if_pos q3, if_pos q3, zb_s, S_ck422 hs]
              have hj := ne_T hT0 b2 (by omega)
              obtain ⟨m1', m2⟩ := t_w (ml := ml) (L := L + c1.length) (i := j1 + 1) (p := p1) hs h hn (by omega) b4
              cases hc2 : pW true D V (j1 + 1) p1 (L + c1.length) with
              | error q' =>
                obtain ⟨s1, t, l, s2⟩ := m2 q' hc2
                have hx := t_pb h s1
                refine ⟨fun j p' c kd f1 f2 tm he => absurd he (by simp), fun q he => ?_⟩
                injection he with he
                subst he
                exact ⟨s1, t, l, by rw [s2, zb_s, t_53b hs hx]⟩
              | ok x =>
                obtain ⟨j2, p2, c2, f2⟩ := x
                obtain ⟨d1, d2, d3, d4, d5⟩ := ok_w hT0 (by omega) b4 hc2
                rw [m1' _ _ _ _ hc2, zb_s]
                exact ti _ _ _ _ _ _ d2 d4
            · rw [if_neg q3, if_neg q3, zb_s, S_ck422 hs]
              have hx := t_pb h b2
              refine ⟨fun j p' c kd f1 f2 tm he => absurd he (by simp), fun q he => ?_⟩
              injection he with he
              subst he
              exact ⟨b2, _, _, by rw [t_sb hs h hn hx, zb_s, t_53b hs hx]⟩
        · rw [if_neg q2]
          by_cases q3 : 22 ≤ D i ∧ D i ≤ 27
          · rw [if_pos q3]
            have hi' := ne_T hT0 hi (by omega)
            have U2 : f_X12_readOrder n 422 (g, Mt M (nI i) (nI p) m1, ml) = zb (f_X12_readSum n 12 422 (nI 0) (g, Mt M (nI (i + 1)) (nI p) m1, ml)) fun _ h8 => fb_X12_readOrder_53 n 422 h8 := by
              unfold f_X12_readOrder
              generalize fb_X12_readOrder_53 n 422 = G
              simp only [lit]
              simp (disch := omega) only [↓S_ck422 hs, t_tk1 hs h hi, q2, if_F, zb_s, if_T, t_on1 hs h hi, q3, and_self, nEq, if_neg]
            obtain ⟨k1, k2⟩ := t_w (ml := ml) (L := L) (i := i + 1) (p := p) hs h hn (by omega) hp
            rw [U2]
            cases hc : pW true D V (i + 1) p L with
            | error q' =>
              obtain ⟨s1, t, l, s2⟩ := k2 q' hc
              have hx := t_pb h s1
              refine ⟨fun j p' c kd f1 f2 tm he => absurd he (by simp), fun q he => ?_⟩
              injection he with he
              subst he
              exact ⟨s1, t, l, by rw [s2, zb_s, t_53b hs hx]⟩
            | ok x =>
              obtain ⟨j1, p1, c1, f⟩ := x
              obtain ⟨b1, b2, b3, b4, b5⟩ := ok_w hT0 (by omega) hp hc
              rw [k1 _ _ _ _ hc, zb_s]
              exact ti _ _ _ _ _ _ b2 b4
          · rw [if_neg q3]
            refine ⟨fun j p' c kd f1 f2 tm he => absurd he (by simp), fun q he => ?_⟩
            injection he with he
            subst he
            have hx := t_pb h hi
            refine ⟨hi, nI i, nI p, ?_⟩
            unfold f_X12_readOrder
            simp only [lit]
            simp (disch := omega) only [↓S_ck422 hs, t_tk1 hs h hi, q2, if_F, zb_s, if_T, t_on1 hs h hi, q3, t_mu1 hs h hi, q1, t_53b hs hx]
  obtain ⟨k1, k2⟩ := key
  unfold pCl
  cases hc : pHd o D V i p L with
  | error q' =>
    refine ⟨fun j p' c x he => absurd he (by simp), fun q he => ?_⟩
    injection he with he
    subst he
    exact k2 _ hc
  | ok y =>
    obtain ⟨j1, p1, c1, kd, f1, f2, tm⟩ := y
    obtain ⟨a1, a2, a3, a4, a5, a6, a7, a8⟩ := ok_hd hT0 hi hp hc
    rw [k1 _ _ _ _ _ _ _ hc, t_if hs h hn a2 a4]
    dsimp only
    by_cases q : D j1 = 3
    · rw [if_pos q, if_pos q]
      have hj := ne_T hT0 a2 (by omega)
      obtain ⟨m1', m2⟩ := (t_test hs h hn 8 0 12 rfl (by decide)).2 (j1 + 1) p1 (by omega) a4 ml
      cases hc2 : pTest o D V 8 (j1 + 1) p1 with
      | error q' =>
        rw [hc2] at m1' m2
        refine ⟨fun j p' c x he => absurd he (by simp), fun q he => ?_⟩
        injection he with he
        subst he
        exact m2 _ rfl
      | ok z =>
        obtain ⟨j2, p2, kx, c2, d2⟩ := z
        rw [hc2] at m1' m2
        refine ⟨fun j p' c x he => ?_, fun q he => absurd he (by simp)⟩
        injection he with he
        obtain ⟨e1, e2, e3, e4⟩ := he
        exact m1' _ _ rfl
    · rw [if_neg q, if_neg q]
      refine ⟨fun j p' c x he => ?_, fun q he => absurd he (by simp)⟩
      injection he with he
      obtain ⟨e1, e2, e3, e4⟩ := he
      rfl
theorem t_one (hs : Sy g) (h : TR o M T D V P) (hb : b ≠ m1) : fb_X12_reads_95 n 422 (g, Mt M t l b, ml) = some (nI 0, (g, zu (Mt M t l b) 422 14 b, ml)) := by
  unfold fb_X12_reads_95 f_X12_fine
  have e : zu (Mt M t l b) 422 14 b 422 21 = b := by rw [zu_k (by decide)]; rfl
  simp only [lit, ng1]
  simp (disch := omega) only [↓t_bd hs, ↓S_pI422 hs, ↓S_ck422 hs, ↓S_gI422 hs, e, hb, if_F, zb_s, zrZ0]
theorem t_73b (hs : Sy g) (h : TR o M T D V P) (hb : b ≠ m1) : fb_X12_reads_73 n 422 (g, Mt M t l b, ml) = some (nI 0, (g, zu (Mt M t l b) 422 14 b, ml)) := by
  unfold fb_X12_reads_73
  simp only [lit]
  simp (disch := omega) only [↓S_ck422 hs, t_fine0 hs hb, zb_s, if_T, t_one hs h hb]
theorem t_rlb (hs : Sy g) (h : TR o M T D V P) (hb : b ≠ m1) {k : Int32} {ff : Nat} (hf : 0 < ff) : zlp2 (fb_X12_reads_34 n) ff 422 k (g, Mt M t l b, ml) = some (nI 0, (g, zu (Mt M t l b) 422 14 b, ml)) := by
  obtain ⟨f, rfl⟩ : ∃ f, ff = f + 1 := ⟨ff - 1, by omega⟩
  show fb_X12_reads_34 n (zlp2 (fb_X12_reads_34 n) f) 422 k _ = _
  generalize zlp2 (fb_X12_reads_34 n) f = kx
  unfold fb_X12_reads_34 f_X12_sign
  simp only [lit]
  simp (disch := omega) only [zb_s, ↓S_ck422 hs, t_tk0 hs hb, if_T, t_73b hs h hb]
theorem t_rl (hs : Sy g) (h : TR o M T D V P) (hn : 3000 < n) (h18 : M 422 18 = nI T) : ∀ (m k ff j p L : Nat) (ml : Nat → Nat → Int64), m + k = 12 → 0 < k → j ≤ T → p ≤ 50 → m + 1 < ff → (∀ l0 c0, (if j = T then .ok ([], []) else if D j = 159 then pRd o D V T m (j + 1) p L else .error j : RR) = .ok (l0, c0) → ∃ t l, zlp2 (fb_X12_reads_34 n) ff 422 (nI k) (g, Mt M (nI j) (nI p) m1, ml) = some (nI 1, (g, zu (Mt M t l m1) 422 14 m1, ml))) ∧ ∀ q, (if j = T then .ok ([], []) else if D j = 159 then pRd o D V T m (j + 1) p L else .error j : RR) = .error q → q ≤ T ∧ ∃ t l, zlp2 (fb_X12_reads_34 n) ff 422 (nI k) (g, Mt M (nI j) (nI p) m1, ml) = some (nI 0, (g, zu (Mt M t l (nI (P q))) 422 14 (nI (P q)), ml))
  | m, k, 0, j, p, L, ml, _, _, _, _, h1 => absurd h1 (by omega)
  | m, k, ff + 1, j, p, L, ml, hk, hk0, hj, hp, hf => by
    have hT := h.2.1.1
    have hT0 := h.2.1.2.1
    have hD := h.2.1.2.2 j
    have tk18 : ∀ {K : Int32 → Option (Int32 × zH)} {t l b}, zgI ((g, Mt M t l b, ml) : zH) 13 422 18 K = K (nI T) := by
      intro K t l b
      rw [S_gI422 hs, ← h18]; rfl
    by_cases z2 : D j = 159
    · have hj' := ne_T hT0 hj (by omega)
      rw [if_neg (by omega), if_pos z2]
      have U : zlp2 (fb_X12_reads_34 n) (ff + 1) 422 (nI k) (g, Mt M (nI j) (nI p) m1, ml) = if k = 12 then zlp2 (fb_X12_reads_34 n) ff 422 (nI (k + 1)) (g, Mt M (nI (j + 1)) (nI p) (nI (P (j + 1))), ml) else zb (f_X12_readOne n 422 (g, Mt M (nI (j + 1)) (nI p) m1, ml)) fun _ h4 => zlp2 (fb_X12_reads_34 n) ff 422 (nI (k + 1)) h4 := by
        show fb_X12_reads_34 n (zlp2 (fb_X12_reads_34 n) ff) 422 (nI k) _ = _
        generalize zlp2 (fb_X12_reads_34 n) ff = kx
        unfold fb_X12_reads_34 f_X12_sign fb_X12_reads_56 fb_X12_reads_67
        simp only [lit]
        by_cases z : k = 12
        · simp (disch := omega) only [zb_s, nI_add, ↓S_ck422 hs, t_tk1 hs h hj, z2, if_T, nEq, if_neg, z, t_fl1 hs h, t_fine0 hs (t_pb h (i := j + 1) (by omega))]
        · simp (disch := omega) only [zb_s, nI_add, ↓S_ck422 hs, t_tk1 hs h hj, z2, if_T, nEq, if_neg, z, if_F, t_fine1 hs]
      rw [U]
      cases m with
      | zero =>
        rw [if_pos (by omega)]
        have hx := t_pb h (i := j + 1) (by omega)
        refine ⟨fun l0 c0 he => absurd he (by simp [pRd]), fun q he => ?_⟩
        have he : (Except.error (j + 1) : RR) = .error q := he
        injection he with he
        subst he
        exact ⟨by omega, _, _, t_rlb hs h hx (by omega)⟩
      | succ m =>
        rw [if_neg (by omega)]
        obtain ⟨k1, k2⟩ := t_cl (ml := ml) (i := j + 1) (p := p) (L := L) hs h hn (by omega) hp
        unfold pRd
        cases hc : pCl o D V (j + 1) p L with
        | error q' =>
          obtain ⟨s1, t, l, s2⟩ := k2 q' hc
          have hx := t_pb h s1
          refine ⟨fun l0 c0 he => absurd he (by simp), fun q he => ?_⟩
          injection he with he
          subst he
          exact ⟨s1, t, l, by rw [s2, zb_s, t_rlb hs h hx (by omega)]⟩
        | ok x =>
          obtain ⟨j1, p1, c1, x1⟩ := x
          obtain ⟨a1, a2, a3, a4, a5⟩ := ok_cl hT0 (by omega) hp hc
          rw [k1 _ _ _ _ hc, zb_s]
          obtain ⟨u1, u2⟩ := t_rl hs h hn h18 m (k + 1) ff j1 p1 (L + c1.length) ml (by omega) (by omega) a2 a4 (by omega)
          dsimp only
          by_cases w : j1 = T
          · rw [if_pos w] at u1 u2 ⊢
            refine ⟨fun l0 c0 he => u1 [] [] rfl, fun q he => absurd he (by simp)⟩
          · rw [if_neg w] at u1 u2 ⊢
            by_cases w2 : D j1 = 159
            · rw [if_pos w2] at u1 u2 ⊢
              cases hr : pRd o D V T m (j1 + 1) p1 (L + c1.length) with
              | error q' =>
                rw [hr] at u1 u2
                refine ⟨fun l0 c0 he => absurd he (by simp), fun q he => ?_⟩
                injection he with he
                subst he
                exact u2 _ rfl
              | ok x =>
                obtain ⟨l3, c3⟩ := x
                rw [hr] at u1 u2
                exact ⟨fun l0 c0 he => u1 _ _ rfl, fun q he => absurd he (by simp)⟩
            · rw [if_neg w2] at u1 u2 ⊢
              refine ⟨fun l0 c0 he => absurd he (by simp), fun q he => ?_⟩
              injection he with he
              subst he
              exact u2 _ rfl
    · have U : zlp2 (fb_X12_reads_34 n) (ff + 1) 422 (nI k) (g, Mt M (nI j) (nI p) m1, ml) = fb_X12_reads_73 n 422 (g, Mt M (nI j) (nI p) m1, ml) := by
        show fb_X12_reads_34 n (zlp2 (fb_X12_reads_34 n) ff) 422 (nI k) _ = _
        generalize zlp2 (fb_X12_reads_34 n) ff = kx
        generalize hG : fb_X12_reads_73 n 422 = G
        unfold fb_X12_reads_34 f_X12_sign
        simp only [lit]
        simp (disch := omega) only [zb_s, nI_add, ↓S_ck422 hs, t_tk1 hs h hj, z2, if_F, if_T, hG]
      rw [U]
      by_cases z : j = T
      · rw [if_pos z]
        refine ⟨fun l0 c0 he => ?_, fun q he => absurd he (by simp)⟩
        refine ⟨nI j, nI p, ?_⟩
        have e : zu (Mt M (nI j) (nI p) m1) 422 14 m1 422 21 = m1 := by rw [zu_k (by decide)]; rfl
        unfold fb_X12_reads_73 fb_X12_reads_95 f_X12_fine
        simp only [lit, ng1]
        simp (disch := omega) only [↓t_bd hs, ↓S_ck422 hs, if_T, zb_s, nEq, if_neg, ↓t_tk hs, ↓tk18, nLe, if_pos, ↓S_pI422 hs, ↓S_gI422 hs, e, zrZ1]
      · rw [if_neg z, if_neg z2]
        refine ⟨fun l0 c0 he => absurd he (by simp), fun q he => ?_⟩
        injection he with he
        subst he
        have hx := t_pb h hj
        refine ⟨hj, nI j, nI p, ?_⟩
        unfold fb_X12_reads_73
        simp only [lit]
        simp (disch := omega) only [↓S_ck422 hs, t_fine1 hs, zb_s, nEq, if_neg, ↓t_tk hs, ↓tk18, nLe, t_fl1 hs h hj, t_one hs h hx]
end
