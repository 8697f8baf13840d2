/-! the plain form at work on the row of tokens: terms, sums -/
theorem Res_2 {lv b0 b b1 b2 b3 : Int32} {acc w r : Int64} {d d1 dz : Option Int64} {R : Int64 → Int64 → Option Int64} (h1 : Res lv b0 b acc d) (h2 : Res lv b b1 w d1) (h3 : Res lv b2 b3 r dz) (hz : lv = nI 1 → b1 = nI 0 → (b2 = nI 0 ∧ dz = R acc w) ∨ (b2 = nI 1 ∧ R acc w = none)) (hb : ¬ (lv = nI 1 ∧ b1 = nI 0) → b2 = b1) : Res lv b0 b3 r (o2 R d d1) := by
  refine ⟨h3.1, fun hl => ?_, fun hl => ?_⟩
  · obtain ⟨p1, p2⟩ := h1.2.1 hl
    cases hd : d with
    | none =>
      have e1 := p2 hd
      have e2 := h2.2.2 (fun z => n01 (z.2.symm.trans e1))
      have e3 := hb (fun z => n01 (z.2.symm.trans (e2.trans e1)))
      have e4 := h3.2.2 (fun z => n01 (z.2.symm.trans (e3.trans (e2.trans e1))))
      exact ⟨fun x hx => absurd hx (by simp [o2]), fun _ => e4.trans (e3.trans (e2.trans e1))⟩
    | some a =>
      obtain ⟨e1, e2⟩ := p1 a hd
      obtain ⟨q1, q2⟩ := h2.2.1 ⟨hl.1, e2⟩
      cases hd1 : d1 with
      | none =>
        have e3 := q2 hd1
        have e4 := hb (fun z => n01 (z.2.symm.trans e3))
        have e5 := h3.2.2 (fun z => n01 (z.2.symm.trans (e4.trans e3)))
        exact ⟨fun x hx => absurd hx (by simp [o2]), fun _ => e5.trans (e4.trans e3)⟩
      | some c =>
        obtain ⟨e3, e4⟩ := q1 c hd1
        have e5 : o2 R (some a) (some c) = R acc w := by rw [e1, e3]; rfl
        rw [e5]
        rcases hz hl.1 e4 with ⟨f1, f2⟩ | ⟨f1, f2⟩
        · rw [← f2]
          exact h3.2.1 ⟨hl.1, f1⟩
        · rw [f2]
          exact ⟨fun x hx => absurd hx (by simp), fun _ => (h3.2.2 (fun z => n01 (z.2.symm.trans f1))).trans f1⟩
  · have e1 := h1.2.2 hl
    have e2 := h2.2.2 (fun z => hl ⟨z.1, e1.symm.trans z.2⟩)
    have e3 := hb (fun z => hl ⟨z.1, e1.symm.trans (e2.symm.trans z.2)⟩)
    have e4 := h3.2.2 (fun z => hl ⟨z.1, e1.symm.trans (e2.symm.trans (e3.symm.trans z.2))⟩)
    exact e4.trans (e3.trans (e2.trans e1))
theorem bin_o {s : Nat} {d d' : DS} {e : Nat → Int32} : bin s d d' e = o2 (bop s) (d e) (d' e) := by
  unfold bin o2
  cases d e with
  | none => rfl
  | some a => cases d' e <;> rfl
theorem bop_43 (a b : Int64) : bop (143 - 100) a b = bnd (a + b) := if_pos (by decide)
theorem bop_45 (a b : Int64) : bop (145 - 100) a b = bnd (a - b) := by
  unfold bop
  rw [if_neg (by decide), if_pos (by decide)]
theorem bop_42 (a b : Int64) : bop (142 - 100) a b = bnd (a * b) := by
  unfold bop
  rw [if_neg (by decide), if_neg (by decide), if_pos (by decide)]
theorem bop_47 (a b : Int64) : bop (147 - 100) a b = if b = 0 then none else bnd (a / b) := by
  unfold bop
  rw [if_neg (by decide), if_neg (by decide), if_neg (by decide)]
  by_cases h : b = 0
  · rw [if_pos h, if_pos h]
  · rw [if_neg h, if_neg h, if_pos (by decide)]
theorem bop_37 (a b : Int64) : bop (137 - 100) a b = if b = 0 then none else bnd (a - a / b * b) := by
  unfold bop
  rw [if_neg (by decide), if_neg (by decide), if_neg (by decide)]
  by_cases h : b = 0
  · rw [if_pos h, if_pos h]
  · rw [if_neg h, if_neg h, if_neg (by decide)]
section
variable {g : zS} {M : Nat → Nat → Int32} {v e : Nat → Int32} {n B T : Nat} {D V : Nat → Nat} {o : Bool} {kH : Nat → Int32 → zH → Option (Int64 × zH)}
theorem ti_c (k : Nat) : isTi k = true ↔ (k = 142 ∨ k = 147 ∨ k = 137) := by
  unfold isTi
  simp
  omega
theorem lo_c (k : Nat) : isLo k = true ↔ (k = 143 ∨ k = 145) := by
  unfold isLo
  simp
theorem e_tl (hs : Sy g) (h : EV M v B T D V) {part : Nat → Nat → RS} (ok : OkS T part) (hv : VS g M v e B T part (f_X12_partOf n kH 422)) : ∀ (f i p : Nat) (c : List (Nat × Nat)) (d : DS) (j p' : Nat) (c' : List (Nat × Nat)) (d' : DS) (ff : Nat) (acc : Int64) (lv b0 b : Int32) (ml : Nat → Nat → Int64), i ≤ T → p ≤ 50 → T < i + f → T < i + ff → (lv = nI 0 ∨ lv = nI 1) → pLp D part isTi f (i, p, c, d) = .ok (j, p', c', d') → Res lv b0 b acc (d e) → ∃ r b', zlp3 (fb_X12_termOf_6 n kH) ff 422 lv acc (g, zrw (Mg M (nI (B + i)) b) 424 v, ml) = some (r, (g, zrw (Mg M (nI (B + j)) b') 424 v, ml)) ∧ Res lv b0 b' r (d' e)
  | 0, i, p, c, d, j, p', c', d', ff, acc, lv, b0, b, ml, h1, _, h2, _, _, _, _ => absurd h2 (by omega)
  | f + 1, i, p, c, d, j, p', c', d', 0, acc, lv, b0, b, ml, h1, _, _, h2, _, _, _ => absurd h2 (by omega)
  | f + 1, i, p, c, d, j, p', c', d', ff + 1, acc, lv, b0, b, ml, hi, hp, hf, hff, hl, hh, hR => by
    have hB := h.1.2
    have hD := h.2.2.2 i
    unfold pLp at hh
    by_cases q : isTi (D i) = true
    · rw [if_pos q] at hh
      rw [ti_c] at q
      have hi' : i < T := by
        rcases Nat.lt_or_eq_of_le hi with z | z
        · exact z
        · rw [z, h.2.2.1] at q; omega
      cases hc : part (i + 1) p with
      | error q => rw [hc] at hh; exact absurd hh (by simp)
      | ok x =>
        obtain ⟨j1, p1, c1, d1⟩ := x
        rw [hc] at hh
        obtain ⟨a1, a2, a3, a4, a5, a6⟩ := ok _ _ _ _ _ _ (by omega) hp hc
        obtain ⟨w, b1, f1, f2⟩ := hv _ _ _ _ _ _ (by omega) hp hc lv b ml hl hR.1
        have key : ∃ r b3, fb_X12_termOf_54 n kH (zlp3 (fb_X12_termOf_6 n kH) ff) 422 lv acc (g, zrw (Mg M (nI (B + i)) b) 424 v, ml) = zlp3 (fb_X12_termOf_6 n kH) ff 422 lv r (g, zrw (Mg M (nI (B + j1)) b3) 424 v, ml) ∧ Res lv b0 b3 r (bin (D i - 100) d d1 e) := by
          rw [bin_o]
          generalize zlp3 (fb_X12_termOf_6 n kH) ff = kk
          have hb1 := f2.1
          rcases q with q | q | q
          · obtain ⟨r, b3, k1, k2⟩ := e_bnd (M := M) (v := v) (ml := ml) (x := nI (B + j1)) (n := n) (z := acc * w) hs hl hb1
            refine ⟨r, b3, ?_, Res_2 hR f2 k2 (fun _ hz => Or.inl ⟨hz, ?_⟩) (fun _ => rfl)⟩
            · unfold fb_X12_termOf_54 f_X12_sign
              simp only [lit]
              simp (disch := omega) only [↓g_go hs, ↓S_ck422 hs, e_code hs h hi, zb_s, ↓g_pgo hs, nI_add, Nat.add_assoc, f1, q, if_T]
              unfold fb_X12_termOf_121 f_X12_sign fb_X12_termOf_160
              simp only [lit]
              simp (disch := omega) only [zb_s, nI_add, if_T, ↓S_ck422 hs, k1]
            · rw [q, bop_42]
          · by_cases z : w = 0
            · have hb2 : ∃ b2, (b2 = nI 0 ∨ b2 = nI 1) ∧ (lv = nI 1 → b2 = nI 1) ∧ (¬ (lv = nI 1 ∧ b1 = nI 0) → b2 = b1) := ⟨if lv = nI 1 then nI 1 else b1, by
                by_cases y : lv = nI 1
                · rw [if_pos y]; exact Or.inr rfl
                · rw [if_neg y]; exact hb1, fun y => if_pos y, fun y => by
                by_cases x : lv = nI 1
                · rw [if_pos x]
                  rcases hb1 with s | s
                  · exact absurd ⟨x, s⟩ y
                  · exact s.symm
                · rw [if_neg x]⟩
              obtain ⟨b2, s1, s2, s3⟩ := hb2
              obtain ⟨r, b3, k1, k2⟩ := e_bnd (M := M) (v := v) (ml := ml) (x := nI (B + j1)) (n := n) (z := acc / 1) hs hl s1
              refine ⟨r, b3, ?_, Res_2 hR f2 k2 (fun hz _ => Or.inr ⟨s2 hz, ?_⟩) s3⟩
              · have k1' : fb_X12_termOf_121 n kH kk 422 lv acc (nI 147) 1 (g, zrw (Mg M (nI (B + j1)) b2) 424 v, ml) = kk 422 lv r (g, zrw (Mg M (nI (B + j1)) b3) 424 v, ml) := by
                  unfold fb_X12_termOf_121 f_X12_sign fb_X12_termOf_160
                  have o1 : ((1 : Int64) = 0) = False := by decide
                  simp only [lit]
                  simp (disch := omega) only [zb_s, nI_add, nEq, if_neg, if_T, o1, if_F, ↓S_ck422 hs, k1]
                unfold fb_X12_termOf_54 f_X12_sign fb_X12_termOf_110 fb_X12_termOf_115
                simp only [lit]
                simp (disch := omega) only [↓g_go hs, ↓S_ck422 hs, e_code hs h hi, zb_s, ↓g_pgo hs, nI_add, Nat.add_assoc, f1, q, nEq, if_neg, cmp0, z, if_T, ↓g_br hs]
                rcases hb1 with y | y <;> subst y
                · rcases hl with x | x <;> subst x
                  · have := s3 (fun y => n01 y.1)
                    subst this
                    simp only [if_T]
                    rw [g_pbr hs (Or.inl rfl)]
                    exact k1'
                  · have := s2 rfl
                    subst this
                    simp (disch := omega) only [if_T, nEq, if_neg]
                    rw [g_pbr hs (Or.inr rfl)]
                    exact k1'
                · have := s3 (fun y => n01 y.2.symm)
                  subst this
                  simp (disch := omega) only [nEq, if_neg]
                  rw [g_pbr hs (Or.inr rfl)]
                  exact k1'
              · rw [q, bop_47, if_pos z]
            · obtain ⟨r, b3, k1, k2⟩ := e_bnd (M := M) (v := v) (ml := ml) (x := nI (B + j1)) (n := n) (z := acc / w) hs hl hb1
              refine ⟨r, b3, ?_, Res_2 hR f2 k2 (fun _ hz => Or.inl ⟨hz, ?_⟩) (fun _ => rfl)⟩
              · unfold fb_X12_termOf_54 f_X12_sign
                simp only [lit]
                simp (disch := omega) only [↓g_go hs, ↓S_ck422 hs, e_code hs h hi, zb_s, ↓g_pgo hs, nI_add, Nat.add_assoc, f1, q, nEq, if_neg, cmp0, z, if_F]
                unfold fb_X12_termOf_121 f_X12_sign fb_X12_termOf_160
                simp only [lit]
                simp (disch := omega) only [zb_s, nI_add, nEq, if_neg, if_T, z, if_F, ↓S_ck422 hs, k1]
              · rw [q, bop_47, if_neg z]
          · by_cases z : w = 0
            · have hb2 : ∃ b2, (b2 = nI 0 ∨ b2 = nI 1) ∧ (lv = nI 1 → b2 = nI 1) ∧ (¬ (lv = nI 1 ∧ b1 = nI 0) → b2 = b1) := ⟨if lv = nI 1 then nI 1 else b1, by
                by_cases y : lv = nI 1
                · rw [if_pos y]; exact Or.inr rfl
                · rw [if_neg y]; exact hb1, fun y => if_pos y, fun y => by
                by_cases x : lv = nI 1
                · rw [if_pos x]
                  rcases hb1 with s | s
                  · exact absurd ⟨x, s⟩ y
                  · exact s.symm
                · rw [if_neg x]⟩
              obtain ⟨b2, s1, s2, s3⟩ := hb2
              obtain ⟨r, b3, k1, k2⟩ := e_bnd (M := M) (v := v) (ml := ml) (x := nI (B + j1)) (n := n) (z := acc - acc / 1 * 1) hs hl s1
              refine ⟨r, b3, ?_, Res_2 hR f2 k2 (fun hz _ => Or.inr ⟨s2 hz, ?_⟩) s3⟩
              · have k1' : fb_X12_termOf_121 n kH kk 422 lv acc (nI 137) 1 (g, zrw (Mg M (nI (B + j1)) b2) 424 v, ml) = kk 422 lv r (g, zrw (Mg M (nI (B + j1)) b3) 424 v, ml) := by
                  unfold fb_X12_termOf_121 f_X12_sign fb_X12_termOf_160
                  have o1 : ((1 : Int64) = 0) = False := by decide
                  simp only [lit]
                  simp (disch := omega) only [zb_s, nI_add, nEq, if_neg, if_T, o1, if_F, ↓S_ck422 hs, k1]
                unfold fb_X12_termOf_54 f_X12_sign fb_X12_termOf_110 fb_X12_termOf_115
                simp only [lit]
                simp (disch := omega) only [↓g_go hs, ↓S_ck422 hs, e_code hs h hi, zb_s, ↓g_pgo hs, nI_add, Nat.add_assoc, f1, q, nEq, if_neg, cmp0, z, if_T, ↓g_br hs]
                rcases hb1 with y | y <;> subst y
                · rcases hl with x | x <;> subst x
                  · have := s3 (fun y => n01 y.1)
                    subst this
                    simp only [if_T]
                    rw [g_pbr hs (Or.inl rfl)]
                    exact k1'
                  · have := s2 rfl
                    subst this
                    simp (disch := omega) only [if_T, nEq, if_neg]
                    rw [g_pbr hs (Or.inr rfl)]
                    exact k1'
                · have := s3 (fun y => n01 y.2.symm)
                  subst this
                  simp (disch := omega) only [nEq, if_neg]
                  rw [g_pbr hs (Or.inr rfl)]
                  exact k1'
              · rw [q, bop_37, if_pos z]
            · obtain ⟨r, b3, k1, k2⟩ := e_bnd (M := M) (v := v) (ml := ml) (x := nI (B + j1)) (n := n) (z := acc - acc / w * w) hs hl hb1
              refine ⟨r, b3, ?_, Res_2 hR f2 k2 (fun _ hz => Or.inl ⟨hz, ?_⟩) (fun _ => rfl)⟩
              · unfold fb_X12_termOf_54 f_X12_sign
                simp only [lit]
                simp (disch := omega) only [↓g_go hs, ↓S_ck422 hs, e_code hs h hi, zb_s, ↓g_pgo hs, nI_add, Nat.add_assoc, f1, q, nEq, if_neg, cmp0, z, if_F]
                unfold fb_X12_termOf_121 f_X12_sign fb_X12_termOf_160
                simp only [lit]
                simp (disch := omega) only [zb_s, nI_add, nEq, if_neg, if_T, z, if_F, ↓S_ck422 hs, k1]
              · rw [q, bop_37, if_neg z]
        obtain ⟨r, b3, k1, k2⟩ := key
        have ih := e_tl hs h ok hv f j1 p1 _ _ j p' c' d' ff r lv b0 b3 ml a2 a4 (by omega) (by omega) hl hh k2
        obtain ⟨r', b', m1, m2⟩ := ih
        refine ⟨r', b', ?_, m2⟩
        rw [← m1, ← k1]
        show fb_X12_termOf_6 n kH (zlp3 (fb_X12_termOf_6 n kH) ff) 422 lv acc _ = _
        generalize zlp3 (fb_X12_termOf_6 n kH) ff = kk
        generalize hE : fb_X12_termOf_54 n kH kk 422 lv acc (g, zrw (Mg M (nI (B + i)) b) 424 v, ml) = E
        unfold fb_X12_termOf_6 f_X12_sign
        simp only [lit]
        rcases q with q | q | q
        · simp (disch := omega) only [↓g_go hs, ↓S_ck422 hs, e_code hs h hi, zb_s, nI_add, nEq, q, if_neg, if_T, hE]
        · simp (disch := omega) only [↓g_go hs, ↓S_ck422 hs, e_code hs h hi, zb_s, nI_add, nEq, q, if_neg, if_T, hE]
        · simp (disch := omega) only [↓g_go hs, ↓S_ck422 hs, e_code hs h hi, zb_s, nI_add, nEq, q, if_neg, if_T, hE]
    · rw [if_neg q] at hh
      rw [ti_c] at q
      injection hh with hh
      obtain ⟨r1, r2, r3, r4⟩ := hh
      refine ⟨acc, b, ?_, hR⟩
      show fb_X12_termOf_6 n kH (zlp3 (fb_X12_termOf_6 n kH) ff) 422 lv acc _ = _
      generalize zlp3 (fb_X12_termOf_6 n kH) ff = kk
      unfold fb_X12_termOf_6 f_X12_sign
      simp only [lit]
      simp (disch := omega) only [↓g_go hs, ↓S_ck422 hs, e_code hs h hi, zb_s, nI_add, nEq, if_neg]
termination_by f => f
theorem e_tm (hs : Sy g) (h : EV M v B T D V) (hn : 3000 < n) {part : Nat → Nat → RS} (ok : OkS T part) (hv : VS g M v e B T part (f_X12_partOf n kH 422)) : VS g M v e B T (pTm D part) (f_X12_termOf n kH 422) := by
  intro i p j p' c d hi hp hh lv b ml hl hb
  have hB := h.1.2
  unfold pTm pCh at hh
  cases hc : part i p with
  | error q => rw [hc] at hh; exact absurd hh (by simp)
  | ok x =>
    obtain ⟨j1, p1, c1, d1⟩ := x
    rw [hc] at hh
    obtain ⟨a1, a2, a3, a4, a5, a6⟩ := ok _ _ _ _ _ _ hi hp hc
    obtain ⟨w, b1, f1, f2⟩ := hv _ _ _ _ _ _ hi hp hc lv b ml hl hb
    obtain ⟨r, b', k1, k2⟩ := e_tl hs h ok hv 401 j1 p1 c1 d1 j p' c d n w lv b b1 ml a2 a4 (by omega) (by omega) hl hh f2
    refine ⟨r, b', ?_, k2⟩
    unfold f_X12_termOf
    rw [S_ck422 hs, f1, zb_s, k1]
theorem e_sl (hs : Sy g) (h : EV M v B T D V) {term : Nat → Nat → RS} (ok : OkS T term) (hv : VS g M v e B T term (f_X12_termOf n kH 422)) : ∀ (f i p : Nat) (c : List (Nat × Nat)) (d : DS) (j p' : Nat) (c' : List (Nat × Nat)) (d' : DS) (ff : Nat) (acc : Int64) (lv b0 b : Int32) (ml : Nat → Nat → Int64), i ≤ T → p ≤ 50 → T < i + f → T < i + ff → (lv = nI 0 ∨ lv = nI 1) → pLp D term isLo f (i, p, c, d) = .ok (j, p', c', d') → Res lv b0 b acc (d e) → ∃ r b', zlp3 (fb_X12_sumOf_6 n kH) ff 422 lv acc (g, zrw (Mg M (nI (B + i)) b) 424 v, ml) = some (r, (g, zrw (Mg M (nI (B + j)) b') 424 v, ml)) ∧ Res lv b0 b' r (d' e)
  | 0, i, p, c, d, j, p', c', d', ff, acc, lv, b0, b, ml, h1, _, h2, _, _, _, _ => absurd h2 (by omega)
  | f + 1, i, p, c, d, j, p', c', d', 0, acc, lv, b0, b, ml, h1, _, _, h2, _, _, _ => absurd h2 (by omega)
  | f + 1, i, p, c, d, j, p', c', d', ff + 1, acc, lv, b0, b, ml, hi, hp, hf, hff, hl, hh, hR => by
    have hB := h.1.2
    have hD := h.2.2.2 i
    unfold pLp at hh
    by_cases q : isLo (D i) = true
    · rw [if_pos q] at hh
      rw [lo_c] at q
      have hi' : i < T := by
        rcases Nat.lt_or_eq_of_le hi with z | z
        · exact z
        · rw [z, h.2.2.1] at q; omega
      cases hc : term (i + 1) p with
      | error q => rw [hc] at hh; exact absurd hh (by simp)
      | ok x =>
        obtain ⟨j1, p1, c1, d1⟩ := x
        rw [hc] at hh
        obtain ⟨a1, a2, a3, a4, a5, a6⟩ := ok _ _ _ _ _ _ (by omega) hp hc
        obtain ⟨w, b1, f1, f2⟩ := hv _ _ _ _ _ _ (by omega) hp hc lv b ml hl hR.1
        have key : ∃ r b3, fb_X12_sumOf_38 n kH (zlp3 (fb_X12_sumOf_6 n kH) ff) 422 lv acc (g, zrw (Mg M (nI (B + i)) b) 424 v, ml) = zlp3 (fb_X12_sumOf_6 n kH) ff 422 lv r (g, zrw (Mg M (nI (B + j1)) b3) 424 v, ml) ∧ Res lv b0 b3 r (bin (D i - 100) d d1 e) := by
          rw [bin_o]
          generalize zlp3 (fb_X12_sumOf_6 n kH) ff = kk
          have hb1 := f2.1
          rcases q with q | q
          · obtain ⟨r, b3, k1, k2⟩ := e_bnd (M := M) (v := v) (ml := ml) (x := nI (B + j1)) (n := n) (z := acc + w) hs hl hb1
            refine ⟨r, b3, ?_, Res_2 hR f2 k2 (fun _ hz => Or.inl ⟨hz, ?_⟩) (fun _ => rfl)⟩
            · unfold fb_X12_sumOf_38 fb_X12_sumOf_59 fb_X12_sumOf_95 f_X12_sign
              simp only [lit]
              simp (disch := omega) only [↓g_go hs, ↓S_ck422 hs, e_code hs h hi, zb_s, ↓g_pgo hs, nI_add, Nat.add_assoc, f1, q, if_T, nEq, if_neg, k1]
            · rw [q, bop_43]
          · obtain ⟨r, b3, k1, k2⟩ := e_bnd (M := M) (v := v) (ml := ml) (x := nI (B + j1)) (n := n) (z := acc - w) hs hl hb1
            refine ⟨r, b3, ?_, Res_2 hR f2 k2 (fun _ hz => Or.inl ⟨hz, ?_⟩) (fun _ => rfl)⟩
            · unfold fb_X12_sumOf_38 fb_X12_sumOf_59 fb_X12_sumOf_95 f_X12_sign
              simp only [lit]
              simp (disch := omega) only [↓g_go hs, ↓S_ck422 hs, e_code hs h hi, zb_s, ↓g_pgo hs, nI_add, Nat.add_assoc, f1, q, if_T, nEq, if_neg, k1]
            · rw [q, bop_45]
        obtain ⟨r, b3, k1, k2⟩ := key
        have ih := e_sl hs h ok hv f j1 p1 _ _ j p' c' d' ff r lv b0 b3 ml a2 a4 (by omega) (by omega) hl hh k2
        obtain ⟨r', b', m1, m2⟩ := ih
        refine ⟨r', b', ?_, m2⟩
        rw [← m1, ← k1]
        show fb_X12_sumOf_6 n kH (zlp3 (fb_X12_sumOf_6 n kH) ff) 422 lv acc _ = _
        generalize zlp3 (fb_X12_sumOf_6 n kH) ff = kk
        generalize hE : fb_X12_sumOf_38 n kH kk 422 lv acc (g, zrw (Mg M (nI (B + i)) b) 424 v, ml) = E
        unfold fb_X12_sumOf_6 f_X12_sign
        simp only [lit]
        rcases q with q | q
        · simp (disch := omega) only [↓g_go hs, ↓S_ck422 hs, e_code hs h hi, zb_s, nI_add, nEq, q, if_neg, if_T, hE]
        · simp (disch := omega) only [↓g_go hs, ↓S_ck422 hs, e_code hs h hi, zb_s, nI_add, nEq, q, if_neg, if_T, hE]
    · rw [if_neg q] at hh
      rw [lo_c] at q
      injection hh with hh
      obtain ⟨r1, r2, r3, r4⟩ := hh
      refine ⟨acc, b, ?_, hR⟩
      show fb_X12_sumOf_6 n kH (zlp3 (fb_X12_sumOf_6 n kH) ff) 422 lv acc _ = _
      generalize zlp3 (fb_X12_sumOf_6 n kH) ff = kk
      unfold fb_X12_sumOf_6 f_X12_sign
      simp only [lit]
      simp (disch := omega) only [↓g_go hs, ↓S_ck422 hs, e_code hs h hi, zb_s, nI_add, nEq, if_neg]
termination_by f => f
theorem e_sm (hs : Sy g) (h : EV M v B T D V) (hn : 3000 < n) {part : Nat → Nat → RS} (ok : OkS T part) (hv : VS g M v e B T part (f_X12_partOf n kH 422)) : VS g M v e B T (pSm D part) (fB_X12_sumOf n kH 422) := by
  intro i p j p' c d hi hp hh lv b ml hl hb
  have hB := h.1.2
  have okt : OkS T (pTm D part) := ok_ch h.2.2.1 ok rfl
  have hvt := e_tm hs h hn ok hv
  unfold pSm pCh at hh
  cases hc : pTm D part i p with
  | error q => rw [hc] at hh; exact absurd hh (by simp)
  | ok x =>
    obtain ⟨j1, p1, c1, d1⟩ := x
    rw [hc] at hh
    obtain ⟨a1, a2, a3, a4, a5, a6⟩ := okt _ _ _ _ _ _ hi hp hc
    obtain ⟨w, b1, f1, f2⟩ := hvt _ _ _ _ _ _ hi hp hc lv b ml hl hb
    obtain ⟨r, b', k1, k2⟩ := e_sl hs h okt hvt 401 j1 p1 c1 d1 j p' c d n w lv b b1 ml a2 a4 (by omega) (by omega) hl hh f2
    refine ⟨r, b', ?_, k2⟩
    unfold fB_X12_sumOf
    rw [S_ck422 hs, f1, zb_s, k1]
theorem e_sum (hs : Sy g) (h : EV M v B T D V) (ho : EO o n g M v e) (hn : 3000 < n) : ∀ (r t : Nat), r < t → VS g M v e B T (pSum o D V r) (f_X12_sumOf n t 422)
  | r, 0, ht => absurd ht (by omega)
  | 0, t + 1, ht => e_sm (kH := f_X12_sumOf n t) hs h hn (ok_part h.2.2.1 ok_e) (e_part hs h ho ok_e (fun _ _ _ _ _ _ _ _ h => absurd h (by simp)))
  | r + 1, t + 1, ht => e_sm (kH := f_X12_sumOf n t) hs h hn (ok_part h.2.2.1 (ok_sum h.2.2.1 r)) (e_part hs h ho (ok_sum h.2.2.1 r) (e_sum hs h ho hn r t (by omega)))
end
