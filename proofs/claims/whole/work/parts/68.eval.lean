/-! the plain form at work on the row of tokens: rows of tests -/
section
variable {g : zS} {M : Nat → Nat → Int32} {v e : Nat → Int32} {n B T : Nat} {D V : Nat → Nat} {o : Bool} {kH : Nat → Int32 → zH → Option (Int32 × zH)}
theorem e_bl (hs : Sy g) (h : EV M v B T D V) {sub : Nat → Nat → RT} (ok : OkT T sub) (hv : VT g M v e B T sub (f_X12_plainOf n kH 422)) : ∀ (f i p k : Nat) (c : Nat → List (Nat × Nat)) (d : DT) (j p' k' : Nat) (c' : Nat → List (Nat × Nat)) (d' : DT) (ff : Nat) (l lv b0 b : Int32) (ml : Nat → Nat → Int64), i ≤ T → p ≤ 50 → T < i + f → T < i + ff → (lv = nI 0 ∨ lv = nI 1) → pJp D sub 5 4 false f (i, p, k, c, d) = .ok (j, p', k', c', d') → RsT lv b0 b l (d e) → ∃ r b', zlp3 (fb_X12_bothOf_6 n kH) ff 422 lv l (g, zrw (Mg M (nI (B + i)) b) 424 v, ml) = some (r, (g, zrw (Mg M (nI (B + j)) b') 424 v, ml)) ∧ RsT lv b0 b' r (d' e)
  | 0, i, p, k, c, d, j, p', k', c', d', ff, l, lv, b0, b, ml, h1, _, h2, _, _, _, _ => absurd h2 (by omega)
  | f + 1, i, p, k, c, d, j, p', k', c', d', 0, l, lv, b0, b, ml, h1, _, _, h2, _, _, _ => absurd h2 (by omega)
  | f + 1, i, p, k, c, d, j, p', k', c', d', ff + 1, l, lv, b0, b, ml, hi, hp, hf, hff, hl, hh, hR => by
    have hB := h.1.2
    unfold pJp at hh
    by_cases q : D i = 5
    · rw [if_pos q] at hh
      have hi' : i < T := by
        rcases Nat.lt_or_eq_of_le hi with z | z
        · exact z
        · rw [z, h.2.2.1] at q; omega
      cases hc : sub (i + 1) p with
      | error q => rw [hc] at hh; exact absurd hh (by simp)
      | ok y =>
        obtain ⟨j1, p1, k1, c1, d1⟩ := y
        rw [hc] at hh
        obtain ⟨a1, a2, a3, a4, a5, a6, a7⟩ := ok _ _ _ _ _ _ _ (by omega) hp hc
        have hjv : jv false lv l = nI 0 ∨ jv false lv l = nI 1 := by
          unfold jv
          split
          · exact Or.inr rfl
          · exact Or.inl rfl
        obtain ⟨r, b1, f1, f2⟩ := hv _ _ _ _ _ _ _ (by omega) hp hc (jv false lv l) b ml hjv hR.1
        have hR2 := RsT_j hR f2
        have ih := e_bl hs h ok hv f j1 p1 _ _ _ j p' k' c' d' ff (jr false l r) lv b0 b1 ml a2 a4 (by omega) (by omega) hl hh hR2
        obtain ⟨r', b', m1, m2⟩ := ih
        refine ⟨r', b', ?_, m2⟩
        rw [← m1]
        show fb_X12_bothOf_6 n kH (zlp3 (fb_X12_bothOf_6 n kH) ff) 422 lv l _ = _
        generalize zlp3 (fb_X12_bothOf_6 n kH) ff = kk
        have key : fb_X12_bothOf_28 n kH kk 422 lv l 422 (jv false lv l) (g, zrw (Mg M (nI (B + (i + 1))) b) 424 v, ml) = kk 422 lv (jr false l r) (g, zrw (Mg M (nI (B + j1)) b1) 424 v, ml) := by
          unfold fb_X12_bothOf_28 fb_X12_bothOf_44 fb_X12_bothOf_45
          rw [S_ck422 hs, f1, zb_s]
          simp only [lit]
          rcases hR.2.1 with y | y <;> subst y <;> rcases f2.2.1 with w | w <;> subst w <;> rfl
        unfold fb_X12_bothOf_6 fb_X12_bothOf_27
        simp only [lit]
        simp (disch := omega) only [↓S_ck422 hs, e_pass hs h hi, q, if_T, zb_s, ↓iEq0]
        rw [← key]
        rcases hl with y | y <;> subst y <;> rcases hR.2.1 with y | y <;> subst y <;> rfl
    · rw [if_neg q] at hh
      injection hh with hh
      obtain ⟨r1, r2, r3, r4, r5⟩ := hh
      refine ⟨l, b, ?_, hR⟩
      show fb_X12_bothOf_6 n kH (zlp3 (fb_X12_bothOf_6 n kH) ff) 422 lv l _ = _
      generalize zlp3 (fb_X12_bothOf_6 n kH) ff = kk
      unfold fb_X12_bothOf_6
      simp only [lit]
      simp (disch := omega) only [↓S_ck422 hs, e_pass hs h hi, q, if_F, if_T, zb_s]
      exact q_rZ hR.2.1
termination_by f => f
theorem e_bo (hs : Sy g) (h : EV M v B T D V) (hn : 3000 < n) {sub : Nat → Nat → RT} (ok : OkT T sub) (hv : VT g M v e B T sub (f_X12_plainOf n kH 422)) : VT g M v e B T (pJn D sub 5 4 false) (f_X12_bothOf n kH 422) := by
  intro i p j p' k c d hi hp hh lv b ml hl hb
  have hB := h.1.2
  unfold pJn at hh
  cases hc : sub i p with
  | error q => rw [hc] at hh; exact absurd hh (by simp)
  | ok y =>
    obtain ⟨j1, p1, k1, c1, d1⟩ := y
    rw [hc] at hh
    obtain ⟨a1, a2, a3, a4, a5, a6, a7⟩ := ok _ _ _ _ _ _ _ hi hp hc
    obtain ⟨w, b1, f1, f2⟩ := hv _ _ _ _ _ _ _ hi hp hc lv b ml hl hb
    obtain ⟨r, b', m1, m2⟩ := e_bl hs h ok hv 401 j1 p1 k1 c1 d1 j p' k c d n w lv b b1 ml a2 a4 (by omega) (by omega) hl hh f2
    refine ⟨r, b', ?_, m2⟩
    unfold f_X12_bothOf
    rw [S_ck422 hs, f1, zb_s, m1]
theorem e_ol (hs : Sy g) (h : EV M v B T D V) {sub : Nat → Nat → RT} (ok : OkT T sub) (hv : VT g M v e B T sub (f_X12_bothOf n kH 422)) : ∀ (f i p k : Nat) (c : Nat → List (Nat × Nat)) (d : DT) (j p' k' : Nat) (c' : Nat → List (Nat × Nat)) (d' : DT) (ff : Nat) (l lv b0 b : Int32) (ml : Nat → Nat → Int64), i ≤ T → p ≤ 50 → T < i + f → T < i + ff → (lv = nI 0 ∨ lv = nI 1) → pJp D sub 4 3 true f (i, p, k, c, d) = .ok (j, p', k', c', d') → RsT lv b0 b l (d e) → ∃ r b', zlp3 (fb_X12_testOf_6 n kH) ff 422 lv l (g, zrw (Mg M (nI (B + i)) b) 424 v, ml) = some (r, (g, zrw (Mg M (nI (B + j)) b') 424 v, ml)) ∧ RsT lv b0 b' r (d' e)
  | 0, i, p, k, c, d, j, p', k', c', d', ff, l, lv, b0, b, ml, h1, _, h2, _, _, _, _ => absurd h2 (by omega)
  | f + 1, i, p, k, c, d, j, p', k', c', d', 0, l, lv, b0, b, ml, h1, _, _, h2, _, _, _ => absurd h2 (by omega)
  | f + 1, i, p, k, c, d, j, p', k', c', d', ff + 1, l, lv, b0, b, ml, hi, hp, hf, hff, hl, hh, hR => by
    have hB := h.1.2
    unfold pJp at hh
    by_cases q : D i = 4
    · rw [if_pos q] at hh
      have hi' : i < T := by
        rcases Nat.lt_or_eq_of_le hi with z | z
        · exact z
        · rw [z, h.2.2.1] at q; omega
      cases hc : sub (i + 1) p with
      | error q => rw [hc] at hh; exact absurd hh (by simp)
      | ok y =>
        obtain ⟨j1, p1, k1, c1, d1⟩ := y
        rw [hc] at hh
        obtain ⟨a1, a2, a3, a4, a5, a6, a7⟩ := ok _ _ _ _ _ _ _ (by omega) hp hc
        have hjv : jv true lv l = nI 0 ∨ jv true lv l = nI 1 := by
          unfold jv
          split
          · exact Or.inr rfl
          · exact Or.inl rfl
        obtain ⟨r, b1, f1, f2⟩ := hv _ _ _ _ _ _ _ (by omega) hp hc (jv true lv l) b ml hjv hR.1
        have hR2 := RsT_j hR f2
        have ih := e_ol hs h ok hv f j1 p1 _ _ _ j p' k' c' d' ff (jr true l r) lv b0 b1 ml a2 a4 (by omega) (by omega) hl hh hR2
        obtain ⟨r', b', m1, m2⟩ := ih
        refine ⟨r', b', ?_, m2⟩
        rw [← m1]
        show fb_X12_testOf_6 n kH (zlp3 (fb_X12_testOf_6 n kH) ff) 422 lv l _ = _
        generalize zlp3 (fb_X12_testOf_6 n kH) ff = kk
        have key : fb_X12_testOf_28 n kH kk 422 lv l 422 (jv true lv l) (g, zrw (Mg M (nI (B + (i + 1))) b) 424 v, ml) = kk 422 lv (jr true l r) (g, zrw (Mg M (nI (B + j1)) b1) 424 v, ml) := by
          unfold fb_X12_testOf_28 fb_X12_testOf_40 fb_X12_testOf_45
          rw [S_ck422 hs, f1, zb_s]
          simp only [lit]
          rcases hR.2.1 with y | y <;> subst y <;> rcases f2.2.1 with w | w <;> subst w <;> rfl
        unfold fb_X12_testOf_6 fb_X12_testOf_27
        simp only [lit]
        simp (disch := omega) only [↓S_ck422 hs, e_pass hs h hi, q, if_T, zb_s, ↓iEq0]
        rw [← key]
        rcases hl with y | y <;> subst y <;> rcases hR.2.1 with y | y <;> subst y <;> rfl
    · rw [if_neg q] at hh
      injection hh with hh
      obtain ⟨r1, r2, r3, r4, r5⟩ := hh
      refine ⟨l, b, ?_, hR⟩
      show fb_X12_testOf_6 n kH (zlp3 (fb_X12_testOf_6 n kH) ff) 422 lv l _ = _
      generalize zlp3 (fb_X12_testOf_6 n kH) ff = kk
      unfold fb_X12_testOf_6
      simp only [lit]
      simp (disch := omega) only [↓S_ck422 hs, e_pass hs h hi, q, if_F, if_T, zb_s]
      exact q_rZ hR.2.1
termination_by f => f
theorem e_or (hs : Sy g) (h : EV M v B T D V) (hn : 3000 < n) {sub : Nat → Nat → RT} (ok : OkT T sub) (hv : VT g M v e B T sub (f_X12_bothOf n kH 422)) : VT g M v e B T (pJn D sub 4 3 true) (fB_X12_testOf n kH 422) := by
  intro i p j p' k c d hi hp hh lv b ml hl hb
  have hB := h.1.2
  unfold pJn at hh
  cases hc : sub i p with
  | error q => rw [hc] at hh; exact absurd hh (by simp)
  | ok y =>
    obtain ⟨j1, p1, k1, c1, d1⟩ := y
    rw [hc] at hh
    obtain ⟨a1, a2, a3, a4, a5, a6, a7⟩ := ok _ _ _ _ _ _ _ hi hp hc
    obtain ⟨w, b1, f1, f2⟩ := hv _ _ _ _ _ _ _ hi hp hc lv b ml hl hb
    obtain ⟨r, b', m1, m2⟩ := e_ol hs h ok hv 401 j1 p1 k1 c1 d1 j p' k c d n w lv b b1 ml a2 a4 (by omega) (by omega) hl hh f2
    refine ⟨r, b', ?_, m2⟩
    unfold fB_X12_testOf
    rw [S_ck422 hs, f1, zb_s, m1]
theorem e_ts (hs : Sy g) (h : EV M v B T D V) (hn : 3000 < n) {sub : Nat → Nat → RT} {sum : Nat → Nat → RS} (okt : OkT T sub) (ok : OkS T sum) (hv : VT g M v e B T sub (kH 422)) (hw : VS g M v e B T sum (f_X12_sumOf n 12 422)) : VT g M v e B T (pTs D sub sum) (fB_X12_testOf n kH 422) :=
  e_or hs h hn (ok_jn h.2.2.1 (ok_pln h.2.2.1 okt ok) (by decide)) (e_bo hs h hn (ok_pln h.2.2.1 okt ok) (e_pln hs h hn okt ok hv hw))
theorem e_test (hs : Sy g) (h : EV M v B T D V) (ho : EO o n g M v e) (hn : 3000 < n) : ∀ (r t : Nat), r < t → r ≤ 8 → VT g M v e B T (pTest o D V r) (f_X12_testOf n t 422)
  | r, 0, ht, _ => absurd ht (by omega)
  | 0, t + 1, ht, _ => e_ts (kH := f_X12_testOf n t) hs h hn ok_et (ok_sum h.2.2.1 0) (fun _ _ _ _ _ _ _ _ _ h => absurd h (by simp)) (e_sum hs h ho hn 0 12 (by decide))
  | r + 1, t + 1, ht, hr => e_ts (kH := f_X12_testOf n t) hs h hn (ok_test h.2.2.1 r) (ok_sum h.2.2.1 (r + 1)) (e_test hs h ho hn r t (by omega) (by omega)) (e_sum hs h ho hn (r + 1) 12 (by omega))
end
