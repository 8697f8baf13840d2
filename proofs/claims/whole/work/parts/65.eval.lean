/-! the plain form at work on the row of tokens: parts, terms, sums -/
def EO (o : Bool) (n : Nat) (g : zS) (M : Nat → Nat → Int32) (v e : Nat → Int32) : Prop := if o = true then M 422 25 = nI 1 ∧ ∀ x b ml, (∀ d k, 13 ≤ d → d ≤ 17 → f_X12_orderValue n 422 (nI d) k (g, zrw (Mg M x b) 424 v, ml) = some (e (d - 13), (g, zrw (Mg M x b) 424 v, ml))) ∧ (∀ k, k ≤ 7 → f_X12_orderValue n 422 (nI 18) (nI k) (g, zrw (Mg M x b) 424 v, ml) = some (e (5 + k), (g, zrw (Mg M x b) 424 v, ml))) ∧ ∀ k, k ≤ 99 → f_X12_orderValue n 422 (nI 19) (nI k) (g, zrw (Mg M x b) 424 v, ml) = some (e (13 + k), (g, zrw (Mg M x b) 424 v, ml)) else M 422 25 = nI 0 ∧ ∀ d, 7 ≤ d → d ≤ 13 → M 434 (d - 7) = e (wi false d)
section
variable {g : zS} {M : Nat → Nat → Int32} {v e : Nat → Int32} {n B T : Nat} {D V : Nat → Nat} {o : Bool}
def SE (g : zS) (M : Nat → Nat → Int32) (v : Nat → Int32) (B : Nat) (F : Int32 → zH → Option (Int64 × zH)) (i j : Nat) (d : Option Int64) : Prop := ∀ lv b ml, (lv = nI 0 ∨ lv = nI 1) → (b = nI 0 ∨ b = nI 1) → ∃ r b', F lv (g, zrw (Mg M (nI (B + i)) b) 424 v, ml) = some (r, (g, zrw (Mg M (nI (B + j)) b') 424 v, ml)) ∧ Res lv b b' r d
def VS (g : zS) (M : Nat → Nat → Int32) (v e : Nat → Int32) (B T : Nat) (sub : Nat → Nat → RS) (F : Int32 → zH → Option (Int64 × zH)) : Prop := ∀ i p j p' c d, i ≤ T → p ≤ 50 → sub i p = .ok (j, p', c, d) → SE g M v B F i j (d e)
theorem e_94 (hs : Sy g) {kH : Nat → Int32 → zH → Option (Int64 × zH)} {i d : Nat} {k x : Int32} {lv b : Int32} {ml : Nat → Nat → Int64} {z : Int32} (hl : lv = nI 0 ∨ lv = nI 1) (hb : b = nI 0 ∨ b = nI 1) (hd : d < 1000) (hz : (d = 50 ∧ x = nI (B + i + 1) ∧ B + i < 2800 ∧ v (3015 + (B + i)) = z) ∨ (d ≠ 50 ∧ M 422 25 = nI 1 ∧ f_X12_orderValue n 422 (nI d) k (g, zrw (Mg M x b) 424 v, ml) = some (z, (g, zrw (Mg M x b) 424 v, ml))) ∨ (7 ≤ d ∧ d ≤ 13 ∧ M 422 25 = nI 0 ∧ M 434 (d - 7) = z)) : ∃ r b', fb_X12_partOf_94 n kH 422 lv (nI d) k (g, zrw (Mg M x b) 424 v, ml) = some (r, (g, zrw (Mg M x b') 424 v, ml)) ∧ Res lv b b' r (some z.toInt64) := by
  unfold fb_X12_partOf_94
  simp only [lit]
  rcases hl with q | q <;> subst q
  · exact ⟨0, b, if_pos rfl, hb, fun h => absurd h.1 n01, fun _ => rfl⟩
  · simp (disch := omega) only [↓iEq0, ↓g_br hs]
    rcases hb with q | q <;> subst q
    · refine ⟨z.toInt64, nI 0, ?_, Or.inl rfl, fun _ => ⟨fun y hy => ?_, fun hy => absurd hy (by simp)⟩, fun _ => rfl⟩
      · rcases hz with ⟨h1, h2, h3, h4⟩ | ⟨h1, h2, h3⟩ | ⟨h1, h2, h3, h4⟩
        · subst h1
          subst h2
          have e1 : nI 3015 + nI (B + i + 1) - nI 1 = nI (3015 + (B + i)) := by
            rw [nI_add, nI_sub (by omega)]; rfl
          simp (disch := omega) only [if_T, S_gR422_2 hs, ↓g_go hs, e1, R_a hs, h4]
        · simp (disch := omega) only [if_T, nEq, if_neg, ↓g_in hs, h2, S_ck422 hs, h3, zb_s]
        · have e1 : zrw (Mg M x (nI 0)) 424 v 434 (d - 7) = z := by
            rw [zrw_a (by decide), ← h4]; rfl
          simp (disch := omega) only [if_T, nEq, if_neg, ↓g_in hs, h3, S_gR422_26 hs, nI_sub, S_aI434 hs, e1]
      · injection hy with hy
        exact ⟨hy, rfl⟩
    · refine ⟨0, nI 1, ?_, Or.inr rfl, fun h => absurd h.2.symm n01, fun _ => rfl⟩
      simp (disch := omega) only [nEq, if_neg]
theorem e_part (hs : Sy g) (h : EV M v B T D V) (ho : EO o n g M v e) {sub : Nat → Nat → RS} {kH : Nat → Int32 → zH → Option (Int64 × zH)} (ok : OkS T sub) (hv : VS g M v e B T sub (kH 422)) : VS g M v e B T (pPart o D V sub) (f_X12_partOf n kH 422) := by
  intro i p j p' c d hi hp hh lv b ml hl hb
  have hB := h.1.2
  have hDi := h.2.2.2 i
  unfold pPart at hh
  have hne : ∀ k, k ≤ T → D k ≠ 0 → k < T := fun k h1 h2 => by
    rcases Nat.lt_or_eq_of_le h1 with q | q
    · exact q
    · exact absurd (by rw [q]; exact h.2.2.1) h2
  by_cases q1 : D i = 191
  · rw [if_pos q1] at hh
    have hi' := hne i hi (by omega)
    cases hc : sub (i + 1) p with
    | error q => rw [hc] at hh; exact absurd hh (by simp)
    | ok x =>
      obtain ⟨j1, p1, c1, d1⟩ := x
      rw [hc] at hh
      obtain ⟨a1, a2, a3, a4, a5, a6⟩ := ok _ _ _ _ _ _ (by omega) hp hc
      dsimp only at hh
      by_cases q2 : D j1 = 193
      · rw [if_pos q2] at hh
        injection hh with hh
        obtain ⟨r1, r2, r3, r4⟩ := hh
        obtain ⟨r, b', f1, f2⟩ := hv _ _ _ _ _ _ (by omega) hp hc lv b ml hl hb
        refine ⟨r, b', ?_, f2⟩
        unfold f_X12_partOf f_X12_sign
        simp only [lit]
        simp (disch := omega) only [zb_s, nI_add, ↓S_ck422 hs, e_pass hs h hi, q1, if_T]
        simp (disch := omega) only [zb_s, ↓iEq0, ↓S_ck422 hs, f1, ↓g_go hs, ↓g_pgo hs, nI_add, Nat.add_assoc]
      · rw [if_neg q2] at hh; exact absurd hh (by simp)
  · rw [if_neg q1] at hh
    by_cases q2 : 50 ≤ p
    · rw [if_pos q2] at hh; exact absurd hh (by simp)
    · rw [if_neg q2] at hh
      have head : ∀ X, (zgI ((g, zrw (Mg M (nI (B + (i + 1))) b) 424 v, ml) : zH) 13 422 25 fun v10 => if v10 = nI 0 then fb_X12_partOf_94 n kH 422 lv (nI (D i)) (nI 0) (g, zrw (Mg M (nI (B + (i + 1))) b) 424 v, ml) else if nI (D i) = nI 18 then fb_X12_partOf_70 n kH 422 lv (nI (D i)) (g, zrw (Mg M (nI (B + (i + 1))) b) 424 v, ml) else if nI (D i) = nI 19 then fb_X12_partOf_70 n kH 422 lv (nI (D i)) (g, zrw (Mg M (nI (B + (i + 1))) b) 424 v, ml) else fb_X12_partOf_94 n kH 422 lv (nI (D i)) (nI 0) (g, zrw (Mg M (nI (B + (i + 1))) b) 424 v, ml)) = X → f_X12_partOf n kH 422 lv (g, zrw (Mg M (nI (B + i)) b) 424 v, ml) = X := by
        intro X hX
        unfold f_X12_partOf f_X12_sign
        simp only [lit]
        simp (disch := omega) only [zb_s, nI_add, ↓S_ck422 hs, e_pass hs h hi, q1, if_F]
        simp (disch := omega) only [zb_s, if_T, ↓g_go hs, ↓g_pgo hs, ↓S_ck422 hs, e_code hs h hi, nI_add, Nat.add_assoc]
        exact hX
      have fin0 : ∀ c0 d0 z, D i ≠ 18 → D i ≠ 19 → (Except.ok (i + 1, p + 1, c0, d0) : RS) = .ok (j, p', c, d) → d0 e = some z.toInt64 → ((D i = 50 ∧ nI (B + (i + 1)) = nI (B + i + 1) ∧ B + i < 2800 ∧ v (3015 + (B + i)) = z) ∨ (D i ≠ 50 ∧ M 422 25 = nI 1 ∧ f_X12_orderValue n 422 (nI (D i)) (nI 0) (g, zrw (Mg M (nI (B + (i + 1))) b) 424 v, ml) = some (z, (g, zrw (Mg M (nI (B + (i + 1))) b) 424 v, ml))) ∨ (7 ≤ D i ∧ D i ≤ 13 ∧ M 422 25 = nI 0 ∧ M 434 (D i - 7) = z)) → ∃ r b', f_X12_partOf n kH 422 lv (g, zrw (Mg M (nI (B + i)) b) 424 v, ml) = some (r, (g, zrw (Mg M (nI (B + j)) b') 424 v, ml)) ∧ Res lv b b' r (d e) := by
        intro c0 d0 z n18 n19 hh he hz
        injection hh with hh
        obtain ⟨r1, r2, r3, r4⟩ := hh
        obtain ⟨r, b', f1, f2⟩ := e_94 (n := n) (kH := kH) (k := nI 0) hs hl hb hDi hz
        refine ⟨r, b', head _ ?_, by rw [he]; exact f2⟩
        rw [g_in hs]
        by_cases y : M 422 25 = nI 0
        · simp only [y, if_T]; exact f1
        · simp (disch := omega) only [y, if_F, nEq, if_neg]; exact f1
      have fin1 : ∀ c0 d0 z k, (D i = 18 ∨ D i = 19) → D (i + 1) = 50 → k ≤ 1000 → V (i + 1) = k → M 422 25 = nI 1 → (Except.ok (i + 2, p + 1, c0, d0) : RS) = .ok (j, p', c, d) → d0 e = some z.toInt64 → f_X12_orderValue n 422 (nI (D i)) (nI k) (g, zrw (Mg M (nI (B + (i + 2))) b) 424 v, ml) = some (z, (g, zrw (Mg M (nI (B + (i + 2))) b) 424 v, ml)) → ∃ r b', f_X12_partOf n kH 422 lv (g, zrw (Mg M (nI (B + i)) b) 424 v, ml) = some (r, (g, zrw (Mg M (nI (B + j)) b') 424 v, ml)) ∧ Res lv b b' r (d e) := by
        intro c0 d0 z k hD hk5 hk1 hk hin hh he hz
        injection hh with hh
        obtain ⟨r1, r2, r3, r4⟩ := hh
        have hi' := hne i hi (by omega)
        have hi2 := hne (i + 1) (by omega) (by omega)
        obtain ⟨r, b', f1, f2⟩ := e_94 (B := B) (i := i) (n := n) (kH := kH) hs hl hb hDi (Or.inr (Or.inl ⟨by omega, hin, hz⟩))
        refine ⟨r, b', head _ ?_, by rw [he]; exact f2⟩
        have e1 : v (3015 + (B + (i + 1))) = nI k := by
          rw [← hk]; exact (h.2.1 (i + 1) hi2).2 hk5 (by omega)
        have e2 : fb_X12_partOf_70 n kH 422 lv (nI (D i)) (g, zrw (Mg M (nI (B + (i + 1))) b) 424 v, ml) = some (r, (g, zrw (Mg M (nI (B + (i + 2))) b') 424 v, ml)) := by
          rw [← f1]
          unfold fb_X12_partOf_70
          simp only [lit]
          simp (disch := omega) only [S_gR422_2 hs, ↓g_go hs, nI_add, R_a hs, e1, ↓g_pgo hs, Nat.add_assoc]
        rw [g_in hs, hin]
        rcases hD with y | y
        · simp (disch := omega) only [nEq, y, if_neg, if_T]
          rw [y] at e2
          exact e2
        · simp (disch := omega) only [nEq, y, if_neg, if_T]
          rw [y] at e2
          exact e2
      unfold EO at ho
      by_cases q3 : isWd o (D i) = true
      · rw [if_pos q3] at hh
        cases o with
        | true =>
          rw [if_pos rfl] at ho
          have q3' : 13 ≤ D i ∧ D i ≤ 17 := by simpa [isWd] using q3
          exact fin0 _ _ _ (by omega) (by omega) hh rfl (Or.inr (Or.inl ⟨by omega, ho.1, (ho.2 _ _ _).1 _ _ q3'.1 q3'.2⟩))
        | false =>
          rw [if_neg (by decide)] at ho
          have q3' : 7 ≤ D i ∧ D i ≤ 13 := by simpa [isWd] using q3
          exact fin0 _ _ _ (by omega) (by omega) hh rfl (Or.inr (Or.inr ⟨q3'.1, q3'.2, ho.1, ho.2 _ q3'.1 q3'.2⟩))
      · rw [if_neg q3] at hh
        by_cases q4 : o = true ∧ D i = 18
        · rw [if_pos q4] at hh
          rw [if_pos q4.1] at ho
          by_cases q5 : D (i + 1) = 50 ∧ V (i + 1) ≤ 7
          · rw [if_pos q5] at hh
            exact fin1 _ _ _ _ (Or.inl q4.2) q5.1 (by omega) rfl ho.1 hh rfl (by rw [q4.2]; exact (ho.2 _ _ _).2.1 _ q5.2)
          · rw [if_neg q5] at hh; exact absurd hh (by simp)
        · rw [if_neg q4] at hh
          by_cases q6 : o = true ∧ D i = 19
          · rw [if_pos q6] at hh
            rw [if_pos q6.1] at ho
            by_cases q5 : D (i + 1) = 50 ∧ V (i + 1) ≤ 99
            · rw [if_pos q5] at hh
              exact fin1 _ _ _ _ (Or.inr q6.2) q5.1 (by omega) rfl ho.1 hh rfl (by rw [q6.2]; exact (ho.2 _ _ _).2.2 _ q5.2)
            · rw [if_neg q5] at hh; exact absurd hh (by simp)
          · rw [if_neg q6] at hh
            by_cases q7 : D i = 50 ∧ V i ≤ 1000
            · rw [if_pos q7] at hh
              have hi' := hne i hi (by omega)
              exact fin0 _ _ _ (by omega) (by omega) hh rfl (Or.inl ⟨q7.1, rfl, by omega, (h.2.1 i hi').2 q7.1 q7.2⟩)
            · rw [if_neg q7] at hh; exact absurd hh (by simp)
end
