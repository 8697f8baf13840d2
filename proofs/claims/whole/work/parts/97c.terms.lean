/-! calls that change: force, terms -/
section
variable {g : zS} {mi : Nat → Nat → Int32} {ml : Nat → Nat → Int64} {n : Nat}
theorem cl_force (a : Int32) : CALL (f_X11_force n 1 a) (f_X12_force n 422 a) := by
  intro c g mi ml hc hI
  have hs := hI.1.1
  obtain ⟨cnt, ⟨r1, r2, r3⟩, ⟨r4, r4'⟩, r5, r6, r7⟩ := hI.2.2.1
  have good : (a = m1 ∨ f_X6_hasLaw n 25 a (g, mi, ml) = some (nI 1, (g, mi, ml))) → (a = m1 ∨ ∃ i, i < cnt ∧ a = nI i) → (∀ mi' ml, mi' 424 = mi 424 → f_X12_isLaw n 422 a (g, mi', ml) = some (nI 1, (g, mi', ml))) → ∃ r g' mi' ml' mi'' ml'', f_X11_force n 1 a (g, mi, ml) = some (r, (g', mi', ml')) ∧ f_X12_force n 422 a (g', mi', ml') = some (r, (g', mi'', ml'')) ∧ IV (c + 1) g' mi'' := by
    intro h1 h2 h3
    have e23 : fb_X11_force_23 n 1 a (g, mi, ml) = some (mi 424 207, (g, zu (zu mi 25 3 a) 1 19 (nI 0), ml)) := by
      unfold fb_X11_force_23
      simp only [li]
      rw [S_gR1_3 hs, S_gI25 hs, r4, S_gR1_3 hs, S_pI25 hs, S_pI1 hs]
    have e4 : zu (zu mi 25 3 a) 1 19 (nI 0) 424 = mi 424 := by rw [zu_a (by decide), zu_a (by decide)]
    refine ⟨mi 424 207, g, zu (zu mi 25 3 a) 1 19 (nI 0), ml, rG (zu (zu (zu mi 25 3 a) 1 19 (nI 0)) 424 207 a), ml, ?_, ?_, ?_⟩
    · unfold f_X11_force
      simp only [li, ng1]
      rw [e23, S_gR1_3 hs, S_ck25 hs]
      by_cases q : a = m1
      · rw [iP q]
      · rcases h1 with h1 | h1
        · exact absurd h1 q
        · rw [iN q, h1, zb_s, iN n01.symm, e23]
    · unfold f_X12_force
      simp only [li]
      rw [S_ck422 hs, h3 _ ml e4, zb_s, iN n01.symm, S_gR422_2 hs, S_aI424 hs (by decide), e4, S_gR422_2 hs, S_eI424 hs (by decide), S_ck422 hs, good_e hs, zb_s]
    · have F : ∀ x, x ≠ 1 → x ≠ 25 → x ≠ 422 → x ≠ 424 → rG (zu (zu (zu mi 25 3 a) 1 19 (nI 0)) 424 207 a) x = mi x := fun x x1 x2 x3 x4 => by rw [rG_a x3, zu_a x4, zu_a x1, zu_a x2]
      have V : ∀ k, k ≠ 207 → rG (zu (zu (zu mi 25 3 a) 1 19 (nI 0)) 424 207 a) 424 k = mi 424 k := fun k hk => by rw [rG_a (by decide), zu_k hk, zu_a (by decide), zu_a (by decide)]
      have V7 : rG (zu (zu (zu mi 25 3 a) 1 19 (nI 0)) 424 207 a) 424 207 = a := by rw [rG_a (by decide), zu_s]
      have H25 : ∀ k, k ≠ 3 → rG (zu (zu (zu mi 25 3 a) 1 19 (nI 0)) 424 207 a) 25 k = mi 25 k := fun k hk => by rw [rG_a (by decide), zu_a (by decide), zu_a (by decide), zu_k hk]
      have L : ∀ x, 439 < x → x ≤ g.2.2.2.1 → rG (zu (zu (zu mi 25 3 a) 1 19 (nI 0)) 424 207 a) x = mi x := fun x q _ => F x (by omega) (by omega) (by omega) (by omega)
      refine IV_row hI (fun x x1 _ x2 _ _ _ _ _ x3 _ x4 => F x x1 x2 x3 x4) (fun k hk => by rw [rG_a (by decide), zu_a (by decide), zu_k hk, zu_a (by decide)]) (fun k hk _ => by rw [rG_2 hk, zu_a (by decide), zu_a (by decide), zu_a (by decide)]) ?_ ?_ ?_ ?_ ?_
      · exact PW_c hI.2.1 (by omega) (fun k hk => V k (by omega)) (fun x _ _ => F x (by omega) (by omega) (by omega) (by omega)) (fun q => WI_c q (fun k hk => V k (by omega)))
      · refine ⟨cnt, ⟨r1, by rw [H25 2 (by decide)]; exact r2, by rw [V 206 (by decide)]; exact r3⟩, ⟨?_, by rw [V7]; exact h2⟩, by rw [H25 4 (by decide), V 203 (by decide)]; exact r5, by rw [H25 5 (by decide), V 204 (by decide)]; exact r6, fun i hi => ?_⟩
        · rw [V7, rG_a (by decide), zu_a (by decide), zu_a (by decide), zu_s]
        · obtain ⟨l, hl⟩ := r7 i hi
          exact ⟨l, LWk_c hl (by omega) (fun k x1 _ => V k (by omega)) L (fun _ _ _ => ⟨rfl, rfl, rfl⟩) (Nat.le_refl _)⟩
      · exact CU_c hI.2.2.2.1 (fun k _ hk => V k (by omega)) (F 27 (by decide) (by decide) (by decide) (by decide)) (F 28 (by decide) (by decide) (by decide) (by decide)) (F 29 (by decide) (by decide) (by decide) (by decide))
      · exact HI_c hI.2.2.2.2.1 (by omega) (F 30 (by decide) (by decide) (by decide) (by decide)) (F 32 (by decide) (by decide) (by decide) (by decide)) (by rw [rG_2 (by decide), zu_a (by decide), zu_a (by decide), zu_a (by decide)]) (F 435 (by decide) (by decide) (by decide) (by decide)) (fun x _ _ => F x (by omega) (by omega) (by omega) (by omega))
      · refine SCa_G hI.2.2.2.2.2.2.2.1 (by rw [zu_a (by decide), zu_s]) (by rw [zu_a (by decide), zu_a (by decide), zu_a (by decide)]) (by rw [zu_a (by decide), zu_a (by decide), zu_a (by decide)])
  rcases has_law (n := n) (v := mi 424) hs r1 r2 r3 a with ⟨h1, h2⟩ | ⟨i, hi, h1, h2, h3⟩ | ⟨h1, h2, h3⟩
  · exact good (Or.inl h1) (Or.inl h1) h2
  · exact good (Or.inr (h2 ml)) (Or.inr ⟨i, hi, h1⟩) h3
  · refine F_call hI isF2 ?_ ?_
    · unfold f_X11_force
      simp only [li, ng1, ng2]
      rw [iN h1, S_gR1_3 hs, S_ck25 hs, h2 ml, zb_s, iP rfl, S_ck1 hs, told_F hs isF2, zb_s]
    · unfold f_X12_force
      simp only [li, ng2]
      rw [S_ck422 hs, h3 _ ml (tF_a (by decide) (by decide)), zb_s, iP rfl, S_ck422 hs, ref_F hs isF2, zb_s]
theorem c_66 (hs : Sy g) {w : Nat} (hw : w < 2147483648) : fb_X11_terms_66 n 1 (nI w) (g, mi, ml) = some (nI w, (g, tG (zu mi 30 3 (nI 0)), ml)) := by
  unfold fb_X11_terms_66 f_X2_clear
  simp only [li]
  rw [S_gR1_5 hs, S_ck30 hs, S_pI30 hs, zb_s, S_ck1 hs, told_G hs ⟨w, hw, rfl⟩, zb_s]
theorem r_set (hs : Sy g) {w : Int32} : f_X12_settled n 422 w (g, mi, ml) = some (w, (g, rG (zu mi 422 31 (nI 0)), ml)) := by
  unfold f_X12_settled
  simp only [li]
  rw [S_pI422 hs, S_ck422 hs, good_e hs, zb_s]
/-- the history is cleared, a term is set: b its place in the row; the Java side's place is (o, f) -/
theorem cl_term (hs : Sy g) {c : Nat} (hI : IV c g mi) {b o f w : Nat} {x : Int32} (hb : (b = 190 ∧ o = 2 ∧ f = 9 ∧ ∃ t, t ≤ 999 ∧ x = nI t) ∨ (b = 203 ∧ o = 25 ∧ f = 4 ∧ ∃ t, t ≤ 10 ∧ x = nI t) ∨ (b = 204 ∧ o = 25 ∧ f = 5 ∧ ∃ t, t ≤ 9 ∧ x = nI t)) : IV (c + 1) g (rG (zu (zu (tG (zu (zu mi o f x) 30 3 (nI 0))) 424 b x) 422 31 (nI 0))) := by
  generalize hM : rG (zu (zu (tG (zu (zu mi o f x) 30 3 (nI 0))) 424 b x) 422 31 (nI 0)) = M
  have ho : o = 2 ∨ o = 25 := by omega
  have hb3 : b = 190 ∨ b = 203 ∨ b = 204 := by omega
  have F : ∀ a, a ≠ 1 → a ≠ o → a ≠ 30 → a ≠ 422 → a ≠ 424 → M a = mi a := fun a h1 h2 h3 h4 h5 => by rw [← hM, rG_a h4, zu_a h4, zu_a h5, tG_a h1, zu_a h3, zu_a h2]
  have V : ∀ k, k ≠ b → M 424 k = mi 424 k := fun k hk => by rw [← hM, rG_a (by decide), zu_a (by decide), zu_k hk, tG_a (by decide), zu_a (by decide), zu_a (by omega)]
  have Vb : M 424 b = x := by rw [← hM, rG_a (by decide), zu_a (by decide), zu_s]
  have O : ∀ k, M o k = zu mi o f x o k := fun k => by rw [← hM, rG_a (by omega), zu_a (by omega), zu_a (by omega), tG_a (by omega), zu_a (by omega)]
  have H30 : ∀ k, k ≠ 3 → M 30 k = mi 30 k := fun k hk => by rw [← hM, rG_a (by decide), zu_a (by decide), zu_a (by decide), tG_a (by decide), zu_k hk, zu_a (by omega)]
  have H303 : M 30 3 = nI 0 := by rw [← hM, rG_a (by decide), zu_a (by decide), zu_a (by decide), tG_a (by decide), zu_s]
  have L : ∀ a, 439 < a → a ≤ g.2.2.2.1 → M a = mi a := fun a q _ => F a (by omega) (by omega) (by omega) (by omega) (by omega)
  obtain ⟨hR, hWI, e, he1, he2, t0, ht0⟩ := hI.2.1
  obtain ⟨cnt, ⟨r1, r2, r3⟩, ⟨r4, r4'⟩, ⟨r5, r5'⟩, ⟨r6, r6'⟩, r7⟩ := hI.2.2.1
  have E2 : o = 25 → M 2 = mi 2 := fun q => F 2 (by decide) (by omega) (by decide) (by decide) (by decide)
  have E25 : o = 2 → M 25 = mi 25 := fun q => F 25 (by decide) (by omega) (by decide) (by decide) (by decide)
  refine IV_row hI (fun a h1 h2 h3 _ _ _ h4 _ h5 _ h6 => F a h1 (by omega) h4 h5 h6) (fun k hk => by rw [← hM, rG_a (by decide), zu_a (by decide), zu_a (by decide), tG_1 hk, zu_a (by decide), zu_a (by omega)]) (fun k hk hk2 => by rw [← hM, rG_2 hk, zu_k hk2, zu_a (by decide), tG_a (by decide), zu_a (by decide), zu_a (by omega)]) ?_ ?_ ?_ ?_ ?_
  · rcases hb with ⟨b1, b2, b3, t, b4, b5⟩ | ⟨b1, b2, b3, b4⟩ | ⟨b1, b2, b3, b4⟩
    · subst b1 b2 b3
      refine ⟨?_, WI_c hWI (fun k hk => V k (by omega)), e, by omega, ?_⟩
      · have h1 := L_pl (x := x) hR (pl_time (w := 2)) (by decide) (by decide)
        refine WR_congv (WR_cong h1 (fun a a1 a2 => ?_)) (fun k hk => ?_)
        · by_cases z : a = 2
          · subst z; funext k; exact O k
          · rw [F a (by omega) (by omega) (by omega) (by omega) (by omega), zu_a z]
        · by_cases z : k = 190
          · rw [z, Vb, upd_eq]
          · rw [V k z, upd_ne z]
      · unfold Ed
        rw [V 129 (by decide), V 130 (by decide), Vb]
        exact ⟨he2, t, b4, b5⟩
    · exact PW_c hI.2.1 (by omega) (fun k hk => V k (by omega)) (fun a a1 a2 => F a (by omega) (by omega) (by omega) (by omega) (by omega)) (fun q => WI_c q (fun k hk => V k (by omega)))
    · exact PW_c hI.2.1 (by omega) (fun k hk => V k (by omega)) (fun a a1 a2 => F a (by omega) (by omega) (by omega) (by omega) (by omega)) (fun q => WI_c q (fun k hk => V k (by omega)))
  · have LK : ∀ i, i < cnt → ∃ l, LWk g M (M 424) (g.2.2.1 26 i) i l := fun i hi => by
      obtain ⟨l, hl⟩ := r7 i hi
      exact ⟨l, LWk_c hl (by omega) (fun k x1 _ => V k (by omega)) L (fun _ _ _ => ⟨rfl, rfl, rfl⟩) (Nat.le_refl _)⟩
    rcases hb with ⟨b1, b2, b3, t, b4, b5⟩ | ⟨b1, b2, b3, b4⟩ | ⟨b1, b2, b3, b4⟩
    · exact RU_c hI.2.2.1 (fun k hk _ => V k (by omega)) (E25 b2) L
    · subst b1 b2 b3
      refine ⟨cnt, ⟨r1, by rw [O, zu_k (by decide)]; exact r2, by rw [V 206 (by decide)]; exact r3⟩, ⟨by rw [O, zu_k (by decide), V 207 (by decide)]; exact r4, by rw [V 207 (by decide)]; exact r4'⟩, ⟨by rw [O, zu_s, Vb], by rw [Vb]; exact b4⟩, ⟨by rw [O, zu_k (by decide), V 204 (by decide)]; exact r6, by rw [V 204 (by decide)]; exact r6'⟩, LK⟩
    · subst b1 b2 b3
      refine ⟨cnt, ⟨r1, by rw [O, zu_k (by decide)]; exact r2, by rw [V 206 (by decide)]; exact r3⟩, ⟨by rw [O, zu_k (by decide), V 207 (by decide)]; exact r4, by rw [V 207 (by decide)]; exact r4'⟩, ⟨by rw [O, zu_k (by decide), V 203 (by decide)]; exact r5, by rw [V 203 (by decide)]; exact r5'⟩, ⟨by rw [O, zu_s, Vb], by rw [Vb]; exact b4⟩, LK⟩
  · obtain ⟨m, c1, c2, c3, c4⟩ := hI.2.2.2.1
    refine ⟨m, c1, by rw [F 27 (by decide) (by omega) (by decide) (by decide) (by decide)]; exact c2, by rw [V 205 (by omega)]; exact c3, fun k hk => ?_⟩
    rw [F 28 (by decide) (by omega) (by decide) (by decide) (by decide), F 29 (by decide) (by omega) (by decide) (by decide) (by decide), V _ (by omega), V _ (by omega)]
    exact c4 k hk
  · obtain ⟨hf, hm, ⟨h1, -, h2, -⟩, -⟩ := hI.2.2.2.2.1
    exact ⟨hf, 0, ⟨h1, by decide, by rw [H30 2 (by decide)]; exact h2, H303⟩, by rw [← hM, rG_2 (by decide), zu_s], fun i hi => absurd hi (by omega)⟩
  · rw [← hM]
    refine SCa_G hI.2.2.2.2.2.2.2.1 ?_ ?_ ?_
    · rw [zu_a (by decide), zu_a (by decide)]; exact zu_s _ _ _ _
    · rw [zu_a (by decide), zu_a (by decide), tG_a (by decide), zu_a (by decide), zu_a (by omega)]
    · rw [zu_a (by decide), zu_a (by decide), tG_a (by decide), zu_a (by decide), zu_a (by omega)]
theorem cl_terms (a x : Int32) : CALL (f_X11_terms n 1 a x) (f_X12_terms n 422 a x) := by
  intro c g mi ml hc hI
  have hs := hI.1.1
  obtain ⟨hR, hWI, e, he1, he2, t0, ht0, ht0'⟩ := hI.2.1
  obtain ⟨cnt, ⟨r1, r2, r3⟩, ⟨r4, r4'⟩, ⟨r5, u5, r5', r5''⟩, ⟨r6, u6, r6', r6''⟩, r7⟩ := hI.2.2.1
  have e14 : fb_X11_terms_14 n 1 (g, mi, ml) = some (m1, (g, tF m1 mi, ml)) := by
    unfold fb_X11_terms_14
    simp only [li, ng1]
    rw [S_ck1 hs, told_F hs isF1, zb_s]
  have uX : f_X11_terms n 1 a x (g, mi, ml) = if x < nI 0 then some (m1, (g, tF m1 mi, ml)) else if x ≤ (if a = nI 0 then nI 999 else if a = nI 1 then nI 10 else if a = nI 2 then nI 9 else m1) then (zb (f_X11_termNow n 1 a (g, mi, ml)) fun r3 h4 => if a = nI 0 then zgR h4 12 1 0 fun v9 => zpI h4 11 v9 9 x fun h10 => fb_X11_terms_66 n 1 r3 h10 else if a = nI 1 then zgR h4 12 1 3 fun v7 => zpI h4 7 v7 4 x fun h8 => fb_X11_terms_66 n 1 r3 h8 else zgR h4 12 1 3 fun v5 => zpI h4 7 v5 5 x fun h6 => fb_X11_terms_66 n 1 r3 h6) else some (m1, (g, tF m1 mi, ml)) := by
    have em : f_X11_mostOfTerm n a (g, mi, ml) = some (if a = nI 0 then nI 999 else if a = nI 1 then nI 10 else if a = nI 2 then nI 9 else m1, (g, mi, ml)) := by
      unfold f_X11_mostOfTerm
      simp only [li, ng1, zswl]
      by_cases q0 : a = nI 0
      · rw [iP q0, iP q0]
      · rw [iN q0, iN q0]
        by_cases q1 : a = nI 1
        · rw [iP q1, iP q1]
        · rw [iN q1, iN q1]
          by_cases q2 : a = nI 2
          · rw [iP q2, iP q2]
          · rw [iN q2, iN q2]
    unfold f_X11_terms
    simp only [li]
    rw [em, zb_s, e14, S_ck1 hs]
  have eN : f_X11_termNow n 1 a (g, mi, ml) = some (if a = nI 0 then mi 424 190 else if a = nI 1 then mi 424 203 else if a = nI 2 then mi 424 204 else m1, (g, mi, ml)) := by
    unfold f_X11_termNow
    simp only [li, ng1, zswl]
    rw [S_gR1_0 hs, W_gI hs w2c, rd_time hR, S_gR1_3 hs, S_gI25 hs, r5, S_gR1_3 hs, S_gI25 hs, r6]
    by_cases q0 : a = nI 0
    · rw [iP q0, iP q0]
    · rw [iN q0, iN q0]
      by_cases q1 : a = nI 1
      · rw [iP q1, iP q1]
      · rw [iN q1, iN q1]
        by_cases q2 : a = nI 2
        · rw [iP q2, iP q2]
        · rw [iN q2, iN q2]
  have refY : ∀ M : Nat → Nat → Int32, f_X12_isTerm n a x (g, M, ml) = some (nI 0, (g, M, ml)) → f_X12_terms n 422 a x (g, M, ml) = some (m1, (g, rF m1 M, ml)) := by
    intro M h
    unfold f_X12_terms
    simp only [li, ng1]
    rw [h, zb_s, iP rfl, S_ck422 hs, ref_F hs isF1, zb_s]
  -- a good term
  have main : ∀ (k N b o f w : Nat), a = nI k → N < 1000 → (∀ M : Nat → Nat → Int32, f_X12_isTerm n a x (g, M, ml) = zb (f_X12_lies n x (nI 0) (nI N) (g, M, ml)) fun r1 h2 => zrZ r1 h2) → (f_X11_terms n 1 a x (g, mi, ml) = if x < nI 0 then some (m1, (g, tF m1 mi, ml)) else if x ≤ nI N then fb_X11_terms_66 n 1 (nI w) (g, zu mi o f x, ml) else some (m1, (g, tF m1 mi, ml))) → w < 2147483648 → mi 424 b = nI w → (∀ M : Nat → Nat → Int32, f_X12_termAt n a (g, M, ml) = some (nI b, (g, M, ml))) → ((b = 190 ∧ o = 2 ∧ f = 9 ∧ N = 999) ∨ (b = 203 ∧ o = 25 ∧ f = 4 ∧ N = 10) ∨ (b = 204 ∧ o = 25 ∧ f = 5 ∧ N = 9)) → ∃ r g' mi' ml' mi'' ml'', f_X11_terms n 1 a x (g, mi, ml) = some (r, (g', mi', ml')) ∧ f_X12_terms n 422 a x (g', mi', ml') = some (r, (g', mi'', ml'')) ∧ IV (c + 1) g' mi'' := by
    intro k N b o f w hk hN h1 h3 hw hmb h4 h5
    rcases pk_ix x (n := N + 1) (by omega) with hx | hx | ⟨t, ht, hx⟩
    · refine F_call hI isF1 (by rw [h3, iP (show x < nI 0 from hx)]) (refY _ ?_)
      rw [h1, r_lies0 hx, zb_s, zrZ0]
    · refine F_call hI isF1 ?_ (refY _ ?_)
      · rw [h3, iN (ge_lt (by omega) hx).2.1, iN (c_le (by omega) hx)]
      · rw [h1, r_lies1 (by omega) hx, zb_s, zrZ0]
    · subst hx
      have e4 : tG (zu (zu mi o f (nI t)) 30 3 (nI 0)) 424 = mi 424 := by rw [tG_a (by decide), zu_a (by decide), zu_a (by omega)]
      refine ⟨nI w, g, tG (zu (zu mi o f (nI t)) 30 3 (nI 0)), ml, rG (zu (zu (tG (zu (zu mi o f (nI t)) 30 3 (nI 0))) 424 b (nI t)) 422 31 (nI 0)), ml, ?_, ?_, cl_term hs hI (w := w) (by
        rcases h5 with ⟨y1, y2, y3, y4⟩ | ⟨y1, y2, y3, y4⟩ | ⟨y1, y2, y3, y4⟩
        · exact Or.inl ⟨y1, y2, y3, t, by omega, rfl⟩
        · exact Or.inr (Or.inl ⟨y1, y2, y3, t, by omega, rfl⟩)
        · exact Or.inr (Or.inr ⟨y1, y2, y3, t, by omega, rfl⟩))⟩
      · rw [h3, iN (show ¬ nI t < nI 0 by rw [nLt (by omega) (by omega)]; omega), iLe1 (by omega) (by omega) (by omega), c_66 hs hw]
      · unfold f_X12_terms
        simp only [li]
        rw [h1, r_lies2 (by omega) (by omega), zb_s, zrZ1, zb_s, iN n01.symm, S_gR422_2 hs, h4, zb_s, S_aI424 hs (by omega), e4, hmb, S_gR422_2 hs, h4, zb_s, S_eI424 hs (by omega), S_ck422 hs, r_set hs, zb_s]
  by_cases q0 : a = nI 0
  · subst q0
    refine main 0 999 190 2 9 t0 rfl (by decide) (fun M => ?_) ?_ (by omega) ht0' (fun M => ?_) (Or.inl ⟨rfl, rfl, rfl, rfl⟩)
    · unfold f_X12_isTerm
      simp only [li, zswl]
      rw [if_T]
    · rw [uX, eN, zb_s]
      simp only [if_pos, ht0']
      rw [S_gR1_0 hs, W_pI hs w2c]
    · unfold f_X12_termAt
      simp only [li, zswl]
      rw [if_T]
  by_cases q1 : a = nI 1
  · subst q1
    refine main 1 10 203 25 4 u5 rfl (by decide) (fun M => ?_) ?_ (by omega) r5'' (fun M => ?_) (Or.inr (Or.inl ⟨rfl, rfl, rfl, rfl⟩))
    · unfold f_X12_isTerm
      simp only [li, zswl]
      rw [iN n01.symm, if_T]
    · rw [uX, eN, zb_s]
      simp only [if_pos, if_neg n01.symm, r5'']
      rw [S_gR1_3 hs, S_pI25 hs]
    · unfold f_X12_termAt
      simp only [li, zswl]
      rw [iN n01.symm, if_T]
  by_cases q2 : a = nI 2
  · subst q2
    have n20 : nI 2 ≠ nI 0 := by decide
    have n21 : nI 2 ≠ nI 1 := by decide
    refine main 2 9 204 25 5 u6 rfl (by decide) (fun M => ?_) ?_ (by omega) r6'' (fun M => ?_) (Or.inr (Or.inr ⟨rfl, rfl, rfl, rfl⟩))
    · unfold f_X12_isTerm
      simp only [li, zswl]
      rw [iN n20, iN n21, if_T]
    · rw [uX, eN, zb_s]
      simp only [if_pos, if_neg n20, if_neg n21, r6'']
      rw [S_gR1_3 hs, S_pI25 hs]
    · unfold f_X12_termAt
      simp only [li, zswl]
      rw [iN n20, iN n21]
  · refine F_call hI isF1 ?_ (refY _ ?_)
    · rw [uX]
      simp only [if_neg q0, if_neg q1, if_neg q2]
      by_cases z : x < nI 0
      · rw [iP z]
      · obtain ⟨j, hj, rfl⟩ := nI_of z
        rw [iN z, iN (by rw [nle1 hj]; exact fun q => q)]
    · unfold f_X12_isTerm
      simp only [li, zswl]
      rw [iN q0, iN q1, iN q2]
end
