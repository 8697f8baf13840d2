/-! image and back, the calls -/
section
variable {g : zS} {mi : Nat → Nat → Int32} {ml : Nat → Nat → Int64} {n : Nat}
theorem back_j {cc j I w c r la : Nat} (hn : 6000 < n) (hI : IV cc g mi) (hP : ImP j I w c r la) (h1 : mi 426 j = nI 1) : ∃ g' mi' mi'', (f_X11_back n 1 (nI j) (g, mi, ml) = some (nI 0, (g', mi', ml)) ∧ f_X12_back n 422 (nI j) (g', mi', ml) = some (nI 0, (g', mi'', ml))) ∧ IV (cc + 1) g' mi'' := by
  have hs := hI.1.1
  obtain ⟨⟨i1, i2, i3, i4⟩, i5, i6, i7, i8, i9⟩ := ims hs hP
  have hPo := hP
  unfold ImP at hPo
  obtain ⟨-, k2, k3⟩ := IM_of hI hP
  obtain ⟨⟨hR, hWI, e, he1, he2⟩, hRU, hCU⟩ := k3 h1
  obtain ⟨m1', a1, a2, a3⟩ := c_copy (u := 2) (w := w) (ml := ml) (n := n) hs w2c i5 (by omega) hR (WI_r hWI)
  obtain ⟨g', m2', b1, b2, b3, b4, b5⟩ := c_rul (mi := m1') (ml := ml) (n := n) hn (by omega) (by omega) (by omega) (by omega) i8 i6 (fun k hk => (hI.1.2.2.2.2 la (by omega) k hk).imp id (fun q => q.1))
  obtain ⟨m3', d1, d2, d3, d4, d5⟩ := c_cul (mi := m2') (ml := ml) (n := n) (by omega) (CS_g i9 b2 (by omega)) (CS_g i7 b2 (by omega))
  have hM := RM_g hI.1 b2 (Or.inl rfl) (by omega) b3
  have hs' := hM.1
  obtain ⟨A, hA⟩ : ∃ A, A = tG (zu m3' 30 3 (nI 0)) := ⟨_, rfl⟩
  have hX : f_X11_back n 1 (nI j) (g, mi, ml) = some (nI 0, (g', A, ml)) := by
    have x15 : fb_X11_back_15 n 1 (nI j) (g, mi, ml) = some (nI 0, (g', A, ml)) := by
      unfold fb_X11_back_15 f_X3_giveBack f_X2_clear
      simp only [li]
      have z1 : g'.1 I = 4 := by rw [b2.1.1]; exact i1
      have z4 : g'.2.2.1 I 2 = c := by rw [b2.2.1 I (by omega)]; exact i4
      have e3 : mi I 3 = nI 1 := by rw [k2]; exact h1
      rw [S_ck1 hs, c_imageAt hs hP, zb_s, q_gI i1, e3, iEq0 (by decide) (by decide) (by decide), S_ck1 hs, c_imageAt hs hP, zb_s, S_gR1_0 hs, S_gR1_3 hs, S_gR1_4 hs, q_ck i1, q_gR i1 i2 (by omega), W_ck hs w2c, a1, zb_s, q_gR i1 i3 (by omega), q_ck i8.1, b1, zb_s, q_gR z1 z4 (by omega), q_ck (CS_g i9 b2 (by omega)).1.1, d1, zb_s, zb_s, S_gR1_5 hs', S_ck30 hs', S_pI30 hs', zb_s, S_ck1 hs', told_G hs' ⟨0, by decide, rfl⟩, zb_s, hA]
    unfold f_X11_back
    simp only [li]
    rw [x15]
    by_cases q : j = 0
    · rw [iEq1 (by rw [q])]
    · rw [iEq0 (by omega) (by omega) q, iEq1 (by have : j = 1 := by omega
                                                 rw [this])]
  have FA : ∀ a, a ≠ 1 → a ≠ 30 → a ≠ 25 → (a < 2 ∨ 12 ≤ a) → (a < 27 ∨ 30 ≤ a) → A a = mi a := fun a x1 x2 x3 x4 x5 => by rw [hA, tG_a x1, zu_a x2, d2 a x5, b4 a x3, a3 a x4]
  have A1 : ∀ k, k ≠ 19 → A 1 k = mi 1 k := fun k k2 => by rw [hA, tG_1 k2, zu_a (by omega), d2 1 (by omega), b4 1 (by omega), a3 1 (by omega)]
  have A19 : A 1 19 = nI 0 := by rw [hA]; exact zu_s _ _ _ _
  have A30 : A 30 3 = nI 0 := by rw [hA, tG_a (by omega), zu_s]
  have A302 : A 30 2 = mi 30 2 := by rw [hA, tG_a (by omega), zu_k (by decide), d2 30 (by omega), b4 30 (by omega), a3 30 (by omega)]
  have Aw : ∀ a, 2 ≤ a → a < 12 → A a = m1' a := fun a x1 x2 => by rw [hA, tG_a (by omega), zu_a (by omega), d2 a (by omega), b4 a (by omega)]
  have Ar : ∀ k, 2 ≤ k → k ≤ 5 → A 25 k = mi r k := fun k x1 x2 => by rw [hA, tG_a (by omega), zu_a (by omega), d2 25 (by omega), b5 k x1 x2, a3 r (by omega)]
  have Ac : A 27 2 = mi c 2 := by rw [hA, tG_a (by omega), zu_a (by omega), d3, b4 c (by omega), a3 c (by omega)]
  have Ac1 : ∀ k, k < 6 → A 28 k = mi (c + 1) k := fun k hk => by
    have := d4 k hk
    rw [hA, tG_a (by omega), zu_a (by omega)]
    refine this.trans ?_
    rw [b4 (c + 1) (by omega), a3 (c + 1) (by omega)]
  have Ac2 : ∀ k, k < 6 → A 29 k = mi (c + 2) k := fun k hk => by
    have := d5 k hk
    rw [hA, tG_a (by omega), zu_a (by omega)]
    refine this.trans ?_
    rw [b4 (c + 2) (by omega), a3 (c + 2) (by omega)]
  have A4 : A 424 = mi 424 := FA 424 (by omega) (by omega) (by omega) (by omega) (by omega)
  have A5 : A 425 = mi 425 := FA 425 (by omega) (by omega) (by omega) (by omega) (by omega)
  have A6 : A 426 = mi 426 := FA 426 (by omega) (by omega) (by omega) (by omega) (by omega)
  obtain ⟨B, hB⟩ : ∃ B, B = zu (zrw A 424 (cpT (A 424) (fun i => A 425 (5815 * j + i)) 0 5815)) 422 31 (nI 0) := ⟨_, rfl⟩
  have e33 := r_b33 (mi := A) (ml := ml) (n := n) hs' (j := j) (by omega) 5815 0 n rfl (by omega)
  have ez : cpT (A 424) (fun i => A 425 (5815 * j + i)) 0 0 = A 424 := cpT_0
  rw [ez, u_self] at e33
  have hY : f_X12_back n 422 (nI j) (g', A, ml) = some (nI 0, (g', rG B, ml)) := by
    unfold f_X12_back
    simp only [li]
    rw [r_lies2 (by decide) (by omega), zb_s, iN n01.symm, S_gR422_4 hs', S_aI426 hs' (by omega), A6, h1, iEq0 (by decide) (by decide) (by decide)]
    refine e33.trans ?_
    unfold fb_X12_back_64 f_X12_settled
    simp only [li]
    rw [S_ck422 hs', S_pI422 hs', ← hB, S_ck422 hs', good_e hs', zb_s, zb_s]
  refine ⟨g', A, rG B, ⟨hX, hY⟩, ?_⟩
  have FB : ∀ a, a ≠ 422 → a ≠ 424 → rG B a = A a := fun a x1 x2 => by rw [rG_a x1, hB, zu_a x1, zrw_a x2]
  have F2 : ∀ k, k ≠ 0 → k ≠ 31 → rG B 422 k = mi 422 k := fun k hk hk2 => by rw [rG_2 hk, hB, zu_k hk2, zrw_a (by decide), FA 422 (by omega) (by omega) (by omega) (by omega) (by omega)]
  have F31 : rG B 422 31 = nI 0 := by rw [rG_2 (by decide), hB, zu_s]
  have G : ∀ a, (30 < a ∧ a ≠ 422 ∧ a ≠ 424) → rG B a = mi a := fun a ha => by rw [FB a (by omega) (by omega), FA a (by omega) (by omega) (by omega) (by omega) (by omega)]
  have L : ∀ a, 439 < a → a ≤ g.2.2.2.1 → rG B a = mi a := fun a q _ => G a (by omega)
  have eg : ∀ a, 439 < a → a ≤ g.2.2.2.1 → g'.1 a = g.1 a ∧ g'.2.1 a = g.2.1 a ∧ g'.2.2.1 a = g.2.2.1 a := fun a q _ => ⟨by rw [b2.1.1], by rw [b2.1.2], b2.2.1 a (by omega)⟩
  have hg : g.2.2.2.1 ≤ g'.2.2.2.1 := by rw [b2.2.2]; exact Nat.le_refl _
  have e424 : rG B 424 = cpT (A 424) (fun i => A 425 (5815 * j + i)) 0 5815 := by rw [rG_a (by decide), hB, zu_a (by decide), zrw_eq]
  have hr' : ∀ k, k < 5815 → rG B 424 k = irow mi j k := fun k hk => by
    have := cpT_in (R := A 424) (A := fun i => A 425 (5815 * j + i)) (o := 0) (t := 5815) hk
    rw [Nat.zero_add] at this
    rw [e424, this]
    unfold irow
    rw [A5]
  have IMs : ∀ j' I' w' c' r' la', ImP j' I' w' c' r' la' → IM (3000 * (cc + 1)) g' (rG B) j' I' w' c' r' la' := by
    intro j' I' w' c' r' la' hP'
    have hPo' := hP'
    unfold ImP at hPo'
    exact IM_x (IM_of hI hP') (by omega) (by rw [G 426 (by omega)]) (G I' (by omega)) (fun k hk => by rw [G 425 (by omega)]) (fun a x1 x2 => G a (by omega)) (G c' (by omega)) (G (c' + 1) (by omega)) (G (c' + 2) (by omega)) (G r' (by omega)) (fun i hi => by rw [b2.2.1 la' (by omega)]) L eg hg
  refine ⟨hM, ⟨WR_congv (WR_cong a2 (fun a x1 x2 => ?_)) (fun k hk => hr' k (by omega)), WI_c hWI (fun k hk => hr' k (by omega)), e, by omega, Ed_c he2 (fun k hk => hr' k (by omega))⟩, RU_x hRU (fun k hk => hr' k (by unfold oR at hk; omega)) (fun k x1 x2 => by rw [FB 25 (by omega) (by omega), Ar k x1 x2]) b3 L eg hg, CU_x hCU (fun k _ hk => hr' k (by omega)) (by rw [FB 27 (by omega) (by omega), Ac]) (fun k hk => by rw [FB 28 (by omega) (by omega), Ac1 k hk]) (fun k hk => by rw [FB 29 (by omega) (by omega), Ac2 k hk]), ?_, ⟨IMs 0 376 377 387 390 391 (Or.inl ⟨rfl, rfl, rfl, rfl, rfl, rfl⟩), IMs 1 392 393 403 406 407 (Or.inr ⟨rfl, rfl, rfl, rfl, rfl, rfl⟩)⟩, TA_c hI.2.2.2.2.2.2.1 (G 408 (by omega)) (G 409 (by omega)) (F2 13 (by decide) (by decide)) (G 428 (by omega)) (G 429 (by omega)), ?_, ?_, SCc_c hI.2.2.2.2.2.2.2.2.2 (G 420 (by omega)) (F2 41 (by decide) (by decide)) (G 439 (by omega))⟩
  · rw [FB a (by omega) (by omega), Aw a x1 (by omega)]
  · obtain ⟨f, m, ⟨x1, x2, x3, x4⟩, x5, x6⟩ := hI.2.2.2.2.1
    exact ⟨f, 0, ⟨x1, by decide, by rw [FB 30 (by decide) (by decide), A302]; exact x3, by rw [FB 30 (by decide) (by decide)]; exact A30⟩, F31, fun i hi => absurd hi (by omega)⟩
  · refine SCa_G hI.2.2.2.2.2.2.2.1 ?_ ?_ ?_
    · rw [hB, zu_a (by decide), zrw_a (by decide)]; exact A19
    · rw [hB, zu_a (by decide), zrw_a (by decide), FA 419 (by omega) (by omega) (by omega) (by omega) (by omega)]
    · rw [hB, zu_a (by decide), zrw_a (by decide), FA 423 (by omega) (by omega) (by omega) (by omega) (by omega)]
  · have h9 := hI.2.2.2.2.2.2.2.2.1
    unfold SCb at h9 ⊢
    rw [FB 1 (by decide) (by decide), A1 14 (by decide), A1 15 (by decide), A1 16 (by decide), F2 6 (by decide) (by decide), F2 14 (by decide) (by decide), F2 33 (by decide) (by decide)]
    exact h9
end
section
variable {n : Nat}
theorem ImP_j {j : Nat} (h : j < 2) : ∃ I w c r la, ImP j I w c r la := by
  have : j = 0 ∨ j = 1 := by omega
  rcases this with e | e <;> subst e
  · exact ⟨_, _, _, _, _, Or.inl ⟨rfl, rfl, rfl, rfl, rfl, rfl⟩⟩
  · exact ⟨_, _, _, _, _, Or.inr ⟨rfl, rfl, rfl, rfl, rfl, rfl⟩⟩
theorem not01 {a : Int32} (h : a < 0 ∨ nI 2 ≤ a) : a ≠ nI 0 ∧ a ≠ nI 1 := by
  refine ⟨fun q => ?_, fun q => ?_⟩
  · subst q; revert h; decide
  · subst q; revert h; decide
theorem cl_image (hn : 6000 < n) (a : Int32) : CALL (f_X11_image n 1 a) (f_X12_image n 422 a) := by
  intro cc g mi ml hc hI
  have hs := hI.1.1
  have bad : (a < 0 ∨ nI 2 ≤ a) → ∃ r g' mi' ml' mi'' ml'', f_X11_image n 1 a (g, mi, ml) = some (r, (g', mi', ml')) ∧ f_X12_image n 422 a (g', mi', ml') = some (r, (g', mi'', ml'')) ∧ IV (cc + 1) g' mi'' := by
    intro h
    obtain ⟨z0, z1⟩ := not01 h
    refine F_call hI isF1 ?_ ?_
    · unfold f_X11_image
      simp only [li, ng1]
      rw [iN z0, iN z1, S_ck1 hs, told_F hs isF1, zb_s]
    · unfold f_X12_image
      simp only [li, ng1]
      rcases h with h | h
      · rw [r_lies0 h, zb_s, iP rfl, S_ck422 hs, ref_F hs isF1, zb_s]
      · rw [r_lies1 (N := 1) (by decide) h, zb_s, iP rfl, S_ck422 hs, ref_F hs isF1, zb_s]
  rcases pk_ix a (n := 2) (by decide) with ha | ha | ⟨j, hj, ha⟩
  · exact bad (Or.inl ha)
  · exact bad (Or.inr ha)
  subst ha
  obtain ⟨I, w, c, r, la, hP⟩ := ImP_j hj
  obtain ⟨g', mi', mi'', ⟨h1, h2⟩, h3⟩ := image_j (ml := ml) hn hI hP
  exact ⟨_, g', mi', ml, mi'', ml, h1, h2, h3⟩
theorem cl_back (hn : 6000 < n) (a : Int32) : CALL (f_X11_back n 1 a) (f_X12_back n 422 a) := by
  intro cc g mi ml hc hI
  have hs := hI.1.1
  have bad : (a < 0 ∨ nI 2 ≤ a) → ∃ r g' mi' ml' mi'' ml'', f_X11_back n 1 a (g, mi, ml) = some (r, (g', mi', ml')) ∧ f_X12_back n 422 a (g', mi', ml') = some (r, (g', mi'', ml'')) ∧ IV (cc + 1) g' mi'' := by
    intro h
    obtain ⟨z0, z1⟩ := not01 h
    refine F_call hI isF1 ?_ ?_
    · unfold f_X11_back
      simp only [li, ng1]
      rw [iN z0, iN z1, S_ck1 hs, told_F hs isF1, zb_s]
    · unfold f_X12_back
      simp only [li, ng1]
      rcases h with h | h
      · rw [r_lies0 h, zb_s, iP rfl, S_ck422 hs, ref_F hs isF1, zb_s]
      · rw [r_lies1 (N := 1) (by decide) h, zb_s, iP rfl, S_ck422 hs, ref_F hs isF1, zb_s]
  rcases pk_ix a (n := 2) (by decide) with ha | ha | ⟨j, hj, ha⟩
  · exact bad (Or.inl ha)
  · exact bad (Or.inr ha)
  subst ha
  obtain ⟨I, w, c, r, la, hP⟩ := ImP_j hj
  have hM := IM_of hI hP
  rcases hM.1 with q | q
  · refine F_call hI isF2 ?_ ?_
    · have x15 : fb_X11_back_15 n 1 (nI j) (g, mi, ml) = some (m2, (g, tF m2 mi, ml)) := by
        unfold fb_X11_back_15
        simp only [li, ng2]
        rw [S_ck1 hs, c_imageAt hs hP, zb_s, q_gI (ims hs hP).1.1, hM.2.1, q, iEq1 rfl, S_ck1 hs, told_F hs isF2, zb_s]
      unfold f_X11_back
      simp only [li]
      rw [x15]
      by_cases q : j = 0
      · rw [iEq1 (by rw [q])]
      · rw [iEq0 (by omega) (by omega) q, iEq1 (by have : j = 1 := by omega
                                                   rw [this])]
    · unfold f_X12_back
      simp only [li, ng2]
      rw [r_lies2 (by decide) (by omega), zb_s, iN n01.symm, S_gR422_4 hs, S_aI426 hs (by omega), tF_a (by decide) (by decide), q, iEq1 rfl, S_ck422 hs, ref_F hs isF2, zb_s]
  · obtain ⟨g', mi', mi'', ⟨h1, h2⟩, h3⟩ := back_j (ml := ml) hn hI hP q
    exact ⟨_, g', mi', ml, mi'', ml, h1, h2, h3⟩
end
