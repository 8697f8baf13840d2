/-! image, back -/
section
variable {g : zS} {mi : Nat → Nat → Int32} {ml : Nat → Nat → Int64} {n : Nat}
theorem r_i17 (hs : Sy g) {j : Nat} (hj : j < 2) : ∀ (r t f : Nat), t + r = 5815 → r < f → zlp3 (fb_X12_image_17 n) f 422 (nI j) (nI t) (g, zrw mi 425 (cpT (mi 425) (mi 424) (5815 * j) t), ml) = fb_X12_image_48 n 422 (nI j) (g, zrw mi 425 (cpT (mi 425) (mi 424) (5815 * j) 5815), ml)
  | r, t, 0, _, h => absurd h (by omega)
  | 0, t, f + 1, h1, _ => by
    have : t = 5815 := by omega
    subst this
    show fb_X12_image_17 n (zlp3 (fb_X12_image_17 n) f) 422 (nI j) (nI 5815) _ = _
    generalize zlp3 (fb_X12_image_17 n) f = K
    unfold fb_X12_image_17
    simp only [li]
    rw [iLe1 (by omega) (by omega) (by omega)]
  | r + 1, t, f + 1, h1, h2 => by
    have ih := r_i17 hs hj r (t + 1) f (by omega) (by omega)
    rw [← ih]
    show fb_X12_image_17 n (zlp3 (fb_X12_image_17 n) f) 422 (nI j) (nI t) _ = _
    generalize zlp3 (fb_X12_image_17 n) f = K
    unfold fb_X12_image_17
    simp only [li]
    rw [iLe0 (by omega) (by omega) (by omega), S_gR422_3 hs, S_gR422_2 hs, S_aI424 hs (by omega), zrw_a (by decide), pk_mul, nI_add, S_eI425 hs (by omega), ur_s, nI_add, cpT_u rfl]
theorem r_b33 (hs : Sy g) {j : Nat} (hj : j < 2) : ∀ (r t f : Nat), t + r = 5815 → r < f → zlp3 (fb_X12_back_33 n) f 422 (nI j) (nI t) (g, zrw mi 424 (cpT (mi 424) (fun i => mi 425 (5815 * j + i)) 0 t), ml) = fb_X12_back_64 n 422 (g, zrw mi 424 (cpT (mi 424) (fun i => mi 425 (5815 * j + i)) 0 5815), ml)
  | r, t, 0, _, h => absurd h (by omega)
  | 0, t, f + 1, h1, _ => by
    have : t = 5815 := by omega
    subst this
    show fb_X12_back_33 n (zlp3 (fb_X12_back_33 n) f) 422 (nI j) (nI 5815) _ = _
    generalize zlp3 (fb_X12_back_33 n) f = K
    unfold fb_X12_back_33
    simp only [li]
    rw [iLe1 (by omega) (by omega) (by omega)]
  | r + 1, t, f + 1, h1, h2 => by
    have ih := r_b33 hs hj r (t + 1) f (by omega) (by omega)
    rw [← ih]
    show fb_X12_back_33 n (zlp3 (fb_X12_back_33 n) f) 422 (nI j) (nI t) _ = _
    generalize zlp3 (fb_X12_back_33 n) f = K
    unfold fb_X12_back_33
    simp only [li]
    have e := cpT_u (A := fun i => mi 425 (5815 * j + i)) (R := mi 424) (o := 0) (t := t) (x := mi 425 (5815 * j + t)) rfl
    rw [Nat.zero_add] at e
    rw [iLe0 (by omega) (by omega) (by omega), S_gR422_2 hs, S_gR422_3 hs, pk_mul, nI_add, S_aI425 hs (by omega), zrw_a (by decide), S_eI424 hs (by omega), ur_s, nI_add, e]
theorem c_imageAt (hs : Sy g) {j I w c r la : Nat} (h : ImP j I w c r la) : f_X11_imageAt n 1 (nI j) (g, mi, ml) = some (I, (g, mi, ml)) := by
  unfold f_X11_imageAt
  simp only [li]
  rcases h with ⟨h1, h2, -⟩ | ⟨h1, h2, -⟩ <;> subst h1 <;> subst h2
  · rw [iEq1 rfl, S_gR1_7 hs]
  · rw [iEq0 (by decide) (by decide) (by decide), S_gR1_8 hs]
theorem IM_of {cc j I w c r la : Nat} (hI : IV cc g mi) (h : ImP j I w c r la) : IM (3000 * cc) g mi j I w c r la := by
  rcases h with ⟨h1, h2, h3, h4, h5, h6⟩ | ⟨h1, h2, h3, h4, h5, h6⟩ <;> subst h1 <;> subst h2 <;> subst h3 <;> subst h4 <;> subst h5 <;> subst h6
  · exact hI.2.2.2.2.2.1.1
  · exact hI.2.2.2.2.2.1.2
theorem image_j {cc j I w c r la : Nat} (hn : 6000 < n) (hI : IV cc g mi) (hP : ImP j I w c r la) : ∃ g' mi' mi'', (f_X11_image n 1 (nI j) (g, mi, ml) = some (nI 0, (g', mi', ml)) ∧ f_X12_image n 422 (nI j) (g', mi', ml) = some (nI 0, (g', mi'', ml))) ∧ IV (cc + 1) g' mi'' := by
  have hs := hI.1.1
  obtain ⟨hR, hWI, e, he1, he2⟩ := hI.2.1
  obtain ⟨⟨i1, i2, i3, i4⟩, i5, i6, i7, i8, i9⟩ := ims hs hP
  have hPo := hP
  unfold ImP at hPo
  obtain ⟨m1', a1, a2, a3⟩ := c_copy (u := w) (w := 2) (ml := ml) (n := n) hs i5 w2c (by omega) hR (WI_r hWI)
  obtain ⟨g', m2', b1, b2, b3, b4, b5⟩ := c_rul (mi := m1') (ml := ml) (n := n) hn (by omega) (by omega) (by omega) (by omega) i6 i8 (fun k hk => (hI.1.2.2.2.2 26 (Or.inl rfl) k hk).imp id (fun q => q.1))
  obtain ⟨m3', d1, d2, d3, d4, d5⟩ := c_cul (mi := m2') (ml := ml) (n := n) (by omega) (CS_g i7 b2 (by omega)) (CS_g i9 b2 (by omega))
  have hM := RM_g hI.1 b2 (by omega) (Or.inl rfl) b3
  have hs' := hM.1
  obtain ⟨A, hA⟩ : ∃ A, A = tG (zu m3' I 3 (nI 1)) := ⟨_, rfl⟩
  have hX : f_X11_image n 1 (nI j) (g, mi, ml) = some (nI 0, (g', A, ml)) := by
    have x15 : fb_X11_image_15 n 1 (nI j) (g, mi, ml) = some (nI 0, (g', A, ml)) := by
      unfold fb_X11_image_15 f_X3_keep
      simp only [li]
      have z1 : g'.1 I = 4 := by rw [b2.1.1]; exact i1
      have z4 : g'.2.2.1 I 2 = c := by rw [b2.2.1 I (by omega)]; exact i4
      rw [S_ck1 hs, c_imageAt hs hP, zb_s, S_gR1_0 hs, S_gR1_3 hs, S_gR1_4 hs, q_ck i1, q_gR i1 i2 (by omega), W_ck hs i5, a1, zb_s, q_gR i1 i3 (by omega), q_ck i6.1, b1, zb_s, q_gR z1 z4 (by omega), q_ck (CS_g i7 b2 (by omega)).1.1, d1, zb_s, q_pZ (v := nI 1) z1 (Or.inr rfl), zb_s, S_ck1 hs', told_G hs' ⟨0, by decide, rfl⟩, zb_s, hA]
    unfold f_X11_image
    simp only [li]
    rw [x15]
    by_cases q : j = 0
    · rw [iEq1 (by rw [q])]
    · rw [iEq0 (by omega) (by omega) q, iEq1 (by have : j = 1 := by omega
                                                 rw [this])]
  have FA : ∀ a, a ≠ 1 → a ≠ I → a ≠ r → (a < w ∨ w + 10 ≤ a) → (a < c ∨ c + 3 ≤ a) → A a = mi a := fun a x1 x2 x3 x4 x5 => by rw [hA, tG_a x1, zu_a x2, d2 a x5, b4 a x3, a3 a x4]
  have A1 : ∀ k, k ≠ 19 → A 1 k = mi 1 k := fun k k2 => by rw [hA, tG_1 k2, zu_a (by omega), d2 1 (by omega), b4 1 (by omega), a3 1 (by omega)]
  have A19 : A 1 19 = nI 0 := by rw [hA]; exact zu_s _ _ _ _
  have AI : A I 3 = nI 1 := by rw [hA, tG_a (by omega), zu_s]
  have Aw : ∀ a, w ≤ a → a < w + 10 → A a = m1' a := fun a x1 x2 => by rw [hA, tG_a (by omega), zu_a (by omega), d2 a (by omega), b4 a (by omega)]
  have Ar : ∀ k, 2 ≤ k → k ≤ 5 → A r k = mi 25 k := fun k x1 x2 => by rw [hA, tG_a (by omega), zu_a (by omega), d2 r (by omega), b5 k x1 x2, a3 25 (by omega)]
  have Ac : A c 2 = mi 27 2 := by rw [hA, tG_a (by omega), zu_a (by omega), d3, b4 27 (by omega), a3 27 (by omega)]
  have Ac1 : ∀ k, k < 6 → A (c + 1) k = mi 28 k := fun k hk => by rw [hA, tG_a (by omega), zu_a (by omega), d4 k hk, b4 (27 + 1) (by omega), a3 (27 + 1) (by omega)]
  have Ac2 : ∀ k, k < 6 → A (c + 2) k = mi 29 k := fun k hk => by rw [hA, tG_a (by omega), zu_a (by omega), d5 k hk, b4 (27 + 2) (by omega), a3 (27 + 2) (by omega)]
  obtain ⟨B, hB⟩ : ∃ B, B = zu (zrw A 425 (cpT (A 425) (A 424) (5815 * j) 5815)) 426 j (nI 1) := ⟨_, rfl⟩
  have e17 := r_i17 (mi := A) (ml := ml) (n := n) hs' (j := j) (by omega) 5815 0 n rfl (by omega)
  have ez : cpT (A 425) (A 424) (5815 * j) 0 = A 425 := cpT_0
  rw [ez, u_self] at e17
  have hY : f_X12_image n 422 (nI j) (g', A, ml) = some (nI 0, (g', rG B, ml)) := by
    unfold f_X12_image
    simp only [li]
    rw [r_lies2 (by decide) (by omega), zb_s, iN n01.symm]
    refine e17.trans ?_
    unfold fb_X12_image_48
    simp only [li]
    rw [S_gR422_4 hs', S_eZ426 (x := nI 1) hs' (Or.inr rfl) (by omega), ← hB, S_ck422 hs', good_e hs', zb_s]
  refine ⟨g', A, rG B, ⟨hX, hY⟩, ?_⟩
  have FB : ∀ a, a ≠ 422 → a ≠ 425 → a ≠ 426 → rG B a = A a := fun a x1 x2 x3 => by rw [rG_a x1, hB, zu_a x3, zrw_a x2]
  have F2 : ∀ k, k ≠ 0 → rG B 422 k = mi 422 k := fun k hk => by rw [rG_2 hk, hB, zu_a (by decide), zrw_a (by decide), FA 422 (by omega) (by omega) (by omega) (by omega) (by omega)]
  have G : ∀ a, (1 < a ∧ a < 376) ∨ (407 < a ∧ a ≠ 422 ∧ a ≠ 425 ∧ a ≠ 426) → rG B a = mi a := fun a ha => by rw [FB a (by omega) (by omega) (by omega), FA a (by omega) (by omega) (by omega) (by omega) (by omega)]
  have e424 : rG B 424 = mi 424 := G 424 (by decide)
  have L : ∀ a, 439 < a → a ≤ g.2.2.2.1 → rG B a = mi a := fun a q _ => G a (by omega)
  have eg : ∀ a, 439 < a → a ≤ g.2.2.2.1 → g'.1 a = g.1 a ∧ g'.2.1 a = g.2.1 a ∧ g'.2.2.1 a = g.2.2.1 a := fun a q _ => ⟨by rw [b2.1.1], by rw [b2.1.2], b2.2.1 a (by omega)⟩
  have hg : g.2.2.2.1 ≤ g'.2.2.2.1 := by rw [b2.2.2]; exact Nat.le_refl _
  have e425 : rG B 425 = cpT (A 425) (A 424) (5815 * j) 5815 := by rw [rG_a (by decide), hB, zu_a (by decide), zrw_eq]
  have A4 : A 424 = mi 424 := FA 424 (by omega) (by omega) (by omega) (by omega) (by omega)
  have A5 : A 425 = mi 425 := FA 425 (by omega) (by omega) (by omega) (by omega) (by omega)
  have hrow' : ∀ k, k < 5815 → irow (rG B) j k = mi 424 k := fun k hk => by
    unfold irow
    rw [e425, cpT_in hk, A4]
  have IMs : ∀ j' I' w' c' r' la', ImP j' I' w' c' r' la' → IM (3000 * (cc + 1)) g' (rG B) j' I' w' c' r' la' := by
    intro j' I' w' c' r' la' hP'
    have hPo' := hP'
    unfold ImP at hPo'
    by_cases q : j' = j
    · obtain ⟨rfl, rfl, rfl, rfl, rfl, rfl⟩ : j' = j ∧ I' = I ∧ w' = w ∧ c' = c ∧ r' = r ∧ la' = la := by omega
      have k1 : rG B 426 j' = nI 1 := by rw [rG_a (by decide), hB, zu_s]
      have k2 : rG B I' 3 = nI 1 := by rw [FB I' (by omega) (by omega) (by omega)]; exact AI
      refine ⟨Or.inr k1, by rw [k1, k2], fun _ => ⟨⟨WR_congv (WR_cong a2 (fun a x1 x2 => ?_)) (fun k hk => hrow' k (by omega)), WI_c hWI (fun k hk => hrow' k (by omega)), e, by omega, Ed_c he2 (fun k hk => hrow' k (by omega))⟩, ?_, ?_⟩⟩
      · rw [FB a (by omega) (by omega) (by omega), Aw a x1 x2]
      · exact RU_x hI.2.2.1 (fun k hk => hrow' k (by unfold oR at hk; omega)) (fun k x1 x2 => by rw [FB r' (by omega) (by omega) (by omega), Ar k x1 x2]) b3 L eg hg
      · exact CU_x hI.2.2.2.1 (fun k _ hk => hrow' k (by omega)) (by rw [FB c' (by omega) (by omega) (by omega), Ac]) (fun k hk => by rw [FB (c' + 1) (by omega) (by omega) (by omega), Ac1 k hk]) (fun k hk => by rw [FB (c' + 2) (by omega) (by omega) (by omega), Ac2 k hk])
    · have H : ∀ a, a = I' ∨ (w' ≤ a ∧ a < w' + 10) ∨ (c' ≤ a ∧ a < c' + 3) ∨ a = r' → rG B a = mi a := fun a ha => by rw [FB a (by omega) (by omega) (by omega), FA a (by omega) (by omega) (by omega) (by omega) (by omega)]
      refine IM_x (IM_of hI hP') (by omega) ?_ (H I' (by omega)) (fun k hk => ?_) (fun a x1 x2 => H a (by omega)) (H c' (by omega)) (H (c' + 1) (by omega)) (H (c' + 2) (by omega)) (H r' (by omega)) (fun i hi => by rw [b2.2.1 la' (by omega)]) L eg hg
      · rw [rG_a (by decide), hB, zu_k q, zrw_a (by decide), FA 426 (by omega) (by omega) (by omega) (by omega) (by omega)]
      · rw [e425, cpT_out (by omega), A5]
  refine ⟨hM, by rw [e424]; exact PW_e hI.2.1 (by omega) (fun a _ _ => G a (by omega)), by rw [e424]; exact RU_x hI.2.2.1 (fun _ _ => rfl) (fun k _ _ => by rw [G 25 (by omega)]) (fun i hi => by rw [b2.2.1 26 (by omega)]) L eg hg, by rw [e424]; exact CU_c hI.2.2.2.1 (fun _ _ _ => rfl) (G 27 (by omega)) (G 28 (by omega)) (G 29 (by omega)), HI_c hI.2.2.2.2.1 (by omega) (G 30 (by omega)) (G 32 (by omega)) (F2 31 (by decide)) (G 435 (by omega)) (fun a _ _ => G a (by omega)), ⟨IMs 0 376 377 387 390 391 (Or.inl ⟨rfl, rfl, rfl, rfl, rfl, rfl⟩), IMs 1 392 393 403 406 407 (Or.inr ⟨rfl, rfl, rfl, rfl, rfl, rfl⟩)⟩, TA_c hI.2.2.2.2.2.2.1 (G 408 (by omega)) (G 409 (by omega)) (F2 13 (by decide)) (G 428 (by omega)) (G 429 (by omega)), ?_, ?_, SCc_c hI.2.2.2.2.2.2.2.2.2 (G 420 (by omega)) (F2 41 (by decide)) (G 439 (by omega))⟩
  · refine SCa_G hI.2.2.2.2.2.2.2.1 ?_ ?_ ?_
    · rw [hB, zu_a (by decide), zrw_a (by decide)]; exact A19
    · rw [hB, zu_a (by decide), zrw_a (by decide), FA 419 (by omega) (by omega) (by omega) (by omega) (by omega)]
    · rw [hB, zu_a (by decide), zrw_a (by decide), FA 423 (by omega) (by omega) (by omega) (by omega) (by omega)]
  · have h9 := hI.2.2.2.2.2.2.2.2.1
    unfold SCb at h9 ⊢
    rw [FB 1 (by decide) (by decide) (by decide), A1 14 (by decide), A1 15 (by decide), A1 16 (by decide), F2 6 (by decide), F2 14 (by decide), F2 33 (by decide)]
    exact h9
end
