/-! law, the call -/
section
variable {n : Nat}
theorem cl_law6 {c cnt len q : Nat} {b : Nat → Nat} {l : List (Nat × Nat × Nat)} {g : zS} {mi : Nat → Nat → Int32} {ml : Nat → Nat → Int64} (hn : 6000 < n) (hI : IV c g mi) (hc : cnt < 6) (h2 : mi 25 2 = nI cnt) (h3 : mi 424 206 = nI cnt) (t1 : TPc mi b len) (t2 : TPr mi b len) (t3 : mi 422 13 = nI len) (hl : l = pTk b len 401 0) (he : pRd false (tD len l) (tV b len l) l.length 12 0 0 0 = .error q) : ∃ mi' mi'', f_X11_law n 1 (g, mi, ml) = some (m6, (g, mi', ml)) ∧ f_X12_law n 422 (g, mi', ml) = some (m6, (g, mi'', ml)) ∧ IV (c + 1) g mi'' := by
  have hs := hI.1.1
  obtain ⟨mi1, a1, a2, a3⟩ := (c_reads (o := false) (l := l) (ml := ml) (n := n) hs t1 (by omega) hl).2 q he
  have tb : tB false = nI 0 := rfl
  rw [tb] at a1
  obtain ⟨m2', hm2⟩ : ∃ y, y = zu (zu mi1 408 1 (nI 0)) 1 15 (nI (tP len l q)) := ⟨_, rfl⟩
  obtain ⟨A, hA⟩ : ∃ y, y = tF m6 m2' := ⟨_, rfl⟩
  have hX : f_X11_law n 1 (g, mi, ml) = some (m6, (g, A, ml)) := by
    unfold f_X11_law
    simp only [li, ng6]
    rw [S_gR1_3 hs, S_gI25 hs, h2, iLt1 (by omega) (by omega) (by omega), S_gR1_10 hs, S_gR1_9 hs, S_ck410 hs, a1, zb_s, S_gR1_9 hs, S_pI408 hs, S_gR1_10 hs, S_gI410 hs, zu_a (by decide), a3, S_pI1 hs, ← hm2, iEq1 rfl, S_ck1 hs, told_F hs isF6, zb_s, hA]
  have F2' : ∀ a, a ≠ 1 → a ≠ 408 → (a < 410 ∨ 418 < a) → m2' a = mi a := fun a x1 x2 x3 => by rw [hm2, zu_a x1, zu_a x2, a2 a x3]
  have FA : ∀ a, a ≠ 1 → a ≠ 408 → a ≠ 419 → (a < 410 ∨ 418 < a) → A a = mi a := fun a x1 x2 x3 x4 => by rw [hA, tF_a x1 x3, F2' a x1 x2 x4]
  have A422 : A 422 = mi 422 := FA 422 (by decide) (by decide) (by decide) (by decide)
  have tA : TPr A b len := by
    unfold TPr at t2 ⊢
    rw [FA 428 (by decide) (by decide) (by decide) (by decide), FA 429 (by decide) (by decide) (by decide) (by decide)]; exact t2
  obtain ⟨cc, u, p, -, -, r2⟩ := r_as (o := false) (l := l) (n := n) (ml := ml) hs tA (by omega) (by rw [A422]; exact t3) hl
  obtain ⟨M', r3, r4, r5, r6⟩ := r2 q he
  rw [tb] at r3
  have hY : f_X12_law n 422 (g, A, ml) = some (m6, (g, rF m6 M', ml)) := by
    unfold f_X12_law
    simp only [li, ng6]
    rw [S_gR422_2 hs, S_aI424 hs (by decide), FA 424 (by decide) (by decide) (by decide) (by decide), h3, iEq0 (by omega) (by omega) (by omega), S_ck422 hs, r3, zb_s, iEq1 rfl, S_ck422 hs, ref_F hs isF6, zb_s]
  refine ⟨A, _, hX, hY, ?_⟩
  have FB : ∀ a, a ≠ 422 → a ≠ 423 → a ≠ 431 → a ≠ 432 → a ≠ 433 → rF m6 M' a = A a := fun a x1 x2 x3 x4 x5 => by rw [rF_a x1 x2, r4.1 a x1 x3 x4 x5]
  have A1 : ∀ k, k ≠ 15 → k ≠ 19 → A 1 k = mi 1 k := fun k k1 k2 => by rw [hA, tF_1 k2, hm2, zu_k k1, zu_a (by decide), a2 1 (by decide)]
  refine IV_Fz (x := nI 0) hI isF6 (fun a ha ha2 => by rw [FB a (by omega) ha2 (by omega) (by omega) (by omega), FA a (by omega) (by omega) (by omega) (by omega)]) (fun k k1 k2 => by rw [FB 1 (by decide) (by decide) (by decide) (by decide) (by decide), A1 k k1 k2]) ?_ (fun k hk => by rw [rF_2 (by omega), r4.2 k (by omega), A422]) ?_ ?_ ?_
  · rw [FB 1 (by decide) (by decide) (by decide) (by decide) (by decide), rF_2 (by decide), r6, hA, tF_1 (by decide), hm2, zu_s]
  · rw [FB 408 (by decide) (by decide) (by decide) (by decide) (by decide), hA, tF_a (by decide) (by decide), hm2, zu_a (by decide), zu_s]
  · rw [rF_2 (by decide), r5]
  · have h8 := hI.2.2.2.2.2.2.2.1
    have h8' : SCa m2' := SCa_c h8 (by rw [hm2, zu_k (by decide), zu_a (by decide), a2 1 (by decide)]) (F2' 419 (by decide) (by decide) (by decide)) (by rw [F2' 422 (by decide) (by decide) (by decide)]) (F2' 423 (by decide) (by decide) (by decide))
    exact SCa_F h8' isF6 (by rw [r4.1 1 (by decide) (by decide) (by decide) (by decide), hA]) (by rw [r4.1 419 (by decide) (by decide) (by decide) (by decide), hA]) (by rw [r4.1 423 (by decide) (by decide) (by decide) (by decide), FA 423 (by decide) (by decide) (by decide) (by decide), F2' 423 (by decide) (by decide) (by decide)])
theorem cl_lawG {c cnt len : Nat} {b : Nat → Nat} {l : List (Nat × Nat × Nat)} {g : zS} {mi : Nat → Nat → Int32} {ml : Nat → Nat → Int64} (hn : 6000 < n) (hI : IV c g mi) (hc : cnt < 6) (h2 : mi 25 2 = nI cnt) (h3 : mi 424 206 = nI cnt) (t1 : TPc mi b len) (t2 : TPr mi b len) (t3 : mi 422 13 = nI len) (hl : l = pTk b len 401 0) {L : List Ci} {cd : List (Nat × Nat)} (he : pRd false (tD len l) (tV b len l) l.length 12 0 0 0 = .ok (L, cd)) : ∃ g' mi' ml' mi'', f_X11_law n 1 (g, mi, ml) = some (nI cnt, (g', mi', ml')) ∧ f_X12_law n 422 (g', mi', ml') = some (nI cnt, (g', mi'', ml')) ∧ IV (c + 1) g' mi'' := by
  have hs := hI.1.1
  obtain ⟨-, hx1, hx2, hsl, hLR⟩ := hI.1
  obtain ⟨x, hx⟩ : ∃ x, g.2.2.2.1 = x := ⟨_, rfl⟩
  obtain ⟨mi1, a1, a2, a3, a4, a5, a6, a7, a8, a9⟩ := (c_reads (o := false) (l := l) (ml := ml) (n := n) hs t1 (by omega) hl).1 L cd he
  have tb : tB false = nI 0 := rfl
  rw [tb] at a1
  obtain ⟨m2', hm2⟩ : ∃ y, y = zu (zu mi1 408 1 (nI 0)) 1 15 m1 := ⟨_, rfl⟩
  have N2 : ∀ a, a ≠ 1 → a ≠ 408 → m2' a = mi1 a := fun a x1 x2 => by rw [hm2, zu_a x1, zu_a x2]
  obtain ⟨g1, m3', ml1, d1, d2, d3, d4, d5, d6, d7, d8, d9⟩ := c_cut (mi := m2') (ml := ml) (n := n) hs hx (by omega) a8 a9 (by rw [N2 411 (by decide) (by decide)]; exact a4) (by rw [N2 411 (by decide) (by decide)]; exact a5)
  have hs1 : Sy g1 := Sy_c hs (fun a ha => (d2 a (by omega)).1.1) (fun a ha => (d2 a (by omega)).1.2.1) (fun a ha _ _ _ => (d2 a (by omega)).1.2.2)
  obtain ⟨g2, hg2⟩ : ∃ y, y = gP g1 26 cnt (x + 1) := ⟨_, rfl⟩
  have f2 : g2.1 = g1.1 ∧ g2.2.1 = g1.2.1 ∧ g2.2.2.2 = g1.2.2.2 := by rw [hg2]; exact ⟨rfl, rfl, rfl⟩
  have R2 : ∀ a, a ≠ 26 → g2.2.2.1 a = g1.2.2.1 a := fun a ha => by rw [hg2]; exact gP_o ha
  have R26 : ∀ i, i ≠ cnt → g2.2.2.1 26 i = g.2.2.1 26 i := fun i hi => by rw [hg2, gP_k hi, (d2 26 (by omega)).1.2.2]
  have R26n : g2.2.2.1 26 cnt = x + 1 := by rw [hg2, gP_n]
  have hs2 : Sy g2 := Sy_c hs1 (fun a ha => by rw [f2.1]) (fun a ha => by rw [f2.2.1]) (fun a ha z _ _ => R2 a z)
  obtain ⟨A, hA⟩ : ∃ y, y = tG (zu m3' 25 2 (nI (cnt + 1))) := ⟨_, rfl⟩
  have O3 : ∀ a, a ≤ x → m3' a = m2' a := fun a ha => (d2 a ha).2
  have e25 : m3' 25 2 = nI cnt := by rw [O3 25 (by omega), N2 25 (by decide) (by decide), a2 25 (by decide)]; exact h2
  have hX : f_X11_law n 1 (g, mi, ml) = some (nI cnt, (g2, A, ml1)) := by
    have eqq : ∀ {ρ : Type} (K : zH → Option ρ), zeQ ((g1, m3', ml1) : zH) 25 9 26 (nI cnt) (x + 1) K = K (g2, m3', ml1) := fun K => by
      rw [hg2]
      exact q_eQ (N := 6) (Sy_f hs1 (0, 26, 0, 25) rfl) (Sy_f hs1 (1, 26, 0, 6) rfl) (by decide) hc d4.1
    have ead : f_X6_addLaw n 25 (x + 1) (g1, m3', ml1) = some (nI cnt, (g2, zu m3' 25 2 (nI (cnt + 1)), ml1)) := by
      unfold f_X6_addLaw
      simp only [li]
      rw [S_gI25 hs1, e25, iLt1 (by omega) (by omega) (by omega), S_gR25_1 hs1, S_gI25 hs1, e25, eqq]
      rw [S_gI25 hs2, e25, nI_add, S_pI25 hs2, S_gI25 hs2, zu_s, nI_sub (by omega), Nat.add_sub_cancel]
    unfold f_X11_law
    simp only [li]
    rw [S_gR1_3 hs, S_gI25 hs, h2, iLt1 (by omega) (by omega) (by omega), S_gR1_10 hs, S_gR1_9 hs, S_ck410 hs, a1, zb_s, S_gR1_9 hs, S_pI408 hs, S_gR1_10 hs, S_gI410 hs, zu_a (by decide), a3, S_pI1 hs, ← hm2, iEq0 (by decide) (by decide) (by decide), S_gR1_3 hs, S_gR1_10 hs, S_gR410_0 hs, S_ck411 hs, d1, zb_s, S_ck25 hs1, ead, zb_s, S_ck1 hs2, told_G hs2 ⟨cnt, by omega, rfl⟩, zb_s, hA]
  have FA3 : ∀ a, a ≠ 1 → a ≠ 25 → A a = m3' a := fun a x1 x2 => by rw [hA, tG_a x1, zu_a x2]
  have FA : ∀ a, a ≠ 1 → a ≠ 25 → a ≠ 408 → a ≤ x → (a < 410 ∨ 418 < a) → A a = mi a := fun a x1 x2 x3 x4 x5 => by rw [FA3 a x1 x2, O3 a x4, N2 a x1 x3, a2 a x5]
  have A1 : ∀ k, k ≠ 15 → k ≠ 19 → A 1 k = mi 1 k := fun k k1 k2 => by rw [hA, tG_1 k2, zu_a (by decide), O3 1 (by omega), hm2, zu_k k1, zu_a (by decide), a2 1 (by decide)]
  have A15 : A 1 15 = m1 := by rw [hA, tG_1 (by decide), zu_a (by decide), O3 1 (by omega), hm2, zu_s]
  have A19 : A 1 19 = nI 0 := by rw [hA]; exact zu_s _ _ _ _
  have A408 : A 408 1 = nI 0 := by rw [FA3 408 (by decide) (by decide), O3 408 (by omega), hm2, zu_a (by decide), zu_s]
  have A25 : ∀ k, k ≠ 2 → A 25 k = mi 25 k := fun k hk => by rw [hA, tG_a (by decide), zu_k hk, O3 25 (by omega), N2 25 (by decide) (by decide), a2 25 (by decide)]
  have A252 : A 25 2 = nI (cnt + 1) := by rw [hA, tG_a (by decide), zu_s]
  have A422 : A 422 = mi 422 := FA 422 (by decide) (by decide) (by decide) (by omega) (by decide)
  have A424 : A 424 = mi 424 := FA 424 (by decide) (by decide) (by decide) (by omega) (by decide)
  have tA : TPr A b len := by
    unfold TPr at t2 ⊢
    rw [FA 428 (by decide) (by decide) (by decide) (by omega) (by decide), FA 429 (by decide) (by decide) (by decide) (by omega) (by decide)]; exact t2
  obtain ⟨cc, u, p, r1, r2, -⟩ := r_as (o := false) (l := l) (n := n) (ml := ml1) hs2 tA (by omega) (by rw [A422]; exact t3) hl
  obtain ⟨M', r3, r4, ⟨r5, r6, r7⟩, r8, r9⟩ := r2 L cd he
  rw [tb] at r3
  have hT4 : l.length ≤ 400 := by
    have := pTk_len (b := b) (len := len) 401 0 (by omega)
    rw [← hl] at this
    have := t1.2.1
    omega
  obtain ⟨R, s1, s2, s3, s4⟩ := r_lays (ml := ml1) (n := n) (i := cnt) (mi := M') hs2 (by omega) (by omega) hT4 r5
  have M4 : M' 424 = mi 424 := by rw [r4.1 424 (by decide) (by decide) (by decide) (by decide), A424]
  have Rold : ∀ j, j ≠ 208 + cnt → ¬ (215 + 400 * cnt ≤ j ∧ j < 615 + 400 * cnt) → ¬ (3015 + 400 * cnt ≤ j ∧ j < 3415 + 400 * cnt) → R j = mi 424 j := fun j q1 q2 q3 => by rw [s4 j q1 q2 q3, M4]
  have R206 : R 206 = nI cnt := by rw [Rold 206 (by omega) (by omega) (by omega)]; exact h3
  obtain ⟨B, hB⟩ : ∃ y, y = zu (zrw M' 424 R) 424 206 (nI (cnt + 1)) := ⟨_, rfl⟩
  have hY : f_X12_law n 422 (g2, A, ml1) = some (nI cnt, (g2, rG B, ml1)) := by
    have z1 : zrw M' 424 R 424 206 = nI cnt := by rw [zrw_eq]; exact R206
    unfold f_X12_law
    simp only [li]
    rw [S_gR422_2 hs2, S_aI424 hs2 (by decide), A424, h3, iEq0 (by omega) (by omega) (by omega), S_ck422 hs2, r3, zb_s, iEq0 (by decide) (by decide) (by decide), S_gR422_2 hs2, S_aI424 hs2 (by decide), M4, h3, S_ck422 hs2, s1, zb_s, S_gR422_2 hs2, S_aI424 hs2 (by decide), z1, nI_add, S_eI424 hs2 (by decide), ← hB, S_gR422_2 hs2, S_aI424 hs2 (by decide)]
    have z2 : B 424 206 = nI (cnt + 1) := by rw [hB, zu_s]
    rw [z2, nI_sub (by omega), Nat.add_sub_cancel, S_ck422 hs2, good_e hs2, zb_s]
  refine ⟨g2, A, ml1, _, hX, hY, ?_⟩
  have FB : ∀ a, a ≠ 422 → a ≠ 424 → a ≠ 431 → a ≠ 432 → a ≠ 433 → rG B a = A a := fun a x1 x2 x3 x4 x5 => by rw [rG_a x1, hB, zu_a x2, zrw_a x2, r4.1 a x1 x3 x4 x5]
  have F2 : ∀ k, k ≠ 0 → (k < 8 ∨ (10 < k ∧ k < 13) ∨ (14 < k ∧ k < 18) ∨ 21 < k) → rG B 422 k = mi 422 k := fun k k1 k2 => by rw [rG_2 k1, hB, zu_a (by decide), zrw_a (by decide), r4.2 k k2, A422]
  have G : ∀ a, (1 < a ∧ a < 408 ∧ a ≠ 25) ∨ a = 409 ∨ (418 < a ∧ a < 422) ∨ a = 423 ∨ (424 < a ∧ a < 431) ∨ (433 < a ∧ a ≤ x) → rG B a = mi a := fun a ha => by rw [FB a (by omega) (by omega) (by omega) (by omega) (by omega), FA a (by omega) (by omega) (by omega) (by omega) (by omega)]
  have B4 : rG B 424 = fun j => if j = 206 then nI (cnt + 1) else R j := by
    rw [rG_a (by decide), hB]
    funext j
    by_cases z : j = 206
    · rw [z, zu_s, if_pos rfl]
    · rw [zu_k z, zrw_eq, if_neg z]
  have V : ∀ j, j ≠ 206 → j ≠ 208 + cnt → ¬ (215 + 400 * cnt ≤ j ∧ j < 615 + 400 * cnt) → ¬ (3015 + 400 * cnt ≤ j ∧ j < 3415 + 400 * cnt) → rG B 424 j = mi 424 j := fun j q1 q2 q3 q4 => by
    rw [B4]
    show (if j = 206 then nI (cnt + 1) else R j) = _
    rw [if_neg q1, Rold j q2 q3 q4]
  have VR : ∀ j, j ≠ 206 → rG B 424 j = R j := fun j q => by
    rw [B4]
    exact if_neg q
  have V206 : rG B 424 206 = nI (cnt + 1) := by
    rw [B4]
    exact if_pos rfl
  have L' : ∀ a, 439 < a → a ≤ g.2.2.2.1 → rG B a = mi a := fun a q1 q2 => G a (by omega)
  have eg : ∀ a, 439 < a → a ≤ g.2.2.2.1 → g2.1 a = g.1 a ∧ g2.2.1 a = g.2.1 a ∧ g2.2.2.1 a = g.2.2.1 a := fun a q1 q2 => ⟨by rw [f2.1, (d2 a (by omega)).1.1], by rw [f2.2.1, (d2 a (by omega)).1.2.1], by rw [R2 a (by omega), (d2 a (by omega)).1.2.2]⟩
  have hnx : g2.2.2.2.1 = x + 4 := by rw [f2.2.2]; exact d3.1
  have hg : g.2.2.2.1 ≤ g2.2.2.2.1 := by omega
  have hsl2 : g2.2.2.2.2 = g.2.2.2.2 + (5 + cd.length + cd.length + 5 * L.length) := by rw [f2.2.2]; exact d3.2
  have E3 : ∀ a, x < a → rG B a = m3' a := fun a ha => by rw [FB a (by omega) (by omega) (by omega) (by omega) (by omega), FA3 a (by omega) (by omega)]
  obtain ⟨cnt', ⟨u1, u2, u3⟩, ⟨u4, u5⟩, ⟨u6, u7⟩, ⟨u8, u8'⟩, u9⟩ := hI.2.2.1
  have hcnt : cnt' = cnt := nI_inj (by omega) (by omega) (u3.symm.trans h3)
  subst hcnt
  have hTk : TkO b len l := by rw [hl]; exact pTk_ok (fun i hi => (t1.2.2 i hi).2) 401 0 (by omega)
  have tDT : tD len l l.length = 0 := by
    unfold tD
    rw [gd_out l l.length _ (Nat.le_refl _)]
  have newL : LWk g2 (rG B) (rG B 424) (x + 1) cnt' L := by
    refine ⟨x + 2, x + 3, x + 4, cd.length, l.length, tD len l, tV b len l, ⟨⟨⟨by rw [f2.1]; exact d4.1, by rw [R2 _ (by omega)]; exact d4.2.1, by omega, by rw [R2 _ (by omega)]; exact d4.2.2.1, by omega⟩, ⟨by rw [f2.1]; exact d5.1, by rw [f2.1]; exact d5.2.1, ⟨by rw [f2.2.1, d6.1]; exact Nat.le_refl _, by rw [f2.2.1, d6.1]; omega⟩, ⟨by rw [f2.2.1, d6.2.1]; exact Nat.le_refl _, by rw [f2.2.1, d6.2.1]; omega⟩⟩, by rw [E3 _ (by omega)]; exact d7.1, a8⟩, ⟨⟨by rw [R2 _ (by omega)]; exact d4.2.2.2, by omega⟩, by rw [f2.1]; exact d5.2.2, by rw [f2.2.1, d6.2.2]; exact Nat.le_refl _, by rw [f2.2.1, d6.2.2]; omega⟩, ⟨by rw [E3 _ (by omega)]; exact d7.2, a9⟩, ?_, tDT, cd, ?_, Nat.le_refl _, he⟩, ⟨⟨by rw [VR _ (by omega)]; exact s2, hT4⟩, fun k hk => ?_, tDT, fun k => ?_⟩, ⟨by omega, by omega⟩, ⟨by omega, by omega⟩, ⟨by omega, by omega⟩, ⟨by omega, by omega⟩⟩
    · refine EnL_c L 0 a7 (fun j _ hj => ?_)
      rw [E3 _ (by omega), d9 j (by omega), N2 414 (by decide) (by decide)]
    · refine CA_cong a6 (fun k _ hk => ?_)
      rw [E3 _ (by omega), E3 _ (by omega), (d8 k (by omega)).1, (d8 k (by omega)).2, N2 412 (by decide) (by decide), N2 413 (by decide) (by decide)]
      exact ⟨rfl, rfl⟩
    · obtain ⟨y1, y2⟩ := s3 k hk
      obtain ⟨z1, z2, z3⟩ := TLr_g l 0 k r1 (by omega)
      rw [Nat.zero_add] at z1 z3
      rw [VR _ (by omega), VR _ (by omega), y1, y2, r6, r7]
      refine ⟨z1, fun w1 w2 => ?_⟩
      obtain ⟨-, -, w3⟩ := tk_f hTk t1.2.1 k
      rw [z3 w1, (w3 w1).2.1 (by omega)]
    · have := (tk_f hTk t1.2.1 k).1
      omega
  have hRU : RU g2 (rG B) 25 26 (rG B 424) := by
    have r25 : ∀ k, rG B 25 k = A 25 k := fun k => by rw [FB 25 (by decide) (by decide) (by decide) (by decide) (by decide)]
    refine ⟨cnt' + 1, ⟨by omega, by rw [r25]; exact A252, V206⟩, ⟨by rw [r25, A25 3 (by decide), V 207 (by omega) (by omega) (by omega) (by omega)]; exact u4, by rw [V 207 (by omega) (by omega) (by omega) (by omega)]; exact u5.imp id (fun ⟨i, i1, i2⟩ => ⟨i, by omega, i2⟩)⟩, ⟨by rw [r25, A25 4 (by decide), V 203 (by omega) (by omega) (by omega) (by omega)]; exact u6, by rw [V 203 (by omega) (by omega) (by omega) (by omega)]; exact u7⟩, ⟨by rw [r25, A25 5 (by decide), V 204 (by omega) (by omega) (by omega) (by omega)]; exact u8, by rw [V 204 (by omega) (by omega) (by omega) (by omega)]; exact u8'⟩, fun i hi => ?_⟩
    by_cases z : i = cnt'
    · subst z
      rw [R26n]
      exact ⟨L, newL⟩
    · obtain ⟨ll, hll⟩ := u9 i (by omega)
      rw [R26 i z]
      obtain ⟨sA, aA, eA, ln, T, D, V', q1, q2, q3⟩ := LWk_c (v' := mi 424) (g' := g2) hll (by omega) (fun _ _ _ => rfl) L' eg hg
      exact ⟨ll, sA, aA, eA, ln, T, D, V', q1, LWr_y q2 (V _ (by omega) (by omega) (by omega) (by omega)) (fun k hk => ⟨V _ (by omega) (by omega) (by omega) (by omega), V _ (by omega) (by omega) (by omega) (by omega)⟩), q3⟩
  have IMs : ∀ j I w cu r la, ImP j I w cu r la → IM (3000 * (c + 1)) g2 (rG B) j I w cu r la := by
    intro j I w cu r la hP
    have hPo := hP
    unfold ImP at hPo
    exact IM_x (IM_of hI hP) (by omega) (by rw [G 426 (by omega)]) (G I (by omega)) (fun k hk => by rw [G 425 (by omega)]) (fun a x1 x2 => G a (by omega)) (G cu (by omega)) (G (cu + 1) (by omega)) (G (cu + 2) (by omega)) (G r (by omega)) (fun i hi => by rw [R2 la (by omega), (d2 la (by omega)).1.2.2]) L' eg hg
  refine ⟨⟨hs2, by omega, by omega, by omega, fun la hla i hi => ?_⟩, PW_c hI.2.1 (by omega) (fun k hk => V k (by omega) (by omega) (by omega) (by omega)) (fun a x1 x2 => G a (by omega)) (fun q => WI_c q (fun k hk => V k (by omega) (by omega) (by omega) (by omega))), hRU, CU_c hI.2.2.2.1 (fun k k1 k2 => V k (by omega) (by omega) (by omega) (by omega)) (G 27 (by omega)) (G 28 (by omega)) (G 29 (by omega)), HI_c hI.2.2.2.2.1 (by omega) (G 30 (by omega)) (G 32 (by omega)) (F2 31 (by decide) (by decide)) (G 435 (by omega)) (fun a _ _ => G a (by omega)), ⟨IMs 0 376 377 387 390 391 (Or.inl ⟨rfl, rfl, rfl, rfl, rfl, rfl⟩), IMs 1 392 393 403 406 407 (Or.inr ⟨rfl, rfl, rfl, rfl, rfl, rfl⟩)⟩, TA_0 hI.2.2.2.2.2.2.1 (by rw [FB 408 (by decide) (by decide) (by decide) (by decide) (by decide)]; exact A408) (by rw [rG_2 (by decide), hB, zu_a (by decide), zrw_a (by decide)]; exact r8) (G 428 (by omega)), ?_, ?_, SCc_c hI.2.2.2.2.2.2.2.2.2 (G 420 (by omega)) (F2 41 (by decide) (by decide)) (G 439 (by omega))⟩
  · by_cases z : la = 26 ∧ i = cnt'
    · obtain ⟨rfl, rfl⟩ := z
      rw [R26n]
      exact Or.inr ⟨by rw [f2.1]; exact d4.1, by omega, by omega⟩
    · have e : g2.2.2.1 la i = g.2.2.1 la i := by
        by_cases y : la = 26
        · subst y
          exact R26 i (fun q => z ⟨rfl, q⟩)
        · rw [R2 la y, (d2 la (by omega)).1.2.2]
      rw [e]
      rcases hLR la hla i hi with q | ⟨q1, q2, q3⟩
      · exact Or.inl q
      · refine Or.inr ⟨?_, q2, by omega⟩
        rw [f2.1, (d2 _ (by omega)).1.1]; exact q1
  · refine SCa_G hI.2.2.2.2.2.2.2.1 ?_ ?_ ?_
    · rw [hB, zu_a (by decide), zrw_a (by decide), r4.1 1 (by decide) (by decide) (by decide) (by decide)]; exact A19
    · rw [hB, zu_a (by decide), zrw_a (by decide), r4.1 419 (by decide) (by decide) (by decide) (by decide), FA 419 (by decide) (by decide) (by decide) (by omega) (by decide)]
    · rw [hB, zu_a (by decide), zrw_a (by decide), r4.1 423 (by decide) (by decide) (by decide) (by decide), FA 423 (by decide) (by decide) (by decide) (by omega) (by decide)]
  · have h9 := hI.2.2.2.2.2.2.2.2.1
    have e14 : rG B 422 14 = m1 := by rw [rG_2 (by decide), hB, zu_a (by decide), zrw_a (by decide)]; exact r9
    unfold SCb at h9 ⊢
    rw [FB 1 (by decide) (by decide) (by decide) (by decide) (by decide), A1 14 (by decide) (by decide), A15, A1 16 (by decide) (by decide), F2 6 (by decide) (by decide), e14, F2 33 (by decide) (by decide)]
    exact ⟨h9.1, rfl, h9.2.2⟩
theorem cl_law (hn : 6000 < n) : CALL (f_X11_law n 1) (f_X12_law n 422) := by
  intro c g mi ml hc hI
  obtain ⟨cnt, ⟨u1, u2, u3⟩, -⟩ := hI.2.2.1
  obtain ⟨b, len, t1, t2, t3⟩ := hI.2.2.2.2.2.2.1
  by_cases q : cnt = 6
  · subst q
    obtain ⟨mi', mi'', h1, h2, h3⟩ := cl_law5 (ml := ml) (n := n) hI u2 u3
    exact ⟨_, g, mi', ml, mi'', ml, h1, h2, h3⟩
  · cases he : pRd false (tD len (pTk b len 401 0)) (tV b len (pTk b len 401 0)) (pTk b len 401 0).length 12 0 0 0 with
    | error e =>
      obtain ⟨mi', mi'', h1, h2, h3⟩ := cl_law6 (ml := ml) hn hI (by omega) u2 u3 t1 t2 t3 rfl he
      exact ⟨_, g, mi', ml, mi'', ml, h1, h2, h3⟩
    | ok r =>
      obtain ⟨L, cd⟩ := r
      obtain ⟨g', mi', ml', mi'', h1, h2, h3⟩ := cl_lawG (ml := ml) hn hI (by omega) u2 u3 t1 t2 t3 rfl he
      exact ⟨_, g', mi', ml', mi'', ml', h1, h2, h3⟩
end
