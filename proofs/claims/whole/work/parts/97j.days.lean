/-! days, the call -/
section
variable {n : Nat}
theorem cl_days (hn : 6000 < n) (a b : Int32) : CALL (f_X11_days n 1 a b) (f_X12_days n 422 a b) := by
  intro c g mi ml hc hI
  have hs := hI.1.1
  obtain ⟨hR, hWI, e, he1, he2⟩ := hI.2.1
  have x22 : fb_X11_days_22 n 1 (g, mi, ml) = some (m1, (g, tF m1 mi, ml)) := by
    unfold fb_X11_days_22
    simp only [li, ng1]
    rw [S_ck1 hs, told_F hs isF1, zb_s]
  have y20 : fb_X12_days_20 n 422 (g, tF m1 mi, ml) = some (m1, (g, rF m1 (tF m1 mi), ml)) := by
    unfold fb_X12_days_20
    simp only [li, ng1]
    rw [S_ck422 hs, ref_F hs isF1, zb_s]
  rcases pk_ix a (n := 1000001) (by decide) with ha | ha | ⟨s, hsd, ha⟩
  · refine F_call hI isF1 ?_ ?_
    · unfold f_X11_days
      simp only [li]
      rw [iP (show a < nI 0 from ha), x22]
    · unfold f_X12_days
      simp only [li]
      rw [r_lies0 ha, zb_s, iP rfl, y20]
  · refine F_call hI isF1 ?_ ?_
    · unfold f_X11_days
      simp only [li]
      rw [iN (ge_lt (N := 1000000) (by decide) ha).2.1, iP (ge_lt (N := 1000000) (by decide) ha).1, x22]
    · unfold f_X12_days
      simp only [li]
      rw [r_lies1 (N := 1000000) (by decide) ha, zb_s, iP rfl, y20]
  subst ha
  have hbad : ∀ (hb : b < nI 1 ∨ nI 60 < b), ∃ r g' mi' ml' mi'' ml'', f_X11_days n 1 (nI s) b (g, mi, ml) = some (r, (g', mi', ml')) ∧ f_X12_days n 422 (nI s) b (g', mi', ml') = some (r, (g', mi'', ml'')) ∧ IV (c + 1) g' mi'' := by
    intro hb
    have hb2 : ¬ b < nI 1 → ¬ b ≤ nI 60 := fun q z => by
      rcases hb with hb | hb
      · exact q hb
      · rw [Int32.le_iff_toInt_le] at z
        rw [Int32.lt_iff_toInt_lt] at hb
        omega
    refine F_call hI isF1 ?_ ?_
    · unfold f_X11_days
      simp only [li]
      rw [iLt0 (by omega) (by omega) (by omega), iLt0 (by omega) (by omega) (by omega)]
      by_cases q : b < nI 1
      · rw [iP q, x22]
      · rw [iN q, iN (hb2 q), x22]
    · have el : f_X12_lies n b (nI 1) (nI 60) (g, tF m1 mi, ml) = some (nI 0, (g, tF m1 mi, ml)) := by
        unfold f_X12_lies
        simp only [li]
        by_cases q : b < nI 1
        · rw [iP q]
        · rw [iN q, iP (hb.resolve_left q)]
      unfold f_X12_days
      simp only [li]
      rw [r_lies2 (by decide) (by omega), zb_s, iN n01.symm, el, zb_s, iP rfl, y20]
  rcases pk_ix b (n := 61) (by decide) with hb | hb | ⟨N, hN, hb⟩
  · exact hbad (Or.inl (lt_neg (by decide) hb))
  · exact hbad (Or.inr (ge_lt (N := 60) (by decide) hb).1)
  subst hb
  by_cases q0 : N = 0
  · subst q0
    exact hbad (Or.inl (by decide))
  obtain ⟨mi1, c1, c2, c3⟩ := c_copy (u := 12) (w := 2) (ml := ml) (n := n) hs w12c w2c (by omega) hR (WI_r hWI)
  have hU1 : RU g mi1 25 26 (mi 424) := RU_c hI.2.2.1 (fun _ _ _ => rfl) (c3 25 (by omega)) (fun a h1 _ => c3 a (by omega))
  obtain ⟨KO, BO, o1, o2⟩ := orac (n := n) (w := 12) hs (by omega) w12c (Or.inr rfl) hU1
  obtain ⟨v', p1, p2, p3, p4, p5⟩ := day_l (R := nI e) hs (by omega) o1 o2 (N := N) (by omega) N 0 n (mi 424) s (by omega) (by omega) (by omega) (fun _ _ => rfl) hWI
  obtain ⟨j, hj, hE⟩ := p3 e he2
  obtain ⟨mi2, ml2, d1, d2, d3⟩ := p5 mi1 ml (fun _ _ _ => rfl) c2
  obtain ⟨mi3, hm3⟩ : ∃ m, m = zrw mi2 420 (va_cpy (mi2 14) (mi2 420) 0 0 24) := ⟨_, rfl⟩
  have hR3 : WR mi3 12 v' := WR_cong d2 (fun a a1 a2 => by rw [hm3, zrw_a (by omega)])
  obtain ⟨A, hA⟩ : ∃ A, A = tG mi3 := ⟨_, rfl⟩
  have hX : f_X11_days n 1 (nI s) (nI N) (g, mi, ml) = some (nI j, (g, A, ml2)) := by
    unfold f_X11_days
    simp only [li]
    rw [iLt0 (by omega) (by omega) (by omega), iLt0 (by omega) (by omega) (by omega), iLt0 (by omega) (by omega) (by omega), iLe1 (by omega) (by omega) (by omega), S_gR1_1 hs, S_gR1_0 hs, W_ck hs w12c, c1, zb_s, S_gR1_1 hs, W_ck hs w12c, c_ended hs w12c c2 he2, zb_s]
    refine d1.trans ?_
    unfold fb_X11_days_175
    simp only [li]
    have ecp : ∀ {ρ : Type} (K : zH → Option ρ), zcp ((g, mi2, ml2) : zH) 14 (nI 0) 420 (nI 0) (nI 24) K = K (g, mi3, ml2) := fun K => by
      rw [hm3]
      exact q_cp (N := 24) (M := 24) (Sy_w (q := (0, 12 + 2, 0, 21)) hs w12c (by simp [zWl])) (Sy_f hs (0, 420, 0, 21) rfl) (Sy_w (q := (1, 12 + 2, 0, 24)) hs w12c (by simp [zWl])) (Sy_f hs (1, 420, 0, 24) rfl) (by decide) (by decide) (by decide) (by decide)
    have g0 : ∀ {ρ : Type} (K : Nat → Option ρ), zgR ((g, mi2, ml2) : zH) 11 12 0 K = K 13 := fun K => W_gR0 (w := 12) hs w12c
    have g1 : ∀ {ρ : Type} (K : Nat → Option ρ), zgR ((g, mi2, ml2) : zH) 1 13 0 K = K 14 := fun K => C_gR0 (w := 12) hs w12c
    rw [S_gR1_1 hs, g0, g1, S_gR1_12 hs, ecp, S_gR1_1 hs, W_ck hs w12c, c_ended hs w12c hR3 hE, zb_s, S_ck1 hs, nI_sub (by omega), Nat.add_sub_cancel_left, told_G hs ⟨j, by omega, rfl⟩, zb_s, hA]
  have FA : ∀ a, a ≠ 1 → a ≠ 23 → a ≠ 420 → (a < 12 ∨ 22 ≤ a) → A a = mi a := fun a a1 a2 a3 a4 => by rw [hA, tG_a a1, hm3, zrw_a a3, d3 a a2 (by omega), c3 a (by omega)]
  have A1 : ∀ k, k ≠ 19 → A 1 k = mi 1 k := fun k k2 => by rw [hA, tG_1 k2, hm3, zrw_a (by decide), d3 1 (by decide) (by decide), c3 1 (by decide)]
  have A19 : A 1 19 = nI 0 := by rw [hA]; exact zu_s _ _ _ _
  have A420 : ∀ k, k < 24 → A 420 k = v' k := fun k hk => by
    have := rd_kind d2 hk
    rw [hA, tG_a (by decide), hm3, zrw_eq, pk_cpy_in (by omega) (by omega)]
    simpa using this
  obtain ⟨B0, hB0⟩ : ∃ m, m = zu (zu A 422 42 (nI s)) 422 41 (nI 1) := ⟨_, rfl⟩
  obtain ⟨B1, hB1⟩ : ∃ m, m = zrw B0 427 (cpT (B0 427) (B0 424) (191 * 0) 191) := ⟨_, rfl⟩
  have FB : ∀ a, a ≠ 422 → a ≠ 427 → B1 a = A a := fun a a1 a2 => by rw [hB1, zrw_a a2, hB0, zu_a a1, zu_a a1]
  have B4 : B1 424 = mi 424 := by rw [FB 424 (by decide) (by decide), FA 424 (by decide) (by decide) (by decide) (by decide)]
  have B04 : B0 424 = mi 424 := by rw [hB0, zu_a (by decide), zu_a (by decide), FA 424 (by decide) (by decide) (by decide) (by decide)]
  have B7 : ∀ k, k < 191 → B1 427 (191 * 0 + k) = mi 424 k := fun k hk => by rw [hB1, zrw_eq, cpT_in hk, B04]
  have B2 : ∀ k, k ≠ 41 → k ≠ 42 → B1 422 k = mi 422 k := fun k k1 k2 => by rw [hB1, zrw_a (by decide), hB0, zu_k k1, zu_k k2, FA 422 (by decide) (by decide) (by decide) (by decide)]
  have B41 : B1 422 41 = nI 1 := by rw [hB1, zrw_a (by decide), hB0, zu_s]
  have B42 : B1 422 42 = nI s := by rw [hB1, zrw_a (by decide), hB0, zu_k (by decide), zu_s]
  obtain ⟨M', k1, k2⟩ := p4 B1 ml2 B42
  have e424 : zrw B1 424 (mi 424) = B1 := by rw [← B4, u_self]
  rw [e424] at k1
  obtain ⟨C0, hC0⟩ : ∃ m, m = zrw M' 424 v' := ⟨_, rfl⟩
  have C04 : C0 424 = v' := by rw [hC0, zrw_eq]
  obtain ⟨C1, hC1⟩ : ∃ m, m = zrw C0 439 (cpT (C0 439) (C0 424) 0 24) := ⟨_, rfl⟩
  obtain ⟨D, hD⟩ : ∃ m, m = zrw C1 424 (cpT (C1 424) (fun i => C1 427 (191 * 0 + i)) 0 191) := ⟨_, rfl⟩
  have e76 := r_d76 (mi := C0) (ml := ml2) (n := n) hs (x := nI j) 24 0 n rfl (by omega)
  have ez : cpT (C0 439) (C0 424) 0 0 = C0 439 := cpT_0
  rw [ez, u_self, ← hC1] at e76
  have hY : f_X12_days n 422 (nI s) (nI N) (g, A, ml2) = some (nI j, (g, rG D, ml2)) := by
    have el : f_X12_lies n (nI N) (nI 1) (nI 60) (g, A, ml2) = some (nI 1, (g, A, ml2)) := by
      unfold f_X12_lies
      simp only [li]
      rw [iLt0 (by omega) (by omega) (by omega), iLt0 (by omega) (by omega) (by omega)]
    unfold f_X12_days
    simp only [li]
    rw [r_lies2 (by decide) (by omega), zb_s, iN n01.symm, el, zb_s, iN n01.symm, S_pI422 hs, S_pZ422 (x := nI 1) hs (Or.inr rfl), S_ck422 hs, ← hB0, r_laysAside hs hn (by decide), ← hB1, zb_s, S_ck422 hs, r_ended hs B4 he2, zb_s]
    refine k1.trans ?_
    unfold fb_X12_days_65
    simp only [li]
    rw [← hC0, S_ck422 hs, r_ended hs C04 hE, zb_s, nI_sub (by omega), Nat.add_sub_cancel_left, q_let]
    refine e76.trans ?_
    unfold fb_X12_days_105
    simp only [li]
    rw [S_ck422 hs, r_takesBack hs hn (by decide), zb_s, S_ck422 hs, good_e hs, zb_s, hD]
  refine ⟨_, g, A, ml2, _, ml2, hX, hY, ?_⟩
  have FD : ∀ a, a ≠ 422 → a ≠ 424 → a ≠ 427 → a ≠ 434 → a ≠ 439 → rG D a = A a := fun a a1 a2 a3 a4 a5 => by rw [rG_a a1, hD, zrw_a a2, hC1, zrw_a a5, hC0, zrw_a a2, k2.1 a a1 a2 a4, FB a a1 a3]
  have D4 : rG D 424 = mi 424 := by
    rw [rG_a (by decide), hD, zrw_eq]
    funext k
    by_cases q : k < 191
    · have := cpT_in (R := C1 424) (A := fun i => C1 427 (191 * 0 + i)) (o := 0) (t := 191) q
      rw [Nat.zero_add] at this
      rw [this, hC1, zrw_a (by decide), hC0, zrw_a (by decide), k2.1 427 (by decide) (by decide) (by decide)]
      have z := B7 k q
      rw [Nat.mul_zero, Nat.zero_add] at z
      exact z
    · rw [cpT_out (by omega), hC1, zrw_a (by decide), C04, p2 k (by omega)]
  have D439 : ∀ k, k < 24 → rG D 439 k = v' k := fun k hk => by
    have := cpT_in (R := C0 439) (A := C0 424) (o := 0) (t := 24) hk
    rw [Nat.zero_add] at this
    rw [rG_a (by decide), hD, zrw_a (by decide), hC1, zrw_eq, this, C04]
  have DD2 : ∀ k, (k < 22 ∨ 25 < k) → k ≠ 0 → k ≠ 42 → rG D 422 k = B1 422 k := fun k a1 a2 a3 => by rw [rG_2 a2, hD, zrw_a (by decide), hC1, zrw_a (by decide), hC0, zrw_a (by decide), k2.2 k a1 a3]
  have D2 : ∀ k, (k < 22 ∨ 25 < k) → k ≠ 0 → k ≠ 41 → k ≠ 42 → rG D 422 k = mi 422 k := fun k a1 a2 a3 a4 => by rw [DD2 k a1 a2 a4, B2 k a3 a4]
  have G : ∀ a, (1 < a ∧ a < 12) ∨ (23 < a ∧ a < 420) ∨ a = 421 ∨ a = 423 ∨ a = 425 ∨ a = 426 ∨ (427 < a ∧ a < 434) ∨ (434 < a ∧ a < 439) ∨ 439 < a → rG D a = mi a := fun a ha => by rw [FD a (by omega) (by omega) (by omega) (by omega) (by omega), FA a (by omega) (by omega) (by omega) (by omega)]
  refine IV_gen hI (fun a ha => G a (by omega)) (fun k hk => by rw [D4]) ?_ ?_ ?_ ?_ ?_ ?_
  · rw [D4]
    exact PW_e hI.2.1 (by omega) (fun a _ _ => G a (by omega))
  · exact HI_c hI.2.2.2.2.1 (by omega) (G 30 (by decide)) (G 32 (by decide)) (D2 31 (by decide) (by decide) (by decide) (by decide)) (G 435 (by decide)) (fun a _ _ => G a (by omega))
  · exact TA_c hI.2.2.2.2.2.2.1 (G 408 (by decide)) (G 409 (by decide)) (D2 13 (by decide) (by decide) (by decide) (by decide)) (G 428 (by decide)) (G 429 (by decide))
  · refine SCa_G hI.2.2.2.2.2.2.2.1 ?_ ?_ ?_
    · have := FD 1 (by decide) (by decide) (by decide) (by decide) (by decide)
      rw [rG_a (by decide)] at this
      rw [this]; exact A19
    · have := G 419 (by decide)
      rw [rG_a (by decide)] at this
      exact this
    · have := G 423 (by decide)
      rw [rG_a (by decide)] at this
      exact this
  · have h9 := hI.2.2.2.2.2.2.2.2.1
    unfold SCb at h9 ⊢
    rw [FD 1 (by decide) (by decide) (by decide) (by decide) (by decide), A1 14 (by decide), A1 15 (by decide), A1 16 (by decide), D2 6 (by decide) (by decide) (by decide) (by decide), D2 14 (by decide) (by decide) (by decide) (by decide), D2 33 (by decide) (by decide) (by decide) (by decide)]
    exact h9
  · refine Or.inr ⟨by rw [DD2 41 (by decide) (by decide) (by decide)]; exact B41, fun k hk => ?_⟩
    rw [FD 420 (by decide) (by decide) (by decide) (by decide) (by decide), A420 k hk, D439 k hk]
end
