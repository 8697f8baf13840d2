/-! calls that change: forget, seen, force, terms -/
theorem IV_row {c : Nat} {g : zS} {mi mi' : Nat → Nat → Int32} (h : IV c g mi) (F : ∀ a, a ≠ 1 → a ≠ 2 → a ≠ 25 → a ≠ 27 → a ≠ 28 → a ≠ 29 → a ≠ 30 → a ≠ 419 → a ≠ 422 → a ≠ 423 → a ≠ 424 → mi' a = mi a) (F1 : ∀ k, k ≠ 19 → mi' 1 k = mi 1 k) (F2 : ∀ k, k ≠ 0 → k ≠ 31 → mi' 422 k = mi 422 k) (hW : PW (3000 * (c + 1)) mi' 2 (mi' 424)) (hR : RU g mi' 25 26 (mi' 424)) (hC : CU mi' 27 28 29 (mi' 424)) (hH : HI (3000 * (c + 1)) mi') (hS : SCa mi') : IV (c + 1) g mi' := by
  obtain ⟨h1, h2, h3, h4, h5, ⟨h6, h6'⟩, h7, h8, h9, h10⟩ := h
  have G : ∀ a, (30 < a ∧ a < 419) ∨ (419 < a ∧ a < 422) ∨ 424 < a → mi' a = mi a := fun a ha => F a (by omega) (by omega) (by omega) (by omega) (by omega) (by omega) (by omega) (by omega) (by omega) (by omega) (by omega)
  have L : ∀ a, 439 < a → a ≤ g.2.2.2.1 → mi' a = mi a := fun a q _ => G a (by omega)
  refine ⟨RM_w h1, hW, hR, hC, hH, ⟨IM_e h6 (by omega) (G 426 (by decide)) (G 376 (by decide)) (G 425 (by decide)) (fun a _ _ => G a (by omega)) (G 387 (by decide)) (G 388 (by decide)) (G 389 (by decide)) (G 390 (by decide)) L, IM_e h6' (by omega) (G 426 (by decide)) (G 392 (by decide)) (G 425 (by decide)) (fun a _ _ => G a (by omega)) (G 403 (by decide)) (G 404 (by decide)) (G 405 (by decide)) (G 406 (by decide)) L⟩, TA_c h7 (G 408 (by decide)) (G 409 (by decide)) (F2 13 (by decide) (by decide)) (G 428 (by decide)) (G 429 (by decide)), hS, ?_, SCc_c h10 (G 420 (by decide)) (F2 41 (by decide) (by decide)) (G 439 (by decide))⟩
  unfold SCb at h9 ⊢
  rw [F1 14 (by decide), F1 15 (by decide), F1 16 (by decide), F2 6 (by decide) (by decide), F2 14 (by decide) (by decide), F2 33 (by decide) (by decide)]; exact h9
theorem RU_d {g : zS} {mi mi' : Nat → Nat → Int32} {a la : Nat} {v v' : Nat → Int32} (h : RU g mi a la v) (e : ∀ k, 203 ≤ k → k ≠ 205 → k ≠ 214 → v' k = v k) (ea : mi' a = mi a) (em : ∀ a, 439 < a → a ≤ g.2.2.2.1 → mi' a = mi a) : RU g mi' a la v' := by
  have h' := RU_c (v' := upd v' 205 (v 205)) h (fun k h1 h2 => by
    by_cases q : k = 205
    · rw [q, upd_eq]
    · rw [upd_ne q]; exact e k h1 q h2) ea em
  obtain ⟨cnt, ⟨h1, h2, h3⟩, ⟨h4, h5⟩, ⟨h6, h7⟩, ⟨h8, h8'⟩, h9⟩ := h'
  rw [upd_ne (by decide)] at h3 h4 h5 h6 h7 h8 h8'
  refine ⟨cnt, ⟨h1, h2, h3⟩, ⟨h4, h5⟩, ⟨h6, h7⟩, ⟨h8, h8'⟩, fun i hi => ?_⟩
  obtain ⟨l, hl⟩ := h9 i hi
  exact ⟨l, LWk_c hl (by omega) (fun k h1 _ => (upd_ne (by omega)).symm) (fun _ _ _ => rfl) (fun _ _ _ => ⟨rfl, rfl, rfl⟩) (Nat.le_refl _)⟩
section
variable {B B' c : Nat} {g : zS} {mi mi' : Nat → Nat → Int32} {r : Int32}
theorem tF_a {a : Nat} (h1 : a ≠ 1) (h2 : a ≠ 419) : tF r mi a = mi a := by unfold tF; rw [zu_a h2, zu_a h1]
theorem tF_1 {k : Nat} (h : k ≠ 19) : tF r mi 1 k = mi 1 k := by unfold tF; rw [zu_a (by decide), zu_k h]
theorem rF_a {a : Nat} (h1 : a ≠ 422) (h2 : a ≠ 423) : rF r mi a = mi a := by unfold rF; rw [zu_a h2, zu_a h1]
theorem rF_2 {k : Nat} (h : k ≠ 0) : rF r mi 422 k = mi 422 k := by unfold rF; rw [zu_a (by decide), zu_k h]
theorem tG_a {a : Nat} (h1 : a ≠ 1) : tG mi a = mi a := zu_a h1
theorem tG_1 {k : Nat} (h : k ≠ 19) : tG mi 1 k = mi 1 k := zu_k h
theorem rG_a {a : Nat} (h1 : a ≠ 422) : rG mi a = mi a := zu_a h1
theorem rG_2 {k : Nat} (h : k ≠ 0) : rG mi 422 k = mi 422 k := zu_k h
/-- a call is refused -/
theorem IV_F (h : IV c g mi) (hr : isF r) : IV (c + 1) g (rF r (tF r mi)) := by
  have F : ∀ a, a ≠ 1 → a ≠ 419 → a ≠ 422 → a ≠ 423 → rF r (tF r mi) a = mi a := fun a h1 h2 h3 h4 => by rw [rF_a h3 h4, tF_a h1 h2]
  have e424 : rF r (tF r mi) 424 = mi 424 := F 424 (by decide) (by decide) (by decide) (by decide)
  have L : ∀ a, 439 < a → a ≤ g.2.2.2.1 → rF r (tF r mi) a = mi a := fun a q _ => F a (by omega) (by omega) (by omega) (by omega)
  refine IV_row h (fun a h1 _ _ _ _ _ _ h2 h3 h4 _ => F a h1 h2 h3 h4) (fun k hk => by rw [rF_a (by decide) (by decide), tF_1 hk]) (fun k hk _ => by rw [rF_2 hk, tF_a (by decide) (by decide)]) ?_ ?_ ?_ ?_ ?_
  · rw [e424]; exact PW_e h.2.1 (by omega) (fun a _ _ => F a (by omega) (by omega) (by omega) (by omega))
  · rw [e424]; exact RU_c h.2.2.1 (fun _ _ _ => rfl) (F 25 (by decide) (by decide) (by decide) (by decide)) L
  · rw [e424]; exact CU_c h.2.2.2.1 (fun _ _ _ => rfl) (F 27 (by decide) (by decide) (by decide) (by decide)) (F 28 (by decide) (by decide) (by decide) (by decide)) (F 29 (by decide) (by decide) (by decide) (by decide))
  · exact HI_c h.2.2.2.2.1 (by omega) (F 30 (by decide) (by decide) (by decide) (by decide)) (F 32 (by decide) (by decide) (by decide) (by decide)) (by rw [rF_2 (by decide), tF_a (by decide) (by decide)]) (F 435 (by decide) (by decide) (by decide) (by decide)) (fun a _ _ => F a (by omega) (by omega) (by omega) (by omega))
  · exact SCa_F h.2.2.2.2.2.2.2.1 hr rfl rfl (tF_a (by decide) (by decide))
theorem F_call {ml : Nat → Nat → Int64} {X Y : zH → Option (Int32 × zH)} (hI : IV c g mi) (hr : isF r) (hX : X (g, mi, ml) = some (r, (g, tF r mi, ml))) (hY : Y (g, tF r mi, ml) = some (r, (g, rF r (tF r mi), ml))) : ∃ r g' mi' ml' mi'' ml'', X (g, mi, ml) = some (r, (g', mi', ml')) ∧ Y (g', mi', ml') = some (r, (g', mi'', ml'')) ∧ IV (c + 1) g' mi'' := ⟨r, g, _, ml, _, ml, hX, hY, IV_F hI hr⟩
theorem isF1 : isF m1 := Or.inl rfl
theorem isF2 : isF m2 := Or.inr (Or.inl rfl)
theorem isF3 : isF m3 := Or.inr (Or.inr (Or.inl rfl))
theorem isF5 : isF m5 := Or.inr (Or.inr (Or.inr (Or.inl rfl)))
theorem isF6 : isF m6 := Or.inr (Or.inr (Or.inr (Or.inr rfl)))
end
section
variable {g : zS} {mi : Nat → Nat → Int32} {ml : Nat → Nat → Int64} {n : Nat}
theorem cl_forget : CALL (f_X11_forget n 1) (f_X12_forget n 422) := by
  intro c g mi ml hc hI
  have hs := hI.1.1
  obtain ⟨m, c1, c2, c3, c4⟩ := hI.2.2.2.1
  refine ⟨nI m, g, zu mi 27 2 (nI 0), ml, zu (zu mi 27 2 (nI 0)) 424 205 (nI 0), ml, ?_, ?_, ?_⟩
  · unfold f_X11_forget
    simp only [li]
    rw [S_gR1_4 hs, S_gI27 hs, S_gR1_4 hs, S_pI27 hs, c2]
  · unfold f_X12_forget
    simp only [li]
    rw [S_gR422_2 hs, S_aI424 hs (by decide), S_gR422_2 hs, S_eI424 hs (by decide), zu_a (by decide), c3]
  · have F : ∀ a, a ≠ 27 → a ≠ 424 → zu (zu mi 27 2 (nI 0)) 424 205 (nI 0) a = mi a := fun a h1 h2 => by rw [zu_a h2, zu_a h1]
    have V : ∀ k, k ≠ 205 → zu (zu mi 27 2 (nI 0)) 424 205 (nI 0) 424 k = mi 424 k := fun k hk => by rw [zu_k hk, zu_a (by decide)]
    have L : ∀ a, 439 < a → a ≤ g.2.2.2.1 → zu (zu mi 27 2 (nI 0)) 424 205 (nI 0) a = mi a := fun a q _ => F a (by omega) (by omega)
    refine IV_row hI (fun a _ _ _ h1 _ _ _ _ _ _ h2 => F a h1 h2) (fun k _ => by rw [F 1 (by decide) (by decide)]) (fun k _ _ => by rw [F 422 (by decide) (by decide)]) ?_ ?_ ?_ ?_ ?_
    · exact PW_c hI.2.1 (by omega) (fun k hk => V k (by omega)) (fun a _ _ => F a (by omega) (by omega)) (fun q => WI_c q (fun k hk => V k (by omega)))
    · exact RU_d hI.2.2.1 (fun k _ h2 _ => V k h2) (F 25 (by decide) (by decide)) L
    · exact ⟨0, by decide, by rw [zu_a (by decide), zu_s], zu_s _ _ _ _, fun k hk => absurd hk (by omega)⟩
    · exact HI_c hI.2.2.2.2.1 (by omega) (F 30 (by decide) (by decide)) (F 32 (by decide) (by decide)) (by rw [F 422 (by decide) (by decide)]) (F 435 (by decide) (by decide)) (fun a _ _ => F a (by omega) (by omega))
    · exact SCa_c hI.2.2.2.2.2.2.2.1 (by rw [F 1 (by decide) (by decide)]) (F 419 (by decide) (by decide)) (by rw [F 422 (by decide) (by decide)]) (F 423 (by decide) (by decide))
theorem c_le {a : Int32} {N : Nat} (hN : N + 1 < 2147483648) (h : nI (N + 1) ≤ a) : ¬ a ≤ nI N := fun q => by
  rw [Int32.le_iff_toInt_le, nI_toInt (by omega)] at q h
  omega
theorem cl_seen (a b : Int32) : CALL (f_X11_seen n 1 a b) (f_X12_seen n 422 a b) := by
  intro c g mi ml hc hI
  have hs := hI.1.1
  obtain ⟨m, c1, c2, c3, c4⟩ := hI.2.2.2.1
  have e19 : fb_X11_seen_19 n 1 (g, mi, ml) = some (m1, (g, tF m1 mi, ml)) := by
    unfold fb_X11_seen_19
    simp only [li, ng1]
    rw [S_ck1 hs, told_F hs isF1, zb_s]
  have y19 : ∀ mi, fb_X12_seen_19 n 422 (g, mi, ml) = some (m1, (g, rF m1 mi, ml)) := by
    intro mi
    unfold fb_X12_seen_19
    simp only [li, ng1]
    rw [S_ck422 hs, ref_F hs isF1, zb_s]
  have uX : f_X11_seen n 1 a b (g, mi, ml) = if a < nI 0 then some (m1, (g, tF m1 mi, ml)) else if nI 3 ≤ a then some (m1, (g, tF m1 mi, ml)) else if b < nI 0 then some (m1, (g, tF m1 mi, ml)) else if b ≤ nI 100 then (zb (f_X1_note n 27 a b (g, mi, ml)) fun r2 h3 => zck h3 12 1 (zb (f_X11_told n 1 r2 h3) fun r4 h5 => some (r4, h5))) else some (m1, (g, tF m1 mi, ml)) := by
    unfold f_X11_seen
    simp only [li]
    rw [e19, S_gR1_4 hs, S_ck27 hs]
  rcases pk_ix a (n := 3) (by decide) with ha | ha | ⟨fa, hfa, ha⟩
  · refine F_call hI isF1 (by rw [uX, iP (show a < nI 0 from ha)]) ?_
    unfold f_X12_seen
    simp only [li]
    rw [r_lies0 ha, zb_s, iP rfl, y19]
  · refine F_call hI isF1 (by rw [uX, iN (ge_lt (N := 2) (by decide) ha).2.1, iP ha]) ?_
    unfold f_X12_seen
    simp only [li]
    rw [r_lies1 (N := 2) (by decide) ha, zb_s, iP rfl, y19]
  subst ha
  rw [iN (show ¬ nI fa < nI 0 by rw [nLt (by omega) (by omega)]; omega), iLe0 (by omega) (by omega) (by omega)] at uX
  rcases pk_ix b (n := 101) (by decide) with hb | hb | ⟨fb, hfb, hb⟩
  · refine F_call hI isF1 (by rw [uX, iP (show b < nI 0 from hb)]) ?_
    unfold f_X12_seen
    simp only [li]
    rw [r_lies2 (by decide) (by omega), zb_s, iN n01.symm, r_lies0 hb, zb_s, iP rfl, y19]
  · refine F_call hI isF1 (by rw [uX, iN (ge_lt (N := 100) (by decide) hb).2.1, iN (c_le (by decide) hb)]) ?_
    unfold f_X12_seen
    simp only [li]
    rw [r_lies2 (by decide) (by omega), zb_s, iN n01.symm, r_lies1 (N := 100) (by decide) hb, zb_s, iP rfl, y19]
  subst hb
  rw [iN (show ¬ nI fb < nI 0 by rw [nLt (by omega) (by omega)]; omega), iLe1 (by omega) (by omega) (by omega)] at uX
  by_cases q : m = 6
  · subst q
    refine F_call hI isF5 ?_ ?_
    · rw [uX]
      unfold f_X1_note
      simp only [li, ng5]
      rw [S_gI27 hs, c2, iLt0 (by omega) (by omega) (by omega), zb_s, S_ck1 hs, told_F hs isF5, zb_s]
    · unfold f_X12_seen
      simp only [li, ng5]
      have e5 : tF m5 mi 424 205 = nI 6 := by rw [tF_a (by decide) (by decide)]; exact c3
      rw [r_lies2 (by decide) (by omega), zb_s, iN n01.symm, r_lies2 (by decide) (by omega), zb_s, iN n01.symm, S_gR422_2 hs, S_aI424 hs (by decide), e5, q_let, S_gR422_2 hs, S_aI424 hs (by decide), e5, iP rfl, S_ck422 hs, ref_F hs isF5, zb_s]
  · have hX : f_X11_seen n 1 (nI fa) (nI fb) (g, mi, ml) = some (nI (m + 1), (g, tG (zu (zu (zu mi 28 m (nI fa)) 29 m (nI fb)) 27 2 (nI (m + 1))), ml)) := by
      rw [uX]
      unfold f_X1_note
      simp only [li]
      rw [S_gI27 hs, c2, iLt1 (by omega) (by omega) (by omega), S_gR27_0 hs, S_gI27 hs, c2, S_eI28 hs (by omega), S_gR27_1 hs, S_gI27 hs, zu_a (by decide), c2, S_eI29 hs (by omega), S_gI27 hs, zu_a (by decide), zu_a (by decide), c2, S_pI27 hs, S_gI27 hs, nI_add, zu_s, zb_s, S_ck1 hs, told_G hs ⟨m + 1, by omega, rfl⟩, zb_s]
    generalize hM : tG (zu (zu (zu mi 28 m (nI fa)) 29 m (nI fb)) 27 2 (nI (m + 1))) = M at hX
    have FM' : ∀ a, a ≠ 1 → a ≠ 27 → a ≠ 28 → a ≠ 29 → M a = mi a := fun a h1 h2 h3 h4 => by rw [← hM, tG_a h1, zu_a h2, zu_a h4, zu_a h3]
    have e4 : M 424 = mi 424 := FM' 424 (by decide) (by decide) (by decide) (by decide)
    have hY : f_X12_seen n 422 (nI fa) (nI fb) (g, M, ml) = some (nI (m + 1), (g, rG (zu (zu (zu M 424 (191 + 2 * m) (nI fa)) 424 (191 + 2 * m + 1) (nI fb)) 424 205 (nI (m + 1))), ml)) := by
      have k1 : M 424 205 = nI m := by rw [e4]; exact c3
      unfold f_X12_seen
      simp only [li]
      rw [r_lies2 (by decide) (by omega), zb_s, iN n01.symm, r_lies2 (by decide) (by omega), zb_s, iN n01.symm, S_gR422_2 hs, S_aI424 hs (by decide), k1, q_let, S_gR422_2 hs, S_aI424 hs (by decide), k1, iEq0 (by omega) (by omega) q, pk_mul, nI_add, S_gR422_2 hs, S_eI424 hs (by omega), S_gR422_2 hs, nI_add, S_eI424 hs (by omega), S_gR422_2 hs, S_aI424 hs (by decide), zu_k (by omega), zu_k (by omega), k1, nI_add, S_eI424 hs (by decide), S_gR422_2 hs, S_aI424 hs (by decide), zu_s, S_ck422 hs, good_e hs, zb_s]
    refine ⟨_, g, M, ml, _, ml, hX, hY, ?_⟩
    have F : ∀ a, a ≠ 1 → a ≠ 27 → a ≠ 28 → a ≠ 29 → a ≠ 422 → a ≠ 424 → rG (zu (zu (zu M 424 (191 + 2 * m) (nI fa)) 424 (191 + 2 * m + 1) (nI fb)) 424 205 (nI (m + 1))) a = mi a := fun a h1 h2 h3 h4 h5 h6 => by rw [rG_a h5, zu_a h6, zu_a h6, zu_a h6, FM' a h1 h2 h3 h4]
    have V : ∀ k, k ≠ 205 → k ≠ 191 + 2 * m → k ≠ 191 + 2 * m + 1 → rG (zu (zu (zu M 424 (191 + 2 * m) (nI fa)) 424 (191 + 2 * m + 1) (nI fb)) 424 205 (nI (m + 1))) 424 k = mi 424 k := fun k h1 h2 h3 => by rw [rG_a (by decide), zu_k h1, zu_k h3, zu_k h2, e4]
    have L : ∀ a, 439 < a → a ≤ g.2.2.2.1 → rG (zu (zu (zu M 424 (191 + 2 * m) (nI fa)) 424 (191 + 2 * m + 1) (nI fb)) 424 205 (nI (m + 1))) a = mi a := fun a q _ => F a (by omega) (by omega) (by omega) (by omega) (by omega) (by omega)
    have e27 : rG (zu (zu (zu M 424 (191 + 2 * m) (nI fa)) 424 (191 + 2 * m + 1) (nI fb)) 424 205 (nI (m + 1))) 27 2 = nI (m + 1) := by rw [rG_a (by decide), zu_a (by decide), zu_a (by decide), zu_a (by decide), ← hM, tG_a (by decide), zu_s]
    have e28 : ∀ k, rG (zu (zu (zu M 424 (191 + 2 * m) (nI fa)) 424 (191 + 2 * m + 1) (nI fb)) 424 205 (nI (m + 1))) 28 k = if k = m then nI fa else mi 28 k := fun k => by
      rw [rG_a (by decide), zu_a (by decide), zu_a (by decide), zu_a (by decide), ← hM, tG_a (by decide), zu_a (by decide), zu_a (by decide)]
      by_cases z : k = m
      · rw [z, zu_s, if_pos rfl]
      · rw [zu_k z, if_neg z]
    have e29 : ∀ k, rG (zu (zu (zu M 424 (191 + 2 * m) (nI fa)) 424 (191 + 2 * m + 1) (nI fb)) 424 205 (nI (m + 1))) 29 k = if k = m then nI fb else mi 29 k := fun k => by
      rw [rG_a (by decide), zu_a (by decide), zu_a (by decide), zu_a (by decide), ← hM, tG_a (by decide), zu_a (by decide)]
      by_cases z : k = m
      · rw [z, zu_s, if_pos rfl]
      · rw [zu_k z, if_neg z, zu_a (by decide)]
    refine IV_row hI (fun a h1 _ _ h2 h3 h4 _ _ h5 _ h6 => F a h1 h2 h3 h4 h5 h6) (fun k hk => ?_) (fun k hk _ => ?_) ?_ ?_ ?_ ?_ ?_
    · rw [rG_a (by decide), zu_a (by decide), zu_a (by decide), zu_a (by decide), ← hM, tG_1 hk, zu_a (by decide), zu_a (by decide), zu_a (by decide)]
    · rw [rG_2 hk, zu_a (by decide), zu_a (by decide), zu_a (by decide), FM' 422 (by decide) (by decide) (by decide) (by decide)]
    · exact PW_c hI.2.1 (by omega) (fun k hk => V k (by omega) (by omega) (by omega)) (fun a _ _ => F a (by omega) (by omega) (by omega) (by omega) (by omega) (by omega)) (fun q => WI_c q (fun k hk => V k (by omega) (by omega) (by omega)))
    · exact RU_d hI.2.2.1 (fun k _ h2 _ => V k h2 (by omega) (by omega)) (F 25 (by decide) (by decide) (by decide) (by decide) (by decide) (by decide)) L
    · refine ⟨m + 1, by omega, e27, by rw [rG_a (by decide), zu_s], fun k hk => ?_⟩
      rw [e28, e29]
      by_cases z : k = m
      · subst z
        rw [if_pos rfl, if_pos rfl]
        refine ⟨?_, ?_⟩
        · rw [rG_a (by decide), zu_k (by omega), zu_k (by omega), zu_s]
        · have : 192 + 2 * k = 191 + 2 * k + 1 := by omega
          rw [this, rG_a (by decide), zu_k (by omega), zu_s]
      · rw [if_neg z, if_neg z, V _ (by omega) (by omega) (by omega), V _ (by omega) (by omega) (by omega)]
        exact c4 k (by omega)
    · exact HI_c hI.2.2.2.2.1 (by omega) (F 30 (by decide) (by decide) (by decide) (by decide) (by decide) (by decide)) (F 32 (by decide) (by decide) (by decide) (by decide) (by decide) (by decide)) (by rw [rG_2 (by decide), zu_a (by decide), zu_a (by decide), zu_a (by decide), FM' 422 (by decide) (by decide) (by decide) (by decide)]) (F 435 (by decide) (by decide) (by decide) (by decide) (by decide) (by decide)) (fun a _ _ => F a (by omega) (by omega) (by omega) (by omega) (by omega) (by omega))
    · refine SCa_G hI.2.2.2.2.2.2.2.1 ?_ ?_ ?_
      · rw [zu_a (by decide), zu_a (by decide), zu_a (by decide), ← hM]; exact zu_s _ _ _ _
      · rw [zu_a (by decide), zu_a (by decide), zu_a (by decide), FM' 419 (by decide) (by decide) (by decide) (by decide)]
      · rw [zu_a (by decide), zu_a (by decide), zu_a (by decide), FM' 423 (by decide) (by decide) (by decide) (by decide)]
end
