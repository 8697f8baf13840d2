/-! compare, few -/
section
variable {g : zS} {mi : Nat → Nat → Int32} {v : Nat → Int32} {ml : Nat → Nat → Int64} {n : Nat}
/-- which laws there are, on both sides -/
theorem has_law (hs : Sy g) {cnt : Nat} (hc : cnt ≤ 6) (h2 : mi 25 2 = nI cnt) (h6 : v 206 = nI cnt) (a : Int32) : (a = m1 ∧ ∀ mi' ml, mi' 424 = v → f_X12_isLaw n 422 a (g, mi', ml) = some (nI 1, (g, mi', ml))) ∨ (∃ i, i < cnt ∧ a = nI i ∧ (∀ ml, f_X6_hasLaw n 25 a (g, mi, ml) = some (nI 1, (g, mi, ml))) ∧ ∀ mi' ml, mi' 424 = v → f_X12_isLaw n 422 a (g, mi', ml) = some (nI 1, (g, mi', ml))) ∨ (a ≠ m1 ∧ (∀ ml, f_X6_hasLaw n 25 a (g, mi, ml) = some (nI 0, (g, mi, ml))) ∧ ∀ mi' ml, mi' 424 = v → f_X12_isLaw n 422 a (g, mi', ml) = some (nI 0, (g, mi', ml))) := by
  have uY : ∀ (mi' : Nat → Nat → Int32) (ml : Nat → Nat → Int64), mi' 424 = v → f_X12_isLaw n 422 a (g, mi', ml) = if a < m1 then some (nI 0, (g, mi', ml)) else if nI cnt - nI 1 < a then some (nI 0, (g, mi', ml)) else some (nI 1, (g, mi', ml)) := by
    intro mi' ml hv
    unfold f_X12_isLaw f_X12_lies
    simp only [li, ng1]
    rw [S_gR422_2 hs, S_aI424 hs (by decide), hv, h6]
    by_cases q : a < m1
    · rw [iP q, zb_s, zrZ0]
    · rw [iN q]
      by_cases q2 : nI cnt - nI 1 < a
      · rw [iP q2, zb_s, zrZ0]
      · rw [iN q2, zb_s, zrZ1]
  have uX : ∀ ml, f_X6_hasLaw n 25 a (g, mi, ml) = if a < nI 0 then some (nI 0, (g, mi, ml)) else if nI cnt ≤ a then some (nI 0, (g, mi, ml)) else if nI 6 ≤ a then some (nI 0, (g, mi, ml)) else some (nI 1, (g, mi, ml)) := by
    intro ml
    unfold f_X6_hasLaw
    simp only [li]
    rw [S_gI25 hs, h2]
  have hm : m1.toInt = -1 := by decide
  have hsub : (nI cnt - nI 1).toInt = (cnt : Int) - 1 := pk_sub_toInt (by omega) (by decide)
  by_cases q0 : a = m1
  · refine Or.inl ⟨q0, fun mi' ml hm4 => ?_⟩
    rw [uY mi' ml hm4, q0, iN (by rw [Int32.lt_iff_toInt_lt]; omega), iN (by rw [Int32.lt_iff_toInt_lt, hsub, hm]; omega)]
  · refine Or.inr ?_
    by_cases q1 : a < nI 0
    · refine Or.inr ⟨q0, fun ml => by rw [uX, iP q1], fun mi' ml hm4 => ?_⟩
      have : a < m1 := by
        rw [Int32.lt_iff_toInt_lt, nI_toInt (by decide)] at q1
        rw [Int32.lt_iff_toInt_lt, hm]
        have : a.toInt ≠ -1 := fun z => q0 (Int32.toInt_inj.mp (by rw [z, hm]))
        omega
      rw [uY mi' ml hm4, iP this]
    · obtain ⟨i, hi, rfl⟩ := nI_of q1
      have t0 : ¬ nI i < m1 := by rw [Int32.lt_iff_toInt_lt, hm, nI_toInt hi]; omega
      by_cases q2 : i < cnt
      · refine Or.inl ⟨i, q2, rfl, fun ml => ?_, fun mi' ml hm4 => ?_⟩
        · rw [uX, iN q1, iLe0 (by omega) (by omega) q2, iLe0 (by omega) (by omega) (by omega)]
        · rw [uY mi' ml hm4, iN t0, iN (by rw [Int32.lt_iff_toInt_lt, hsub, nI_toInt hi]; omega)]
      · refine Or.inr ⟨q0, fun ml => ?_, fun mi' ml hm4 => ?_⟩
        · rw [uX, iN q1, iLe1 (by omega) (by omega) (by omega)]
        · rw [uY mi' ml hm4, iN t0, iP (by rw [Int32.lt_iff_toInt_lt, hsub, nI_toInt hi]; omega)]
theorem cl_compare (hn : 3000 < n) (a b d : Int32) : CALL (f_X11_compare n 1 a b d) (f_X12_compare n 422 a b d) := by
  intro c g mi ml hc hI
  obtain ⟨hs, hR, hU⟩ : Sy g ∧ WR mi 2 (mi 424) ∧ RU g mi 25 26 (mi 424) := ⟨hI.1.1, hI.2.1.1, hI.2.2.1⟩
  generalize hv : mi 424 = v at hR hU
  have em : zrw mi 424 v = mi := by rw [← hv]; exact u24
  obtain ⟨cnt, ⟨r1, r2, r3⟩, ⟨r4, r4'⟩, ⟨r5, -⟩, ⟨r6, -⟩, r7⟩ := id hU
  have bad : f_X11_compare n 1 a b d (g, mi, ml) = some (m1, (g, mi, ml)) → f_X12_compare n 422 a b d (g, mi, ml) = some (m1, (g, mi, ml)) → ∃ r g' mi' ml' mi'' ml'', f_X11_compare n 1 a b d (g, mi, ml) = some (r, (g', mi', ml')) ∧ f_X12_compare n 422 a b d (g', mi', ml') = some (r, (g', mi'', ml'')) ∧ IV (c + 1) g' mi'' := fun h1 h2 => ⟨m1, g, mi, ml, mi, ml, h1, h2, IV_VE hI (VE_r mi)⟩
  have hX : (a = m1 ∨ f_X6_hasLaw n 25 a (g, mi, ml) = some (nI 1, (g, mi, ml))) → f_X11_compare n 1 a b d (g, mi, ml) = fb_X11_compare_18 n 1 a b d (g, mi, ml) := by
    intro h
    unfold f_X11_compare
    simp only [li, ng1]
    rw [S_gR1_3 hs, S_ck25 hs]
    by_cases q : a = m1
    · rw [iP q]
    · rcases h with h | h
      · exact absurd h q
      · rw [iN q, h, zb_s, iN n01.symm]
  have main : ∀ A, (∀ mi', mi' 25 = mi 25 → ∀ ml, f_X6_lawAt n 25 a (g, mi', ml) = some (A, (g, mi', ml))) → (∀ nd ch, 0 < nd → nd < 8 → ch < 2 → ∃ r f ml1, f_X6_costOf n 25 A (nI nd) (nI ch) 2 (g, mi, ml) = some (r, (g, zrw mi 23 f, ml1)) ∧ ∀ M ml, ∃ M', f_X12_costsAt n 422 (nI nd) (nI ch) (g, zrw M 424 (upd v 207 a), ml) = some (r, (g, zrw M' 424 (upd v 207 a), ml)) ∧ FM M M') → (a = m1 ∨ f_X6_hasLaw n 25 a (g, mi, ml) = some (nI 1, (g, mi, ml))) → (∀ mi', mi' 424 = v → ∀ ml, f_X12_isLaw n 422 a (g, mi', ml) = some (nI 1, (g, mi', ml))) → ∃ r g' mi' ml' mi'' ml'', f_X11_compare n 1 a b d (g, mi, ml) = some (r, (g', mi', ml')) ∧ f_X12_compare n 422 a b d (g', mi', ml') = some (r, (g', mi'', ml'')) ∧ IV (c + 1) g' mi'' := by
    intro A hA hcost h1 h2
    have hY : ∀ mi', mi' 424 = v → ∀ ml, f_X12_compare n 422 a b d (g, mi', ml) = zb (f_X12_lies n b (nI 1) (nI 7) (g, mi', ml)) fun r3 h4 => if r3 = nI 0 then some (m1, h4) else zb (f_X12_lies n d (nI 0) (nI 1) h4) fun r5 h6 => if r5 = nI 0 then some (m1, h6) else zgR h6 13 422 2 fun v7 => zaI h6 21 v7 (nI 207) fun v8 => zgR h6 13 422 2 fun v9 => zeI h6 v9 (nI 207) a fun h10 => zck h10 13 422 (zb (f_X12_costsAt n 422 b d h10) fun r11 h12 => zgR h12 13 422 2 fun v13 => zeI h12 v13 (nI 207) v8 fun h14 => some (r11, h14)) := by
      intro mi' hm ml
      unfold f_X12_compare
      simp only [li, ng1]
      rw [S_ck422 hs, h2 mi' hm ml, zb_s, iN n01.symm]
    have hX18 := hX h1
    have badN : (b < nI 1 ∨ nI 7 < b) → ∃ r g' mi' ml' mi'' ml'', f_X11_compare n 1 a b d (g, mi, ml) = some (r, (g', mi', ml')) ∧ f_X12_compare n 422 a b d (g', mi', ml') = some (r, (g', mi'', ml'')) ∧ IV (c + 1) g' mi'' := by
      intro h
      refine bad ?_ ?_
      · rw [hX18]
        unfold fb_X11_compare_18 f_X11_isNode
        simp only [li, ng1]
        rcases h with h | h
        · rw [iP h, zb_s, iP rfl]
        · have t1 : ¬ b < nI 1 := fun q => by rw [Int32.lt_iff_toInt_lt, nI_toInt (by decide)] at q h; omega
          have t2 : nI 8 ≤ b := by rw [Int32.le_iff_toInt_le, nI_toInt (by decide)]; rw [Int32.lt_iff_toInt_lt, nI_toInt (by decide)] at h; omega
          rw [iN t1, iP t2, zb_s, iP rfl]
      · rw [hY mi hv ml]
        unfold f_X12_lies
        simp only [li]
        rcases h with h | h
        · rw [iP h, zb_s, iP rfl]
        · have t1 : ¬ b < nI 1 := fun q => by rw [Int32.lt_iff_toInt_lt, nI_toInt (by decide)] at q h; omega
          rw [iN t1, iP h, zb_s, iP rfl]
    by_cases q1 : b < nI 1
    · exact badN (Or.inl q1)
    by_cases q2 : nI 7 < b
    · exact badN (Or.inr q2)
    obtain ⟨nd, hnd, rfl⟩ : ∃ q : Nat, q < 2147483648 ∧ b = nI q := nI_of (fun z => q1 (lt_neg (by decide) z))
    rw [nLt (by omega) (by omega)] at q1 q2
    have e18 : fb_X11_compare_18 n 1 a (nI nd) d (g, mi, ml) = if d < nI 0 then some (m1, (g, mi, ml)) else if d ≤ nI 1 then (zb (f_X6_costOf n 25 A (nI nd) d 2 (g, mi, ml)) fun r8 h9 => some (r8, h9)) else some (m1, (g, mi, ml)) := by
      unfold fb_X11_compare_18 f_X11_isNode
      simp only [li, ng1]
      rw [iLt0 (by omega) (by omega) (by omega), iLe0 (by omega) (by omega) (by omega), zb_s, iN n01.symm, S_gR1_3 hs, S_gR1_3 hs, S_ck25 hs, hA mi rfl ml, zb_s, S_gR1_0 hs, S_ck25 hs]
    have eY : ∀ mi', mi' 424 = v → ∀ ml, f_X12_compare n 422 a (nI nd) d (g, mi', ml) = zb (f_X12_lies n d (nI 0) (nI 1) (g, mi', ml)) fun r5 h6 => if r5 = nI 0 then some (m1, h6) else zgR h6 13 422 2 fun v7 => zaI h6 21 v7 (nI 207) fun v8 => zgR h6 13 422 2 fun v9 => zeI h6 v9 (nI 207) a fun h10 => zck h10 13 422 (zb (f_X12_costsAt n 422 (nI nd) d h10) fun r11 h12 => zgR h12 13 422 2 fun v13 => zeI h12 v13 (nI 207) v8 fun h14 => some (r11, h14)) := by
      intro mi' hm ml
      rw [hY mi' hm ml]
      have el : f_X12_lies n (nI nd) (nI 1) (nI 7) (g, mi', ml) = some (nI 1, (g, mi', ml)) := by
        unfold f_X12_lies
        simp only [li]
        rw [iLt0 (by omega) (by omega) (by omega), iLt0 (by omega) (by omega) (by omega)]
      rw [el, zb_s, iN n01.symm]
    rcases pk_ix d (n := 2) (by decide) with hd | hd | ⟨ch, hch, hd⟩
    · exact bad (by rw [hX18, e18, iP (show d < nI 0 from hd)]) (by rw [eY mi hv ml, r_lies0 hd, zb_s, iP rfl])
    · have t := ge_lt (N := 1) (by decide) hd
      refine bad ?_ (by rw [eY mi hv ml, r_lies1 (N := 1) (by decide) hd, zb_s, iP rfl])
      rw [hX18, e18, iN t.2.1, iN (fun q => by rw [Int32.le_iff_toInt_le] at q; have := t.1; rw [Int32.lt_iff_toInt_lt] at this; omega)]
    · subst hd
      obtain ⟨r, f, ml1, k1, k2⟩ := hcost nd ch (by omega) (by omega) hch
      obtain ⟨M', k3, k4⟩ := k2 (zrw mi 23 f) ml1
      have hm4 : zrw mi 23 f 424 = v := by rw [zrw_a (by decide)]; exact hv
      refine ⟨r, g, zrw mi 23 f, ml1, zrw M' 424 v, ml1, ?_, ?_, ?_⟩
      · rw [hX18, e18, iN (show ¬ nI ch < nI 0 by rw [nLt (by omega) (by omega)]; omega), iLe1 (by omega) (by omega) (by omega), k1, zb_s]
      · have ez : zu (zrw mi 23 f) 424 207 a = zrw (zrw mi 23 f) 424 (upd v 207 a) := by
          rw [u_zu, hm4]; rfl
        have eu : upd (upd v 207 a) 207 (v 207) = v := by
          funext j
          by_cases z : j = 207
          · rw [z, upd_eq]
          · rw [upd_ne z, upd_ne z]
        rw [eY _ hm4, r_lies2 (by decide) (by omega), zb_s, iN n01.symm, S_gR422_2 hs, S_aI424 hs (by decide), hm4, S_gR422_2 hs, S_eI424 hs (by decide), ez, S_ck422 hs, k3, zb_s, S_gR422_2 hs, S_eI424 hs (by decide), u_ru, eu]
      · refine IV_VE hI (VE_s (fun x x1 x2 x3 => ?_) (fun k hk => ?_))
        · by_cases z : x = 424
          · rw [z, zrw_eq, hv]
          · rw [zrw_a z, k4.1 x x2 z x3, zrw_a x1]
        · rw [zrw_a (by decide), k4.2 k hk, zrw_a (by decide)]
  have vlo : ∀ k, k ≠ 207 → upd v 207 a k = v k := fun k hk => upd_ne hk
  rcases has_law (n := n) hs r1 r2 r3 a with ⟨h1, h2⟩ | ⟨i, hi, h1, h2, h3⟩ | ⟨h1, h2, h3⟩
  · refine main 0 (fun mi' _ ml => by rw [h1]; exact c_lawAt0) (fun nd ch x1 x2 x3 => ⟨nI 1, mi 23, ml, ?_, fun M ml => ?_⟩) (Or.inl h1) (fun mi' hm ml => h2 mi' ml hm)
    · rw [u_self]; exact c_cost0
    · exact r_cost0 hs (by rw [upd_eq]; exact h1) x2
  · obtain ⟨X, l, sA, aA, eA, ln, T, D, V, c', x1, x2, x3, x4, x5, x6, x7, x8, x9⟩ := law_at (n := n) hs hn hU r3 hi r1
    refine main X (fun mi' hm ml => ?_) (fun nd ch y1 y2 y3 => ?_) (Or.inr (h2 ml)) (fun mi' hm ml => h3 mi' ml hm)
    · rw [h1, ← x1]; exact c_lawAt hs hi r1 (by rw [hm]; exact r2)
    · obtain ⟨f, ml1, e1⟩ := c_cost (ml := ml) (ch := ch) hs hn w2c (Or.inl rfl) hR r6 x3 (by omega) (by omega) x4 x5 x6 y2
      refine ⟨_, f, ml1, e1, fun M ml => ?_⟩
      obtain ⟨M', e2, e3⟩ := r_cost (M := M) (ml := ml) (v := upd v 207 a) (ch := ch) hs hn (show i < 6 by omega) (by rw [upd_eq]; exact h1) (LWr_c x7 (fun k hk _ => vlo k (by omega)) (by omega)) x8 y2
      refine ⟨M', ?_, e3⟩
      rw [e2]
      unfold KL
      rw [vlo 164 (by decide), vlo 190 (by decide), vlo 204 (by decide)]
  · refine bad ?_ ?_
    · unfold f_X11_compare
      simp only [li, ng1]
      rw [iN h1, S_gR1_3 hs, S_ck25 hs, h2 ml, zb_s, iP rfl]
    · unfold f_X12_compare
      simp only [li, ng1]
      rw [S_ck422 hs, h3 mi ml hv, zb_s, iP rfl]
end
