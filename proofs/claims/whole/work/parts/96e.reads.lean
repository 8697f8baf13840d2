/-! count; what was seen -/
theorem sm_nd : ∀ (r p a : Nat) (l : List Nat), l.Nodup → (∀ c, c ∈ l → p ≤ c ∧ c < p + r) → sm (fun c => b1 (decide (c ∈ l))) r p a = a + l.length
  | 0, p, a, l, _, h => by
    cases l with
    | nil => rfl
    | cons x l => have := h x List.mem_cons_self; omega
  | r + 1, p, a, l, nd, h => by
    show sm (fun c => b1 (decide (c ∈ l))) r (p + 1) (a + b1 (decide (p ∈ l))) = a + l.length
    by_cases z : p ∈ l
    · have e0 : b1 (decide (p ∈ l)) = 1 := by rw [decide_eq_true z]; rfl
      have ih := sm_nd r (p + 1) (a + 1) (l.erase p) (nd.erase p) (fun c hc => by
        obtain ⟨h1, h2⟩ := nd.mem_erase_iff.mp hc
        have := h c h2
        omega)
      rw [List.length_erase_of_mem z] at ih
      have hl : 0 < l.length := List.length_pos_of_mem z
      rw [e0, sm_c (h := fun c => b1 (decide (c ∈ l.erase p))) r (p + 1) (a + 1) (fun k h1 h2 => ?_), ih]
      · omega
      · have : (k ∈ l) = (k ∈ l.erase p) := propext ⟨fun q => nd.mem_erase_iff.mpr ⟨by omega, q⟩, fun q => (nd.mem_erase_iff.mp q).2⟩
        simp only [this]
    · have e0 : b1 (decide (p ∈ l)) = 0 := by rw [decide_eq_false z]; rfl
      rw [e0, Nat.add_zero]
      exact sm_nd r (p + 1) a l nd (fun c hc => by
        have := h c hc
        have : c ≠ p := fun q => z (q ▸ hc)
        omega)
section
variable {g : zS} {mi : Nat → Nat → Int32} {v : Nat → Int32} {ml : Nat → Nat → Int64} {n : Nat}
theorem c_lv (hs : Sy g) (hR : WR mi 2 v) : ∀ (r p f a : Nat), p + r = 24 → r < f → zlp3 (fb_X0_liveCount_4 n) f 3 (nI a) (nI p) (g, mi, ml) = some (nI (sm (fun c => b1 (decide (v c = nI 1))) r p a), (g, mi, ml))
  | r, p, 0, a, _, h => absurd h (by omega)
  | 0, p, f + 1, a, h1, _ => by
    show fb_X0_liveCount_4 n (zlp3 (fb_X0_liveCount_4 n) f) 3 (nI a) (nI p) (g, mi, ml) = _
    unfold fb_X0_liveCount_4
    simp only [li]
    rw [iLe1 (by omega) (by omega) (by omega)]
    rfl
  | r + 1, p, f + 1, a, h1, h2 => by
    have ih := fun a => c_lv hs hR r (p + 1) f a (by omega) (by omega)
    show fb_X0_liveCount_4 n (zlp3 (fb_X0_liveCount_4 n) f) 3 (nI a) (nI p) (g, mi, ml) = some (nI (sm _ r (p + 1) (a + b1 (decide (v p = nI 1)))), _)
    generalize hK : zlp3 (fb_X0_liveCount_4 n) f = K at ih
    unfold fb_X0_liveCount_4 fb_X0_liveCount_26
    simp only [li, q_let]
    rw [iLe0 (by omega) (by omega) (by omega), C_gR0 (w := 2) hs w2c, A_aI2 (w := 2) hs w2c (by omega), rd_kind hR (by omega), nI_add, nI_add, nI_add, ih, ih]
    by_cases z : v p = nI 1
    · rw [iP z, decide_eq_true z]; rfl
    · rw [iN z, decide_eq_false z]; rfl
theorem r_lm (hs : Sy g) : ∀ (l : List Nat) (f a : Nat) (x : Int32), l.length < f → Lk v x l → zlp3 (fb_X12_listMany_10 n) f 422 (nI a) x (g, zrw mi 424 v, ml) = some (nI (a + l.length), (g, zrw mi 424 v, ml))
  | l, 0, a, x, h, _ => absurd h (by omega)
  | [], f + 1, a, x, _, hl => by
    have hl : x = m1 := hl
    subst hl
    show fb_X12_listMany_10 n (zlp3 (fb_X12_listMany_10 n) f) 422 (nI a) m1 _ = _
    unfold fb_X12_listMany_10
    simp only [li, ng1]
    rw [if_T]
    rfl
  | c :: l, f + 1, a, x, h2, hl => by
    obtain ⟨e1, e2, e3⟩ := hl
    subst e1
    show fb_X12_listMany_10 n (zlp3 (fb_X12_listMany_10 n) f) 422 (nI a) (nI c) _ = _
    unfold fb_X12_listMany_10
    simp only [li, ng1]
    rw [iN (show ¬ nI c = m1 from nI_nm (by omega)), S_gR422_2 hs, nI_add, R_a hs (by omega), nI_add]
    refine Eq.trans (r_lm hs l f (a + 1) _ (by simpa using h2) e3) ?_
    have : a + 1 + l.length = a + (c :: l).length := by simp; omega
    rw [this]
theorem cl_count (hn : 3000 < n) (a : Int32) : LOOKI (f_X11_count n 1 a) (f_X12_count n 422 a) := by
  intro cc g mi ml hI
  obtain ⟨h1, h2, h3, h4, h5, -, h7, h8, h9, h10⟩ := hI
  have hs := h1.1
  generalize hv : mi 424 = v at h2 h3 h4
  obtain ⟨hR, hWI, -⟩ := h2
  obtain ⟨l, lw, lc, hC, hP, hG⟩ := hWI
  have em : zrw mi 424 v = mi := by rw [← hv]; exact u24
  obtain ⟨cnt, ⟨r1, r2, r3⟩, ⟨r4, -⟩, ⟨r5, -⟩, ⟨r6, -⟩, -⟩ := h3
  obtain ⟨m, -, c1, c2, -⟩ := h4
  obtain ⟨hf, hm, ⟨-, -, -, d1⟩, d2, -⟩ := h5
  obtain ⟨b, len, t1, t2, t3⟩ := h7
  obtain ⟨-, s0, s1, s2, s3, s4⟩ := h8
  have hlen : l.length ≤ 24 := Lk_len hC.1.1
  have eL : sm (fun c => b1 (decide (v c = nI 1))) 24 0 0 = l.length := by
    rw [sm_c (h := fun c => b1 (decide (c ∈ l))) 24 0 0 (fun k _ hk => by
      have : (v k = nI 1) = (k ∈ l) := propext (hC.2.1.2.1 k (by omega))
      simp only [this]), sm_nd 24 0 0 l (Lk_nd hC.1.1) (fun c hc => ⟨Nat.zero_le _, by have := Lk_lt hC.1.1 c hc; omega⟩), Nat.zero_add]
  have e0 : f_X0_liveCount n 3 (g, mi, ml) = some (nI l.length, (g, mi, ml)) := by
    unfold f_X0_liveCount
    simp only [li]
    rw [c_lv hs hR 24 0 n 0 rfl (by omega), eL]
  have e1 : f_X12_listMany n 422 (g, mi, ml) = some (nI l.length, (g, mi, ml)) := by
    have e := r_lm (mi := mi) (v := v) (ml := ml) (n := n) hs l n 0 _ (by omega) hC.1.1
    rw [em, Nat.zero_add] at e
    unfold f_X12_listMany
    simp only [li]
    rw [S_gR422_2 hs, S_aI424 hs (by decide), hv, e]
  have out : (a < 0 ∨ nI 19 ≤ a) → ∃ r, f_X11_count n 1 a (g, mi, ml) = some (r, (g, mi, ml)) ∧ f_X12_count n 422 a (g, mi, ml) = some (r, (g, mi, ml)) := by
    intro h
    have hne : ∀ k, k < 19 → (a = nI k) = False := fun k hk => eq_false (fun q => by
      rcases h with h | h
      · rw [q] at h; exact nI_pos (by omega) h
      · rw [q, nLe (by omega) (by omega)] at h; omega)
    refine ⟨m1, ?_, ?_⟩
    · have e205 : fb_X11_count_205 n 1 a (g, mi, ml) = some (m1, (g, mi, ml)) := by
        unfold fb_X11_count_205
        simp only [li, ng1]
        rcases h with h | h
        · rw [iP (lt_neg (by decide) h)]
        · have t1 : ¬ a < nI 16 := fun q => by rw [Int32.lt_iff_toInt_lt, nI_toInt (by decide)] at q; rw [Int32.le_iff_toInt_le, nI_toInt (by decide)] at h; omega
          have t2 : nI 18 < a := by rw [Int32.lt_iff_toInt_lt, nI_toInt (by decide)]; rw [Int32.le_iff_toInt_le, nI_toInt (by decide)] at h; omega
          rw [iN t1, iP t2]
      have e22 : fb_X11_count_22 n 1 a (g, mi, ml) = some (m1, (g, mi, ml)) := by
        unfold fb_X11_count_22
        simp only [li, ng1, zswl]
        simp (disch := omega) only [hne, if_F, e205]
      unfold f_X11_count
      simp only [li, ng1]
      rw [e22]
      rcases h with h | h
      · rw [iP (lt_neg (by decide) h)]
      · have t1 : ¬ a < nI 10 := fun q => by rw [Int32.lt_iff_toInt_lt, nI_toInt (by decide)] at q; rw [Int32.le_iff_toInt_le, nI_toInt (by decide)] at h; omega
        have t2 : nI 14 < a := by rw [Int32.lt_iff_toInt_lt, nI_toInt (by decide)]; rw [Int32.le_iff_toInt_le, nI_toInt (by decide)] at h; omega
        rw [iN t1, iP t2]
    · unfold f_X12_count
      simp only [li, ng1, zswl]
      simp (disch := omega) only [hne, if_F]
  rcases pk_ix a (n := 19) (by decide) with ha | ha | ⟨k, hk, ha⟩
  · exact out (Or.inl ha)
  · exact out (Or.inr ha)
  subst ha
  have i4 : ∀ H : zH, (if v 129 = nI 0 then some (nI 0, H) else some (nI 1, H)) = some (v 129, H) := fun H => by
    rcases GIr_r hG with q | q
    · rw [iP q, q]
    · rw [iN (by rw [q]; exact n01.symm), q]
  have key : ∀ r, f_X11_count n 1 (nI k) (g, mi, ml) = some (r, (g, mi, ml)) → f_X12_count n 422 (nI k) (g, mi, ml) = some (r, (g, mi, ml)) → ∃ r, f_X11_count n 1 (nI k) (g, mi, ml) = some (r, (g, mi, ml)) ∧ f_X12_count n 422 (nI k) (g, mi, ml) = some (r, (g, mi, ml)) := fun r x y => ⟨r, x, y⟩
  have : k = 0 ∨ k = 1 ∨ k = 2 ∨ k = 3 ∨ k = 4 ∨ k = 5 ∨ k = 6 ∨ k = 7 ∨ k = 8 ∨ k = 9 ∨ k = 10 ∨ k = 11 ∨ k = 12 ∨ k = 13 ∨ k = 14 ∨ k = 15 ∨ k = 16 ∨ k = 17 ∨ k = 18 := by omega
  have fin : ∀ r, f_X11_count n 1 (nI k) (g, mi, ml) = some (r, (g, mi, ml)) ∧ f_X12_count n 422 (nI k) (g, mi, ml) = some (r, (g, mi, ml)) → ∃ r, f_X11_count n 1 (nI k) (g, mi, ml) = some (r, (g, mi, ml)) ∧ f_X12_count n 422 (nI k) (g, mi, ml) = some (r, (g, mi, ml)) := fun r h => ⟨r, h⟩
  refine fin (if k = 0 then nI l.length else if k = 1 then v 139 else if k = 2 then v 164 else if k = 3 then v 130 else if k = 4 then v 129 else if k = 5 then v 189 else if k = 6 then v 205 else if k = 7 then v 206 else if k = 8 then mi 422 31 else if k = 9 then mi 422 13 else if k = 10 then mi 423 1 else if k = 11 then mi 423 2 else if k = 12 then mi 423 3 else if k = 13 then mi 423 5 else if k = 14 then mi 423 6 else if k = 15 then v 207 else if k = 16 then v 190 else if k = 17 then v 203 else v 204) ?_
  unfold f_X11_count fb_X11_count_22 fb_X11_count_205 f_X11_termNow f_X12_count fb_X12_count_204 f_X12_termAt
  simp only [li, ng1, zswl]
  rcases this with e | e | e | e | e | e | e | e | e | e | e | e | e | e | e | e | e | e | e <;> subst e <;> (simp (disch := omega) only [↓iEq0, ↓iEq1, ↓iLt0, ↓iLt1, ↓S_gR1_0 hs, ↓W_gR0 hs w2c, ↓C_gI hs w2c, ↓C_ck hs w2c, ↓W_gI hs w2c, ↓S_gR1_4 hs, ↓S_gI27 hs, ↓S_gR1_3 hs, ↓S_gI25 hs, ↓S_gR1_5 hs, ↓S_gI30 hs, ↓S_gR1_9 hs, ↓S_gI408 hs, ↓S_gR1_11 hs, ↓S_ck422 hs, ↓S_gR422_2 hs, ↓S_aI424 hs, ↓S_gI422 hs, ↓S_gR422_1 hs, ↓S_ck1 hs, nI_sub, ↓S_aI419 hs, ↓S_aI423 hs, e0, e1, zb_s, rd_wc hR, rd_cc hR, rd_runs hR, rd_begun hR, rd_cost hR, rd_time hR, i4, hv, c1, c2, r2, r3, r4, r5, r6, d1, d2, t1.1, t3, s0, s1, s2, s3, s4, if_pos, if_neg, if_T, Nat.reduceSub, and_self])
end
