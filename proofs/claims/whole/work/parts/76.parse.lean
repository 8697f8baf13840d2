/-! the Java side reads terms and sums -/
section
variable {g : zS} {M : Nat → Nat → Int32} {n T : Nat} {D V P : Nat → Nat} {o : Bool} {kH : Nat → Int32 → zH → Option (Int32 × zH)} {k4 : Nat → Int32 → Int32 → Int32 → zH → Option (Int32 × zH)}
theorem k_ti (h : TC o M T D V P) {i : Nat} (hi : i ≤ T) (q : isTi (D i) = true) : kk o T D i = D i - 100 ∧ i < T := by
  rw [ti_c] at q
  have hi' : i < T := by
    rcases Nat.lt_or_eq_of_le hi with z | z
    · exact z
    · rw [z, h.2.2.1] at q; omega
  refine ⟨?_, hi'⟩
  rcases q with q | q | q
  · rw [q, k_42 h hi]; exact q
  · rw [q, k_47 h hi]; exact q
  · rw [q, k_37 h hi]; exact q
theorem k_lo (h : TC o M T D V P) {i : Nat} (hi : i ≤ T) (q : isLo (D i) = true) : kk o T D i = D i - 100 ∧ i < T := by
  rw [lo_c] at q
  have hi' : i < T := by
    rcases Nat.lt_or_eq_of_le hi with z | z
    · exact z
    · rw [z, h.2.2.1] at q; omega
  refine ⟨?_, hi'⟩
  rcases q with q | q
  · rw [q, k_43 h hi]; exact q
  · rw [q, k_45 h hi]; exact q
theorem c_tl (hs : Sy g) (h : TC o M T D V P) {part : Nat → Nat → RS} (ok : OkS T part) {dp : Int32} (hr : CPs g M T P part (f_X5_part n kH 410 dp)) {l2 l3 : Int32} : ∀ (f i p : Nat) (c : List (Nat × Nat)) (d : DS) (ff l5 L0 : Nat) (fl cc : Int32) (S0 A0 S A E : Nat → Int32) (ml : Nat → Nat → Int64), i ≤ T → p ≤ 50 → T < i + f → T < i + ff → 2 * l5 + 1 ≤ i → L0 + c.length ≤ i → Wr S0 A0 S A L0 c → (∀ j p' c' d', pLp D part isTi f (i, p, c, d) = .ok (j, p', c', d') → ∃ S' A', fb_X5_sum_52 n kH k4 (zlp6 (fb_X5_sum_17 n kH k4) ff) 410 dp l2 l3 (nI l5) (g, Ps M (nI i) (nI p) fl (nI (L0 + c.length)) cc S A E, ml) = fb_X5_sum_98 n kH k4 410 dp l2 l3 (g, Ps M (nI j) (nI p') fl (nI (L0 + c'.length)) cc S' A' E, ml) ∧ Wr S0 A0 S' A' L0 c') ∧ ∀ q, pLp D part isTi f (i, p, c, d) = .error q → ∃ tk pt ln S' A', fb_X5_sum_52 n kH k4 (zlp6 (fb_X5_sum_17 n kH k4) ff) 410 dp l2 l3 (nI l5) (g, Ps M (nI i) (nI p) fl (nI (L0 + c.length)) cc S A E, ml) = some (nI 0, (g, Ps M tk pt (nI (P q)) ln cc S' A' E, ml))
  | 0, i, p, c, d, ff, l5, L0, fl, cc, S0, A0, S, A, E, ml, h1, _, h2, _, _, _, _ => absurd h2 (by omega)
  | f + 1, i, p, c, d, 0, l5, L0, fl, cc, S0, A0, S, A, E, ml, h1, _, _, h2, _, _, _ => absurd h2 (by omega)
  | f + 1, i, p, c, d, ff + 1, l5, L0, fl, cc, S0, A0, S, A, E, ml, hi, hp, hf, hff, h5, hL, hW => by
    have hT := h.2.1
    have hD := h.2.2.2 i
    have hkb := kk_b h i
    unfold pLp
    by_cases q : isTi (D i) = true
    · simp only [q, if_T]
      obtain ⟨kq, hi'⟩ := k_ti h hi q
      rw [ti_c] at q
      obtain ⟨k1, k2⟩ := hr (i + 1) p (by omega) hp (L0 + c.length) fl cc S A E ml (by omega)
      have U : ∀ X, (zb (f_X5_part n kH 410 dp (g, Ps M (nI (i + 1)) (nI p) fl (nI (L0 + c.length)) cc S A E, ml)) fun r1 h2 => if r1 = nI 0 then some (nI 0, h2) else if nI (D i - 100) = m1 then fb_X5_sum_52 n kH k4 (zlp6 (fb_X5_sum_17 n kH k4) ff) 410 dp l2 l3 (nI (l5 + 1)) h2 else zgR h2 6 410 0 fun v3 => zck h2 9 v3 (zb (f_X8_addStep n v3 (nI (D i - 100)) (nI 0) h2) fun r4 h5 => fb_X5_sum_52 n kH k4 (zlp6 (fb_X5_sum_17 n kH k4) ff) 410 dp l2 l3 (nI (l5 + 1)) h5)) = X → fb_X5_sum_52 n kH k4 (zlp6 (fb_X5_sum_17 n kH k4) (ff + 1)) 410 dp l2 l3 (nI l5) (g, Ps M (nI i) (nI p) fl (nI (L0 + c.length)) cc S A E, ml) = X := by
        intro X hX
        have e1 : fb_X5_sum_52 n kH k4 (zlp6 (fb_X5_sum_17 n kH k4) (ff + 1)) 410 dp l2 l3 (nI l5) (g, Ps M (nI i) (nI p) fl (nI (L0 + c.length)) cc S A E, ml) = zlp6 (fb_X5_sum_17 n kH k4) (ff + 1) 410 dp l2 l3 (nI (D i - 100)) (nI (l5 + 1)) (g, Ps M (nI (i + 1)) (nI p) fl (nI (L0 + c.length)) cc S A E, ml) := by
          generalize zlp6 (fb_X5_sum_17 n kH k4) (ff + 1) = kx
          unfold fb_X5_sum_52 fb_X5_sum_82
          simp only [lit]
          simp (disch := omega) only [↓S_ck410 hs, p_pres hs h hi, zb_s, kq, nEq, ↓p_gtk hs, ↓p_ptk hs, nI_add]
          rcases q with q | q | q
          · simp (disch := omega) only [q, if_pos, if_neg, if_T]
          · simp (disch := omega) only [q, if_pos, if_neg, if_T]
          · simp (disch := omega) only [q, if_pos, if_neg, if_T]
        rw [e1, ← hX]
        show fb_X5_sum_17 n kH k4 (zlp6 (fb_X5_sum_17 n kH k4) ff) 410 dp l2 l3 (nI (D i - 100)) (nI (l5 + 1)) _ = _
        generalize zlp6 (fb_X5_sum_17 n kH k4) ff = kx
        unfold fb_X5_sum_17
        simp only [lit, ng1]
        simp (disch := omega) only [↓iLe0, ↓S_ck410 hs]
        rfl
      have nm : ¬ nI (D i - 100) = m1 := nI_nm (by omega)
      cases hc : part (i + 1) p with
      | error q' =>
        obtain ⟨tk, pt, ln, S', A', s1⟩ := k2 q' hc
        refine ⟨fun j p' c' d' he => absurd he (by simp), fun q he => ?_⟩
        injection he with he
        subst he
        refine ⟨tk, pt, ln, S', A', U _ ?_⟩
        rw [s1, zb_s, iEq1 rfl]
      | ok x =>
        obtain ⟨j1, p1, c1, d1⟩ := x
        obtain ⟨a1, a2, a3, a4, a5, a6⟩ := ok _ _ _ _ _ _ (by omega) hp hc
        obtain ⟨S1, A1, s1, s2⟩ := k1 _ _ _ _ hc
        have hL1 : L0 + c.length + c1.length < 400 := by omega
        have hW2 : Wr S0 A0 (upd S1 (L0 + c.length + c1.length) (nI (D i - 100))) (upd A1 (L0 + c.length + c1.length) (nI 0)) L0 (c ++ c1 ++ [(D i - 100, 0)]) := by
          have w1 := Wr_a hW s2
          have e : L0 + c.length + c1.length = L0 + (c ++ c1).length := by simp; omega
          rw [e]
          exact Wr_a w1 Wr_1
        have e2 : L0 + c.length + c1.length + 1 = L0 + (c ++ c1 ++ [(D i - 100, 0)]).length := by simp; omega
        have U2 := U _ (by
          rw [s1, zb_s, iEq0 (by decide) (by decide) (by decide), if_neg nm, S_gR410_0 hs, S_ck411 hs, p_add hs hL1, zb_s, e2])
        have ih := c_tl (l2 := l2) (l3 := l3) hs h ok hr f j1 p1 (c ++ c1 ++ [(D i - 100, 0)]) (bin (D i - 100) d d1) ff (l5 + 1) L0 fl cc S0 A0 _ _ E ml a2 a4 (by omega) (by omega) (by omega) (by omega) hW2
        rw [U2]
        exact ih
    · have q' := q
      rw [ti_c] at q'
      simp only [q, if_F, Bool.false_eq_true]
      refine ⟨fun j p' c' d' he => ?_, fun q he => absurd he (by simp)⟩
      injection he with he
      injection he with e1 e2
      injection e2 with e2 e3
      injection e3 with e3 e4
      subst e1
      subst e2
      subst e3
      refine ⟨S, A, ?_, hW⟩
      generalize zlp6 (fb_X5_sum_17 n kH k4) (ff + 1) = kx
      generalize hE : fb_X5_sum_98 n kH k4 410 dp l2 l3 (g, Ps M (nI i) (nI p) fl (nI (L0 + c.length)) cc S A E, ml) = E'
      unfold fb_X5_sum_52 fb_X5_sum_79
      simp only [lit]
      simp (disch := omega) only [↓S_ck410 hs, p_pres hs h hi, zb_s, nEq, k_42 h hi, k_47 h hi, k_37 h hi, if_neg, hE]
termination_by f => f
theorem c_tm (hs : Sy g) (h : TC o M T D V P) (hn : 3000 < n) {part : Nat → Nat → RS} (ok : OkS T part) {dp : Int32} (hr : CPs g M T P part (f_X5_part n kH 410 dp)) {l2 l3 : Int32} {i p L : Nat} {fl cc : Int32} {S A E : Nat → Int32} {ml : Nat → Nat → Int64} (hi : i ≤ T) (hp : p ≤ 50) (hL : L ≤ i) : (∀ j p' c d, pTm D part i p = .ok (j, p', c, d) → ∃ S' A', zlp6 (fb_X5_sum_17 n kH k4) n 410 dp l2 l3 m1 (nI 0) (g, Ps M (nI i) (nI p) fl (nI L) cc S A E, ml) = fb_X5_sum_98 n kH k4 410 dp l2 l3 (g, Ps M (nI j) (nI p') fl (nI (L + c.length)) cc S' A' E, ml) ∧ Wr S A S' A' L c) ∧ ∀ q, pTm D part i p = .error q → ∃ tk pt ln S' A', zlp6 (fb_X5_sum_17 n kH k4) n 410 dp l2 l3 m1 (nI 0) (g, Ps M (nI i) (nI p) fl (nI L) cc S A E, ml) = some (nI 0, (g, Ps M tk pt (nI (P q)) ln cc S' A' E, ml)) := by
  have hT := h.2.1
  obtain ⟨n', rfl⟩ : ∃ n', n = n' + 1 := ⟨n - 1, by omega⟩
  obtain ⟨k1, k2⟩ := hr i p hi hp L fl cc S A E ml hL
  have U : ∀ X, (zb (f_X5_part (n' + 1) kH 410 dp (g, Ps M (nI i) (nI p) fl (nI L) cc S A E, ml)) fun r1 h2 => if r1 = nI 0 then some (nI 0, h2) else fb_X5_sum_52 (n' + 1) kH k4 (zlp6 (fb_X5_sum_17 (n' + 1) kH k4) n') 410 dp l2 l3 (nI 0) h2) = X → zlp6 (fb_X5_sum_17 (n' + 1) kH k4) (n' + 1) 410 dp l2 l3 m1 (nI 0) (g, Ps M (nI i) (nI p) fl (nI L) cc S A E, ml) = X := by
    intro X hX
    rw [← hX]
    show fb_X5_sum_17 (n' + 1) kH k4 (zlp6 (fb_X5_sum_17 (n' + 1) kH k4) n') 410 dp l2 l3 m1 (nI 0) _ = _
    generalize zlp6 (fb_X5_sum_17 (n' + 1) kH k4) n' = kx
    unfold fb_X5_sum_17
    simp only [lit, ng1]
    simp (disch := omega) only [↓iLe0, ↓S_ck410 hs, if_T]
  unfold pTm pCh
  cases hc : part i p with
  | error q' =>
    obtain ⟨tk, pt, ln, S', A', s1⟩ := k2 q' hc
    refine ⟨fun j p' c' d' he => absurd he (by simp), fun q he => ?_⟩
    injection he with he
    subst he
    refine ⟨tk, pt, ln, S', A', U _ ?_⟩
    rw [s1, zb_s, iEq1 rfl]
  | ok x =>
    obtain ⟨j1, p1, c1, d1⟩ := x
    obtain ⟨a1, a2, a3, a4, a5, a6⟩ := ok _ _ _ _ _ _ hi hp hc
    obtain ⟨S1, A1, s1, s2⟩ := k1 _ _ _ _ hc
    have U2 := U _ (by rw [s1, zb_s, iEq0 (by decide) (by decide) (by decide)])
    rw [U2]
    exact c_tl hs h ok hr 401 j1 p1 c1 d1 n' 0 L fl cc S A S1 A1 E ml a2 a4 (by omega) (by omega) (by omega) (by omega) s2
theorem c_sl (hs : Sy g) (h : TC o M T D V P) (hn : 3000 < n) {part : Nat → Nat → RS} (ok : OkS T part) {dp : Int32} (hr : CPs g M T P part (f_X5_part n kH 410 dp)) : ∀ (f i p : Nat) (c : List (Nat × Nat)) (d : DS) (ff l3 L0 : Nat) (fl cc : Int32) (S0 A0 S A E : Nat → Int32) (ml : Nat → Nat → Int64), i ≤ T → p ≤ 50 → T < i + f → T < i + ff → 2 * l3 + 1 ≤ i → L0 + c.length ≤ i → Wr S0 A0 S A L0 c → (∀ j p' c' d', pLp D (pTm D part) isLo f (i, p, c, d) = .ok (j, p', c', d') → ∃ S' A', fb_X5_sum_113 n kH (zlp4 (fb_X5_sum_4 n kH) ff) 410 dp (nI l3) (g, Ps M (nI i) (nI p) fl (nI (L0 + c.length)) cc S A E, ml) = some (nI 1, (g, Ps M (nI j) (nI p') fl (nI (L0 + c'.length)) cc S' A' E, ml)) ∧ Wr S0 A0 S' A' L0 c') ∧ ∀ q, pLp D (pTm D part) isLo f (i, p, c, d) = .error q → ∃ tk pt ln S' A', fb_X5_sum_113 n kH (zlp4 (fb_X5_sum_4 n kH) ff) 410 dp (nI l3) (g, Ps M (nI i) (nI p) fl (nI (L0 + c.length)) cc S A E, ml) = some (nI 0, (g, Ps M tk pt (nI (P q)) ln cc S' A' E, ml))
  | 0, i, p, c, d, ff, l3, L0, fl, cc, S0, A0, S, A, E, ml, h1, _, h2, _, _, _, _ => absurd h2 (by omega)
  | f + 1, i, p, c, d, 0, l3, L0, fl, cc, S0, A0, S, A, E, ml, h1, _, _, h2, _, _, _ => absurd h2 (by omega)
  | f + 1, i, p, c, d, ff + 1, l3, L0, fl, cc, S0, A0, S, A, E, ml, hi, hp, hf, hff, h5, hL, hW => by
    have hT := h.2.1
    have hD := h.2.2.2 i
    have hkb := kk_b h i
    have okt : OkS T (pTm D part) := ok_ch h.2.2.1 ok rfl
    unfold pLp
    by_cases q : isLo (D i) = true
    · simp only [q, if_T]
      obtain ⟨kq, hi'⟩ := k_lo h hi q
      rw [lo_c] at q
      have U : fb_X5_sum_113 n kH (zlp4 (fb_X5_sum_4 n kH) (ff + 1)) 410 dp (nI l3) (g, Ps M (nI i) (nI p) fl (nI (L0 + c.length)) cc S A E, ml) = zlp6 (fb_X5_sum_17 n kH (zlp4 (fb_X5_sum_4 n kH) ff)) n 410 dp (nI (D i - 100)) (nI (l3 + 1)) m1 (nI 0) (g, Ps M (nI (i + 1)) (nI p) fl (nI (L0 + c.length)) cc S A E, ml) := by
        have e1 : fb_X5_sum_113 n kH (zlp4 (fb_X5_sum_4 n kH) (ff + 1)) 410 dp (nI l3) (g, Ps M (nI i) (nI p) fl (nI (L0 + c.length)) cc S A E, ml) = zlp4 (fb_X5_sum_4 n kH) (ff + 1) 410 dp (nI (D i - 100)) (nI (l3 + 1)) (g, Ps M (nI (i + 1)) (nI p) fl (nI (L0 + c.length)) cc S A E, ml) := by
          generalize zlp4 (fb_X5_sum_4 n kH) (ff + 1) = kx
          unfold fb_X5_sum_113 fb_X5_sum_132
          simp only [lit]
          simp (disch := omega) only [↓S_ck410 hs, p_pres hs h hi, zb_s, kq, nEq, ↓p_gtk hs, ↓p_ptk hs, nI_add]
          rcases q with q | q
          · simp (disch := omega) only [q, if_pos, if_neg, if_T]
          · simp (disch := omega) only [q, if_pos, if_neg, if_T]
        rw [e1]
        show fb_X5_sum_4 n kH (zlp4 (fb_X5_sum_4 n kH) ff) 410 dp (nI (D i - 100)) (nI (l3 + 1)) _ = _
        generalize zlp4 (fb_X5_sum_4 n kH) ff = kx
        unfold fb_X5_sum_4
        simp only [lit, ng1]
        simp (disch := omega) only [nLe, if_neg]
      obtain ⟨k1, k2⟩ := c_tm (k4 := zlp4 (fb_X5_sum_4 n kH) ff) (l2 := nI (D i - 100)) (l3 := nI (l3 + 1)) (i := i + 1) (p := p) (L := L0 + c.length) (fl := fl) (cc := cc) (S := S) (A := A) (E := E) (ml := ml) hs h hn ok hr (by omega) hp (by omega)
      have nm : ¬ nI (D i - 100) = m1 := nI_nm (by omega)
      rw [U]
      cases hc : pTm D part (i + 1) p with
      | error q' =>
        obtain ⟨tk, pt, ln, S', A', s1⟩ := k2 q' hc
        refine ⟨fun j p' c' d' he => absurd he (by simp), fun q he => ?_⟩
        injection he with he
        subst he
        exact ⟨tk, pt, ln, S', A', s1⟩
      | ok x =>
        obtain ⟨j1, p1, c1, d1⟩ := x
        obtain ⟨a1, a2, a3, a4, a5, a6⟩ := okt _ _ _ _ _ _ (by omega) hp hc
        obtain ⟨S1, A1, s1, s2⟩ := k1 _ _ _ _ hc
        have hL1 : L0 + c.length + c1.length < 400 := by omega
        have hW2 : Wr S0 A0 (upd S1 (L0 + c.length + c1.length) (nI (D i - 100))) (upd A1 (L0 + c.length + c1.length) (nI 0)) L0 (c ++ c1 ++ [(D i - 100, 0)]) := by
          have w1 := Wr_a hW s2
          have e : L0 + c.length + c1.length = L0 + (c ++ c1).length := by simp; omega
          rw [e]
          exact Wr_a w1 Wr_1
        have e2 : L0 + c.length + c1.length + 1 = L0 + (c ++ c1 ++ [(D i - 100, 0)]).length := by simp; omega
        rw [s1]
        have U2 : fb_X5_sum_98 n kH (zlp4 (fb_X5_sum_4 n kH) ff) 410 dp (nI (D i - 100)) (nI (l3 + 1)) (g, Ps M (nI j1) (nI p1) fl (nI (L0 + c.length + c1.length)) cc S1 A1 E, ml) = fb_X5_sum_113 n kH (zlp4 (fb_X5_sum_4 n kH) ff) 410 dp (nI (l3 + 1)) (g, Ps M (nI j1) (nI p1) fl (nI (L0 + (c ++ c1 ++ [(D i - 100, 0)]).length)) cc (upd S1 (L0 + c.length + c1.length) (nI (D i - 100))) (upd A1 (L0 + c.length + c1.length) (nI 0)) E, ml) := by
          rw [← e2]
          generalize zlp4 (fb_X5_sum_4 n kH) ff = kx
          generalize hG : fb_X5_sum_113 n kH kx 410 dp (nI (l3 + 1)) = ky
          unfold fb_X5_sum_98
          simp only [lit, ng1]
          simp (disch := omega) only [nm, if_F, ↓S_gR410_0 hs, ↓S_ck411 hs, p_add hs hL1, zb_s, hG]
        rw [U2]
        exact c_sl hs h hn ok hr f j1 p1 _ _ ff (l3 + 1) L0 fl cc S0 A0 _ _ E ml a2 a4 (by omega) (by omega) (by omega) (by omega) hW2
    · have q' := q
      rw [lo_c] at q'
      simp only [q, if_F, Bool.false_eq_true]
      refine ⟨fun j p' c' d' he => ?_, fun q he => absurd he (by simp)⟩
      injection he with he
      injection he with e1 e2
      injection e2 with e2 e3
      injection e3 with e3 e4
      subst e1
      subst e2
      subst e3
      refine ⟨S, A, ?_, hW⟩
      generalize zlp4 (fb_X5_sum_4 n kH) (ff + 1) = kx
      unfold fb_X5_sum_113
      simp only [lit]
      simp (disch := omega) only [↓S_ck410 hs, p_pres hs h hi, zb_s, nEq, k_43 h hi, k_45 h hi, if_neg]
termination_by f => f
theorem c_sm (hs : Sy g) (h : TC o M T D V P) (hn : 3000 < n) {part : Nat → Nat → RS} (ok : OkS T part) {dp : Int32} (hr : CPs g M T P part (f_X5_part n kH 410 dp)) : CPs g M T P (pSm D part) (fB_X5_sum n kH 410 dp) := by
  intro i p hi hp L fl cc S A E ml hL
  have hT := h.2.1
  have okt : OkS T (pTm D part) := ok_ch h.2.2.1 ok rfl
  obtain ⟨n', hn'⟩ : ∃ n', n = n' + 1 := ⟨n - 1, by omega⟩
  have U : fB_X5_sum n kH 410 dp (g, Ps M (nI i) (nI p) fl (nI L) cc S A E, ml) = zlp6 (fb_X5_sum_17 n kH (zlp4 (fb_X5_sum_4 n kH) n')) n 410 dp m1 (nI 0) m1 (nI 0) (g, Ps M (nI i) (nI p) fl (nI L) cc S A E, ml) := by
    have e1 : fB_X5_sum n kH 410 dp (g, Ps M (nI i) (nI p) fl (nI L) cc S A E, ml) = zlp4 (fb_X5_sum_4 n kH) (n' + 1) 410 dp m1 (nI 0) (g, Ps M (nI i) (nI p) fl (nI L) cc S A E, ml) := by
      rw [← hn']; rfl
    rw [e1]
    show fb_X5_sum_4 n kH (zlp4 (fb_X5_sum_4 n kH) n') 410 dp m1 (nI 0) _ = _
    generalize zlp4 (fb_X5_sum_4 n kH) n' = kx
    unfold fb_X5_sum_4
    simp only [lit, ng1]
    simp (disch := omega) only [nLe, if_neg]
  obtain ⟨k1, k2⟩ := c_tm (k4 := zlp4 (fb_X5_sum_4 n kH) n') (l2 := m1) (l3 := nI 0) (i := i) (p := p) (L := L) (fl := fl) (cc := cc) (S := S) (A := A) (E := E) (ml := ml) hs h hn ok hr hi hp hL
  rw [U]
  unfold pSm pCh
  cases hc : pTm D part i p with
  | error q' =>
    obtain ⟨tk, pt, ln, S', A', s1⟩ := k2 q' hc
    refine ⟨fun j p' c' d' he => absurd he (by simp), fun q he => ?_⟩
    injection he with he
    subst he
    exact ⟨tk, pt, ln, S', A', s1⟩
  | ok x =>
    obtain ⟨j1, p1, c1, d1⟩ := x
    obtain ⟨a1, a2, a3, a4, a5, a6⟩ := okt _ _ _ _ _ _ hi hp hc
    obtain ⟨S1, A1, s1, s2⟩ := k1 _ _ _ _ hc
    rw [s1]
    have U2 : fb_X5_sum_98 n kH (zlp4 (fb_X5_sum_4 n kH) n') 410 dp m1 (nI 0) (g, Ps M (nI j1) (nI p1) fl (nI (L + c1.length)) cc S1 A1 E, ml) = fb_X5_sum_113 n kH (zlp4 (fb_X5_sum_4 n kH) n') 410 dp (nI 0) (g, Ps M (nI j1) (nI p1) fl (nI (L + c1.length)) cc S1 A1 E, ml) := if_pos rfl
    rw [U2]
    exact c_sl hs h hn ok hr 401 j1 p1 c1 d1 n' 0 L fl cc S A S1 A1 E ml a2 a4 (by omega) (by omega) (by omega) (by omega) s2
theorem c_sum (hs : Sy g) (h : TC o M T D V P) (hn : 3000 < n) : ∀ (r dp t : Nat), dp + r = 8 → r < t → CPs g M T P (pSum o D V r) (f_X5_sum n t 410 (nI dp))
  | r, dp, 0, _, ht => absurd ht (by omega)
  | 0, dp, t + 1, hd, ht => c_sm (kH := f_X5_sum n t) hs h hn (ok_part h.2.2.1 ok_e) (c_part hs h ok_e hd (fun _ _ _ => rfl) (fun z => absurd z (by omega)))
  | r + 1, dp, t + 1, hd, ht => c_sm (kH := f_X5_sum n t) hs h hn (ok_part h.2.2.1 (ok_sum h.2.2.1 r)) (c_part (r := r + 1) hs h (ok_sum h.2.2.1 r) hd (fun z => absurd z (by omega)) (fun _ => c_sum hs h hn r (dp + 1) t (by omega) (by omega)))
end
