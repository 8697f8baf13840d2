/-! a whole text is read on both sides -/
theorem Ps_e (M : Nat → Nat → Int32) : Ps M (M 410 2) (M 410 3) (M 410 4) (M 411 3) (M 411 4) (M 412) (M 413) (M 414) = M := by
  funext a k
  unfold Ps
  by_cases h0 : a = 410
  · subst h0
    by_cases h1 : k = 2
    · subst h1; simp
    · by_cases h2 : k = 3
      · subst h2; simp
      · by_cases h3 : k = 4
        · subst h3; simp
        · simp [h1, h2, h3]
  · by_cases h4 : a = 411
    · subst h4
      by_cases h1 : k = 3
      · subst h1; simp
      · by_cases h2 : k = 4
        · subst h2; simp
        · simp [h1, h2]
    · by_cases h5 : a = 412
      · subst h5; simp
      · by_cases h6 : a = 413
        · subst h6; simp
        · by_cases h7 : a = 414
          · subst h7; simp
          · simp [h0, h4, h5, h6, h7]
theorem Qs_e (M : Nat → Nat → Int32) : Qs M (M 415 3) (M 416) (M 417) (M 418) = M := by
  funext a k
  unfold Qs
  by_cases h0 : a = 415
  · subst h0
    by_cases h1 : k = 3
    · subst h1; simp
    · simp [h1]
  · by_cases h4 : a = 416
    · subst h4; simp
    · by_cases h5 : a = 417
      · subst h5; simp
      · by_cases h6 : a = 418
        · subst h6; simp
        · simp [h0, h4, h5, h6]
theorem Rs_e (M : Nat → Nat → Int32) : Rs M (M 422 18) (M 431) (M 432) (M 433) = M := by
  funext a k
  unfold Rs
  by_cases h0 : a = 422
  · subst h0
    by_cases h1 : k = 18
    · subst h1; simp
    · simp [h1]
  · by_cases h4 : a = 431
    · subst h4; simp
    · by_cases h5 : a = 432
      · subst h5; simp
      · by_cases h6 : a = 433
        · subst h6; simp
        · simp [h0, h4, h5, h6]
theorem Mt_e (M : Nat → Nat → Int32) : Mt M (M 422 19) (M 422 20) (M 422 21) = M := by
  funext a k
  unfold Mt
  by_cases h0 : a = 422
  · subst h0
    by_cases h1 : k = 19
    · subst h1; simp
    · by_cases h2 : k = 20
      · subst h2; simp
      · by_cases h3 : k = 21
        · subst h3; simp
        · simp [h1, h2, h3]
  · simp [h0]
theorem Ps_o {M : Nat → Nat → Int32} {tk pt fl ln cc : Int32} {S A E : Nat → Int32} {a : Nat} (h : a < 410 ∨ 414 < a) : Ps M tk pt fl ln cc S A E a = M a := by
  funext k
  unfold Ps
  rw [if_neg (by omega), if_neg (by omega), if_neg (by omega), if_neg (by omega), if_neg (by omega)]
theorem Qs_o {M : Nat → Nat → Int32} {ct : Int32} {k1 k2 k3 : Nat → Int32} {a : Nat} (h : a < 415 ∨ 418 < a) : Qs M ct k1 k2 k3 a = M a := by
  funext k
  unfold Qs
  rw [if_neg (by omega), if_neg (by omega), if_neg (by omega), if_neg (by omega)]
section
variable {g : zS} {mi M : Nat → Nat → Int32} {ml : Nat → Nat → Int64} {n len : Nat} {b : Nat → Nat} {o : Bool} {l : List (Nat × Nat × Nat)}
theorem c_reads (hs : Sy g) (h : TPc mi b len) (hn : 3000 < n) (hl : l = pTk b len 401 0) : (∀ L c, pRd o (tD len l) (tV b len l) l.length 12 0 0 0 = .ok (L, c) → ∃ mi', f_X5_reads n 410 408 (tB o) (g, mi, ml) = some (nI 1, (g, mi', ml)) ∧ (∀ a, a < 410 ∨ 418 < a → mi' a = mi a) ∧ mi' 410 4 = m1 ∧ mi' 411 3 = nI c.length ∧ mi' 411 4 = nI L.length ∧ CA (mi' 412) (mi' 413) 0 c ∧ EnL (mi' 414) 0 L ∧ c.length ≤ 400 ∧ L.length ≤ 12) ∧ ∀ q, pRd o (tD len l) (tV b len l) l.length 12 0 0 0 = .error q → ∃ mi', f_X5_reads n 410 408 (tB o) (g, mi, ml) = some (nI 0, (g, mi', ml)) ∧ (∀ a, a < 410 ∨ 418 < a → mi' a = mi a) ∧ mi' 410 4 = nI (tP len l q) := by
  have hlen := h.2.1
  obtain ⟨k1, k2, k3, q1, -, q3⟩ := q_lp (o := o) (ml := ml) hs h hn 401 0 0 0 n (mi 416) (mi 417) (mi 418) (by omega) (by omega) (by omega) (by omega) (by omega)
  rw [← hl, Nat.zero_add] at q1
  rw [← hl] at q3
  have hL : l.length ≤ 400 := by
    have := pTk_len (b := b) (len := len) 401 0 (by omega)
    rw [← hl] at this
    omega
  have hO : TkO b len l := by
    rw [hl]; exact pTk_ok (fun i hi => (h.2.2 i hi).2) 401 0 (by omega)
  have hT := tc_of (M := mi) (ct := nI (l.length + 1)) q3 hO hlen hL
  have e0 : f_X9_split n 415 408 (tB o) (g, mi, ml) = some ((), (g, Qs mi (nI (l.length + 1)) k1 k2 k3, ml)) := by
    unfold f_X9_split
    simp only [lit]
    have e := q_pct (M := mi) (ct := mi 415 3) (k1 := mi 416) (k2 := mi 417) (k3 := mi 418) (y := nI 0) (ml := ml) (K := fun h1 => zlp5 (fb_X9_split_10 n) n 415 408 (tB o) (nI 0) (nI 0) h1) hs
    rw [Qs_e] at e
    rw [e, q1]
  have e1 : f_X5_reads n 410 408 (tB o) (g, mi, ml) = zlp3 (fb_X5_reads_33 n) n 410 (tB o) (nI 0) (g, Ps (Qs mi (nI (l.length + 1)) k1 k2 k3) (nI 0) (nI 0) m1 (nI 0) (nI 0) (mi 412) (mi 413) (mi 414), ml) := by
    unfold f_X5_reads f_X8_clear
    simp only [lit, ng1]
    rw [S_gR410_1 hs, S_ck415 hs, e0, zb_s, S_gR410_0 hs, S_ck411 hs]
    have e2 := Ps_e (Qs mi (nI (l.length + 1)) k1 k2 k3)
    rw [← e2]
    simp only [↓p_pln hs, ↓p_pcc hs, zb_s, ↓p_ptk hs, ↓p_ppt hs, ↓p_pfl hs]
    rw [e2]
    rfl
  obtain ⟨r1, r2⟩ := c_rd hs hT hn 12 0 0 0 0 n m1 (mi 412) (mi 413) (mi 414) ml rfl (by omega) (by omega) (by omega) (by omega)
  rw [e1]
  refine ⟨fun L c he => ?_, fun q he => ?_⟩
  · obtain ⟨tk, pt, S', A', E', s1, s2, s3, s4, s5, s6⟩ := r1 L c he
    rw [Nat.zero_add] at s1 s5 s6
    rw [Nat.zero_add] at s1
    exact ⟨_, s1, fun a ha => by rw [Ps_o (by omega), Qs_o (by omega)], rfl, rfl, rfl, s2.2, s4, s5, s6⟩
  · obtain ⟨tk, pt, ln, cc, S', A', E', s1⟩ := r2 q he
    exact ⟨_, s1, fun a ha => by rw [Ps_o (by omega), Qs_o (by omega)], rfl⟩
theorem r_reads (hs : Sy g) (h : TPr M b len) (hn : 3000 < n) (h13 : M 422 13 = nI len) (hl : l = pTk b len 401 0) (h1 : M 422 10 = tB o) (h2 : M 422 8 = nI (if o then 13 else 7)) (h3 : M 422 9 = nI (if o then 19 else 13)) : ∃ c u p, TLr b len c u p 0 l ∧ (∀ L c', pRd o (tD len l) (tV b len l) l.length 12 0 0 0 = .ok (L, c') → ∃ t lv, f_X12_reads n 422 (g, M, ml) = some (nI 1, (g, zu (Mt (zu (Rs M (nI l.length) c u p) 422 13 (nI 0)) t lv m1) 422 14 m1, ml))) ∧ ∀ q, pRd o (tD len l) (tV b len l) l.length 12 0 0 0 = .error q → ∃ t lv, f_X12_reads n 422 (g, M, ml) = some (nI 0, (g, zu (Mt (zu (Rs M (nI l.length) c u p) 422 13 (nI 0)) t lv (nI (tP len l q))) 422 14 (nI (tP len l q)), ml)) := by
  have hlen := h.1
  obtain ⟨c, u, p, q1, -, q3⟩ := r_lp (ml := ml) hs h hn 401 0 0 n (M 431) (M 432) (M 433) (by omega) (by omega) (by omega) (by omega)
  rw [← hl, Nat.zero_add] at q1
  rw [← hl] at q3
  have hL : l.length ≤ 400 := by
    have := pTk_len (b := b) (len := len) 401 0 (by omega)
    rw [← hl] at this
    omega
  have hO : TkO b len l := by
    rw [hl]; exact pTk_ok (fun i hi => (h.2.1 i hi).2) 401 0 (by omega)
  have hT0 := tr_of (M := M) (ct := nI l.length) (o := o) q3 hO hlen hL h1 h2 h3
  have hT : TR o (zu (Rs M (nI l.length) c u p) 422 13 (nI 0)) l.length (tD len l) (tV b len l) (tP len l) := by
    obtain ⟨a1, a2, a3, a4, a5⟩ := hT0
    refine ⟨fun i hi => ?_, a2, ?_, ?_, ?_⟩
    · rw [zu_a (by decide), zu_a (by decide), zu_a (by decide)]; exact a1 i hi
    · rw [zu_k (by decide)]; exact a3
    · rw [zu_k (by decide)]; exact a4
    · rw [zu_k (by decide)]; exact a5
  have h18 : zu (Rs M (nI l.length) c u p) 422 13 (nI 0) 422 18 = nI l.length := by rw [zu_k (by decide)]; rfl
  have e0 : f_X12_splits n 422 (nI len) (g, M, ml) = some ((), (g, Rs M (nI l.length) c u p, ml)) := by
    unfold f_X12_splits
    simp only [lit]
    have e := r_pct (M := M) (ct := M 422 18) (c := M 431) (u := M 432) (p := M 433) (y := nI 0) (ml := ml) (K := fun h1 => zlp3 (fb_X12_splits_7 n) n 422 (nI len) (nI 0) h1) hs
    rw [Rs_e] at e
    rw [e, q1]
  have e1 : f_X12_reads n 422 (g, M, ml) = zb (f_X12_readOne n 422 (g, Mt (zu (Rs M (nI l.length) c u p) 422 13 (nI 0)) (nI 0) (nI 0) m1, ml)) fun _ h9 => zlp2 (fb_X12_reads_34 n) n 422 (nI 1) h9 := by
    unfold f_X12_reads
    simp only [lit, ng1]
    rw [S_gI422 hs, h13, S_ck422 hs, e0, zb_s, S_pI422 hs]
    have e2 := Mt_e (zu (Rs M (nI l.length) c u p) 422 13 (nI 0))
    rw [← e2]
    simp only [↓t_ptk hs, ↓t_plf hs, ↓t_pbd hs]
    rw [e2, S_ck422 hs]
  refine ⟨c, u, p, q3, ?_⟩
  obtain ⟨k1, k2⟩ := t_cl (ml := ml) (i := 0) (p := 0) (L := 0) hs hT hn (by omega) (by omega)
  rw [e1]
  unfold pRd
  cases hc : pCl o (tD len l) (tV b len l) 0 0 0 with
  | error q' =>
    obtain ⟨s1, t, lv, s2⟩ := k2 q' hc
    have hx := t_pb hT s1
    refine ⟨fun L c' he => absurd he (by simp), fun q he => ?_⟩
    injection he with he
    subst he
    exact ⟨t, lv, by rw [s2, zb_s, t_rlb hs hT hx (by omega)]⟩
  | ok x =>
    obtain ⟨j1, p1, c1, x1⟩ := x
    obtain ⟨a1, a2, a3, a4, a5⟩ := ok_cl hT.2.1.2.1 (by omega) (by omega) hc
    rw [k1 _ _ _ _ hc, zb_s]
    obtain ⟨u1, u2⟩ := t_rl hs hT hn h18 11 1 n j1 p1 (0 + c1.length) ml rfl (by decide) a2 a4 (by omega)
    dsimp only
    by_cases w : j1 = l.length
    · rw [if_pos w] at u1 u2 ⊢
      exact ⟨fun L c' he => u1 [] [] rfl, fun q he => absurd he (by simp)⟩
    · rw [if_neg w] at u1 u2 ⊢
      by_cases w2 : tD len l j1 = 159
      · rw [if_pos w2] at u1 u2 ⊢
        cases hr : pRd o (tD len l) (tV b len l) l.length 11 (j1 + 1) p1 (0 + c1.length) with
        | error q' =>
          rw [hr] at u1 u2
          refine ⟨fun L c' he => absurd he (by simp), fun q he => ?_⟩
          injection he with he
          subst he
          exact (u2 _ rfl).2
        | ok x =>
          obtain ⟨l3, c3⟩ := x
          rw [hr] at u1 u2
          exact ⟨fun L c' he => u1 _ _ rfl, fun q he => absurd he (by simp)⟩
      · rw [if_neg w2] at u1 u2 ⊢
        refine ⟨fun L c' he => absurd he (by simp), fun q he => ?_⟩
        injection he with he
        subst he
        exact (u2 _ rfl).2
end
