/-! the plain form reads terms and sums -/
section
variable {g : zS} {M : Nat → Nat → Int32} {n T : Nat} {D V P : Nat → Nat} {o : Bool} {kH : Nat → Int32 → zH → Option (Unit × zH)}
theorem t_tlb (hs : Sy g) {t l x : Int32} {ml : Nat → Nat → Int64} (hx : x ≠ m1) {dp : Int32} {ff : Nat} (hf : 0 < ff) : zlp2 (fb_X12_readTerm_5 n kH) ff 422 dp (g, Mt M t l x, ml) = some ((), (g, Mt M t l x, ml)) := by
  obtain ⟨f, rfl⟩ : ∃ f, ff = f + 1 := ⟨ff - 1, by omega⟩
  show fb_X12_readTerm_5 n kH (zlp2 (fb_X12_readTerm_5 n kH) f) 422 dp _ = _
  generalize zlp2 (fb_X12_readTerm_5 n kH) f = kk
  unfold fb_X12_readTerm_5 f_X12_sign
  simp only [lit]
  simp (disch := omega) only [↓S_ck422 hs, zb_s, t_tk0 hs hx, if_T]
theorem t_tl (hs : Sy g) (h : TR o M T D V P) {part : Nat → Nat → RS} (ok : OkS T part) {dp : Int32} (hr : RDs g M T P part (f_X12_readPart n kH 422 dp)) : ∀ (f i p : Nat) (c : List (Nat × Nat)) (d : DS) (ff : Nat) (ml : Nat → Nat → Int64), i ≤ T → p ≤ 50 → T < i + f → T < i + ff → (∀ j p' c' d', pLp D part isTi f (i, p, c, d) = .ok (j, p', c', d') → zlp2 (fb_X12_readTerm_5 n kH) ff 422 dp (g, Mt M (nI i) (nI p) m1, ml) = some ((), (g, Mt M (nI j) (nI p') m1, ml))) ∧ ∀ q, pLp D part isTi f (i, p, c, d) = .error q → q ≤ T ∧ ∃ t l, zlp2 (fb_X12_readTerm_5 n kH) ff 422 dp (g, Mt M (nI i) (nI p) m1, ml) = some ((), (g, Mt M t l (nI (P q)), ml))
  | 0, i, p, c, d, ff, ml, h1, _, h2, _ => absurd h2 (by omega)
  | f + 1, i, p, c, d, 0, ml, h1, _, _, h2 => absurd h2 (by omega)
  | f + 1, i, p, c, d, ff + 1, ml, hi, hp, hf, hff => by
    have hT := h.2.1.1
    have hD := h.2.1.2.2 i
    unfold pLp
    by_cases q : isTi (D i) = true
    · simp only [q, if_T]
      rw [ti_c] at q
      have hi' : i < T := by
        rcases Nat.lt_or_eq_of_le hi with z | z
        · exact z
        · rw [z, h.2.1.2.1] at q; omega
      obtain ⟨k1, k2⟩ := hr.2 (i + 1) p (by omega) hp ml
      have U : zlp2 (fb_X12_readTerm_5 n kH) (ff + 1) 422 dp (g, Mt M (nI i) (nI p) m1, ml) = zb (f_X12_readPart n kH 422 dp (g, Mt M (nI (i + 1)) (nI p) m1, ml)) fun _ h2 => zlp2 (fb_X12_readTerm_5 n kH) ff 422 dp h2 := by
        show fb_X12_readTerm_5 n kH (zlp2 (fb_X12_readTerm_5 n kH) ff) 422 dp _ = _
        generalize zlp2 (fb_X12_readTerm_5 n kH) ff = kk
        unfold fb_X12_readTerm_5 fb_X12_readTerm_41 f_X12_sign
        simp only [lit]
        rcases q with q | q | q
        · simp (disch := omega) only [zb_s, nI_add, ↓S_ck422 hs, t_tk1 hs h, q, if_T, if_neg, nEq]
        · simp (disch := omega) only [zb_s, nI_add, ↓S_ck422 hs, t_tk1 hs h, q, if_T, if_neg, nEq]
        · simp (disch := omega) only [zb_s, nI_add, ↓S_ck422 hs, t_tk1 hs h, q, if_T, if_neg, nEq]
      cases hc : part (i + 1) p with
      | error q' =>
        rw [hc] at k1 k2
        obtain ⟨s1, t, l, s2⟩ := k2 q' rfl
        refine ⟨fun j p' c' d' he => absurd he (by simp), fun q he => ?_⟩
        injection he with he
        subst he
        refine ⟨s1, t, l, ?_⟩
        rw [U, s2, zb_s]
        exact t_tlb hs (t_pb h s1) (by omega)
      | ok x =>
        obtain ⟨j1, p1, c1, d1⟩ := x
        rw [hc] at k1 k2
        obtain ⟨a1, a2, a3, a4, a5, a6⟩ := ok _ _ _ _ _ _ (by omega) hp hc
        rw [U, k1 j1 p1 rfl, zb_s]
        exact t_tl hs h ok hr f j1 p1 _ _ ff ml a2 a4 (by omega) (by omega)
    · have q' := q
      rw [ti_c] at q'
      simp only [q, if_F, Bool.false_eq_true]
      refine ⟨fun j p' c' d' he => ?_, fun q he => absurd he (by simp)⟩
      injection he with he
      injection he with e1 e2
      injection e2 with e2 e3
      subst e1
      subst e2
      show fb_X12_readTerm_5 n kH (zlp2 (fb_X12_readTerm_5 n kH) ff) 422 dp _ = _
      generalize zlp2 (fb_X12_readTerm_5 n kH) ff = kk
      unfold fb_X12_readTerm_5 fb_X12_readTerm_41 f_X12_sign
      simp only [lit]
      simp (disch := omega) only [zb_s, nI_add, ↓S_ck422 hs, t_tk1 hs h, if_T, if_neg, nEq]
termination_by f => f
theorem t_tm (hs : Sy g) (h : TR o M T D V P) (hn : 3000 < n) {part : Nat → Nat → RS} (ok : OkS T part) {dp : Int32} (hr : RDs g M T P part (f_X12_readPart n kH 422 dp)) : RDs g M T P (pCh D part isTi) (f_X12_readTerm n kH 422 dp) := by
  have hT := h.2.1.1
  refine ⟨fun t l x ml hx => ?_, fun i p hi hp ml => ?_⟩
  · unfold f_X12_readTerm
    rw [S_ck422 hs, hr.1 t l x ml hx, zb_s]
    exact t_tlb hs hx (by omega)
  obtain ⟨k1, k2⟩ := hr.2 i p hi hp ml
  have U : f_X12_readTerm n kH 422 dp (g, Mt M (nI i) (nI p) m1, ml) = zb (f_X12_readPart n kH 422 dp (g, Mt M (nI i) (nI p) m1, ml)) fun _ h2 => zlp2 (fb_X12_readTerm_5 n kH) n 422 dp h2 := S_ck422 hs
  unfold pCh
  cases hc : part i p with
  | error q' =>
    rw [hc] at k1 k2
    obtain ⟨s1, t, l, s2⟩ := k2 q' rfl
    refine ⟨fun j p' he => absurd he (by simp [pS]), fun q he => ?_⟩
    have he : (Except.error q' : Except Nat (Nat × Nat)) = .error q := he
    injection he with he
    subst he
    refine ⟨s1, t, l, ?_⟩
    rw [U, s2, zb_s]
    exact t_tlb hs (t_pb h s1) (by omega)
  | ok x =>
    obtain ⟨j1, p1, c1, d1⟩ := x
    rw [hc] at k1 k2
    obtain ⟨a1, a2, a3, a4, a5, a6⟩ := ok _ _ _ _ _ _ hi hp hc
    obtain ⟨m1, m2⟩ := t_tl hs h ok hr 401 j1 p1 c1 d1 n ml a2 a4 (by omega) (by omega)
    rw [U, k1 j1 p1 rfl, zb_s]
    refine ⟨fun j p' he => ?_, fun q he => m2 q (pS_e he)⟩
    obtain ⟨c, d, he⟩ := pS_o he
    exact m1 _ _ _ _ he
theorem t_slb (hs : Sy g) {t l x : Int32} {ml : Nat → Nat → Int64} (hx : x ≠ m1) {dp : Int32} {ff : Nat} (hf : 0 < ff) : zlp2 (fb_X12_readSum_5 n kH) ff 422 dp (g, Mt M t l x, ml) = some ((), (g, Mt M t l x, ml)) := by
  obtain ⟨f, rfl⟩ : ∃ f, ff = f + 1 := ⟨ff - 1, by omega⟩
  show fb_X12_readSum_5 n kH (zlp2 (fb_X12_readSum_5 n kH) f) 422 dp _ = _
  generalize zlp2 (fb_X12_readSum_5 n kH) f = kk
  unfold fb_X12_readSum_5 f_X12_sign
  simp only [lit]
  simp (disch := omega) only [↓S_ck422 hs, zb_s, t_tk0 hs hx, if_T]
theorem t_sl (hs : Sy g) (h : TR o M T D V P) {part : Nat → Nat → RS} (ok : OkS T part) {dp : Int32} (hr : RDs g M T P part (f_X12_readTerm n kH 422 dp)) : ∀ (f i p : Nat) (c : List (Nat × Nat)) (d : DS) (ff : Nat) (ml : Nat → Nat → Int64), i ≤ T → p ≤ 50 → T < i + f → T < i + ff → (∀ j p' c' d', pLp D part isLo f (i, p, c, d) = .ok (j, p', c', d') → zlp2 (fb_X12_readSum_5 n kH) ff 422 dp (g, Mt M (nI i) (nI p) m1, ml) = some ((), (g, Mt M (nI j) (nI p') m1, ml))) ∧ ∀ q, pLp D part isLo f (i, p, c, d) = .error q → q ≤ T ∧ ∃ t l, zlp2 (fb_X12_readSum_5 n kH) ff 422 dp (g, Mt M (nI i) (nI p) m1, ml) = some ((), (g, Mt M t l (nI (P q)), ml))
  | 0, i, p, c, d, ff, ml, h1, _, h2, _ => absurd h2 (by omega)
  | f + 1, i, p, c, d, 0, ml, h1, _, _, h2 => absurd h2 (by omega)
  | f + 1, i, p, c, d, ff + 1, ml, hi, hp, hf, hff => by
    have hT := h.2.1.1
    have hD := h.2.1.2.2 i
    unfold pLp
    by_cases q : isLo (D i) = true
    · simp only [q, if_T]
      rw [lo_c] at q
      have hi' : i < T := by
        rcases Nat.lt_or_eq_of_le hi with z | z
        · exact z
        · rw [z, h.2.1.2.1] at q; omega
      obtain ⟨k1, k2⟩ := hr.2 (i + 1) p (by omega) hp ml
      have U : zlp2 (fb_X12_readSum_5 n kH) (ff + 1) 422 dp (g, Mt M (nI i) (nI p) m1, ml) = zb (f_X12_readTerm n kH 422 dp (g, Mt M (nI (i + 1)) (nI p) m1, ml)) fun _ h2 => zlp2 (fb_X12_readSum_5 n kH) ff 422 dp h2 := by
        show fb_X12_readSum_5 n kH (zlp2 (fb_X12_readSum_5 n kH) ff) 422 dp _ = _
        generalize zlp2 (fb_X12_readSum_5 n kH) ff = kk
        unfold fb_X12_readSum_5 fb_X12_readSum_29 f_X12_sign
        simp only [lit]
        rcases q with q | q
        · simp (disch := omega) only [zb_s, nI_add, ↓S_ck422 hs, t_tk1 hs h, q, if_T, if_neg, nEq]
        · simp (disch := omega) only [zb_s, nI_add, ↓S_ck422 hs, t_tk1 hs h, q, if_T, if_neg, nEq]
      cases hc : part (i + 1) p with
      | error q' =>
        rw [hc] at k1 k2
        obtain ⟨s1, t, l, s2⟩ := k2 q' rfl
        refine ⟨fun j p' c' d' he => absurd he (by simp), fun q he => ?_⟩
        injection he with he
        subst he
        refine ⟨s1, t, l, ?_⟩
        rw [U, s2, zb_s]
        exact t_slb hs (t_pb h s1) (by omega)
      | ok x =>
        obtain ⟨j1, p1, c1, d1⟩ := x
        rw [hc] at k1 k2
        obtain ⟨a1, a2, a3, a4, a5, a6⟩ := ok _ _ _ _ _ _ (by omega) hp hc
        rw [U, k1 j1 p1 rfl, zb_s]
        exact t_sl hs h ok hr f j1 p1 _ _ ff ml a2 a4 (by omega) (by omega)
    · have q' := q
      rw [lo_c] at q'
      simp only [q, if_F, Bool.false_eq_true]
      refine ⟨fun j p' c' d' he => ?_, fun q he => absurd he (by simp)⟩
      injection he with he
      injection he with e1 e2
      injection e2 with e2 e3
      subst e1
      subst e2
      show fb_X12_readSum_5 n kH (zlp2 (fb_X12_readSum_5 n kH) ff) 422 dp _ = _
      generalize zlp2 (fb_X12_readSum_5 n kH) ff = kk
      unfold fb_X12_readSum_5 fb_X12_readSum_29 f_X12_sign
      simp only [lit]
      simp (disch := omega) only [zb_s, nI_add, ↓S_ck422 hs, t_tk1 hs h, if_T, if_neg, nEq]
termination_by f => f
theorem t_sm (hs : Sy g) (h : TR o M T D V P) (hn : 3000 < n) {part : Nat → Nat → RS} (ok : OkS T part) {dp : Int32} (hr : RDs g M T P part (f_X12_readTerm n kH 422 dp)) : RDs g M T P (pCh D part isLo) (fB_X12_readSum n kH 422 dp) := by
  have hT := h.2.1.1
  refine ⟨fun t l x ml hx => ?_, fun i p hi hp ml => ?_⟩
  · unfold fB_X12_readSum
    rw [S_ck422 hs, hr.1 t l x ml hx, zb_s]
    exact t_slb hs hx (by omega)
  obtain ⟨k1, k2⟩ := hr.2 i p hi hp ml
  have U : fB_X12_readSum n kH 422 dp (g, Mt M (nI i) (nI p) m1, ml) = zb (f_X12_readTerm n kH 422 dp (g, Mt M (nI i) (nI p) m1, ml)) fun _ h2 => zlp2 (fb_X12_readSum_5 n kH) n 422 dp h2 := S_ck422 hs
  unfold pCh
  cases hc : part i p with
  | error q' =>
    rw [hc] at k1 k2
    obtain ⟨s1, t, l, s2⟩ := k2 q' rfl
    refine ⟨fun j p' he => absurd he (by simp [pS]), fun q he => ?_⟩
    have he : (Except.error q' : Except Nat (Nat × Nat)) = .error q := he
    injection he with he
    subst he
    refine ⟨s1, t, l, ?_⟩
    rw [U, s2, zb_s]
    exact t_slb hs (t_pb h s1) (by omega)
  | ok x =>
    obtain ⟨j1, p1, c1, d1⟩ := x
    rw [hc] at k1 k2
    obtain ⟨a1, a2, a3, a4, a5, a6⟩ := ok _ _ _ _ _ _ hi hp hc
    obtain ⟨m1, m2⟩ := t_sl hs h ok hr 401 j1 p1 c1 d1 n ml a2 a4 (by omega) (by omega)
    rw [U, k1 j1 p1 rfl, zb_s]
    refine ⟨fun j p' he => ?_, fun q he => m2 q (pS_e he)⟩
    obtain ⟨c, d, he⟩ := pS_o he
    exact m1 _ _ _ _ he
theorem t_sum (hs : Sy g) (h : TR o M T D V P) (hn : 3000 < n) : ∀ (r dp t : Nat), dp + r = 8 → r < t → RDs g M T P (pSum o D V r) (f_X12_readSum n t 422 (nI dp))
  | r, dp, 0, _, ht => absurd ht (by omega)
  | 0, dp, t + 1, hd, ht => t_sm (kH := f_X12_readSum n t) hs h hn (ok_ch h.2.1.2.1 (ok_part h.2.1.2.1 ok_e) rfl) (t_tm hs h hn (ok_part h.2.1.2.1 ok_e) (t_part hs h ok_e hd (fun _ _ _ => rfl) (fun z => absurd z (by omega))))
  | r + 1, dp, t + 1, hd, ht => t_sm (kH := f_X12_readSum n t) hs h hn (ok_ch h.2.1.2.1 (ok_part h.2.1.2.1 (ok_sum h.2.1.2.1 r)) rfl) (t_tm hs h hn (ok_part h.2.1.2.1 (ok_sum h.2.1.2.1 r)) (t_part (r := r + 1) hs h (ok_sum h.2.1.2.1 r) hd (fun z => absurd z (by omega)) (fun _ => t_sum hs h hn r (dp + 1) t (by omega) (by omega))))
end
