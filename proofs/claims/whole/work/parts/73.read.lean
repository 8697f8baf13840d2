/-! the plain form reads tests -/
theorem pFin_p {b : Bool} {j p k : Nat} {c : Nat → List (Nat × Nat)} {d : DT} : pT (pFin b j p k c d) = .ok (j, p) := by
  unfold pFin
  cases b <;> rfl
section
variable {g : zS} {M : Nat → Nat → Int32} {n T : Nat} {D V P : Nat → Nat} {o : Bool} {kH : Nat → Int32 → zH → Option (Unit × zH)}
theorem t_nots (hs : Sy g) (h : TR o M T D V P) {dp l : Int32} {ml : Nat → Nat → Int64} : ∀ (f i ff : Nat) (b : Bool), i ≤ T → T < i + f → T + 1 < i + ff → zlp3 (fb_X12_readPlain_2 n kH) ff 422 dp (nI 1) (g, Mt M (nI i) l m1, ml) = fb_X12_readPlain_16 n kH 422 dp (g, Mt M (nI (pNots D f i b).1) l m1, ml)
  | 0, i, ff, b, h1, h2, _ => absurd h2 (by omega)
  | f + 1, i, 0, b, h1, _, h2 => absurd h2 (by omega)
  | f + 1, i, ff + 1, b, hi, hf, hff => by
    have hT := h.2.1.1
    show fb_X12_readPlain_2 n kH (zlp3 (fb_X12_readPlain_2 n kH) ff) 422 dp (nI 1) _ = _
    unfold pNots
    by_cases q : D i = 6
    · have hi' : i < T := by
        rcases Nat.lt_or_eq_of_le hi with z | z
        · exact z
        · rw [z, h.2.1.2.1] at q; omega
      have ih := t_nots hs h (dp := dp) (l := l) (ml := ml) f (i + 1) ff (!b) (by omega) (by omega) (by omega)
      simp only [q, if_T]
      rw [← ih]
      generalize zlp3 (fb_X12_readPlain_2 n kH) ff = kk
      unfold fb_X12_readPlain_2
      simp only [lit]
      simp (disch := omega) only [nEq, if_neg, ↓S_ck422 hs, t_tk1 hs h, q, if_T, zb_s]
    · simp only [q, if_F]
      obtain ⟨f2, rfl⟩ : ∃ f2, ff = f2 + 1 := ⟨ff - 1, by omega⟩
      generalize hE : fb_X12_readPlain_16 n kH 422 dp (g, Mt M (nI i) l m1, ml) = E
      have e2 : zlp3 (fb_X12_readPlain_2 n kH) (f2 + 1) 422 dp (nI 0) (g, Mt M (nI i) l m1, ml) = E := by
        show fb_X12_readPlain_2 n kH (zlp3 (fb_X12_readPlain_2 n kH) f2) 422 dp (nI 0) _ = _
        unfold fb_X12_readPlain_2
        simp only [lit]
        simp (disch := omega) only [if_T, hE]
      rw [← e2]
      generalize zlp3 (fb_X12_readPlain_2 n kH) (f2 + 1) = kk
      unfold fb_X12_readPlain_2
      simp only [lit]
      simp (disch := omega) only [nEq, if_neg, ↓S_ck422 hs, t_tk1 hs h, q, if_F, zb_s]
theorem t_pln (hs : Sy g) (h : TR o M T D V P) (hn : 3000 < n) {sub : Nat → Nat → RT} {sum : Nat → Nat → RS} (okt : OkT T sub) (ok : OkS T sum) {dp r : Nat} (hd : dp + r = 8) (h0 : r = 0 → ∀ i p, sub i p = .error (i - 1)) (hk : 0 < r → RDt g M T P sub (kH 422 (nI (dp + 1)))) (hr : RDs g M T P sum (f_X12_readSum n 12 422 (nI dp))) : RDt g M T P (pPln D sub sum) (f_X12_readPlain n kH 422 (nI dp)) := by
  have hT := h.2.1.1
  have b16 : ∀ t l x ml, x ≠ m1 → fb_X12_readPlain_16 n kH 422 (nI dp) (g, Mt M t l x, ml) = some ((), (g, Mt M t l x, ml)) := by
    intro t l x ml hx
    unfold fb_X12_readPlain_16
    simp only [lit]
    simp (disch := omega) only [↓S_ck422 hs, t_fine0 hs hx, zb_s, if_T]
  refine ⟨fun t l x ml hx => ?_, fun i p hi hp ml => ?_⟩
  · unfold f_X12_readPlain
    obtain ⟨f, rfl⟩ : ∃ f, n = f + 2 := ⟨n - 2, by omega⟩
    show fb_X12_readPlain_2 (f + 2) kH (zlp3 (fb_X12_readPlain_2 (f + 2) kH) (f + 1)) 422 (nI dp) (nI 1) _ = _
    have e2 : zlp3 (fb_X12_readPlain_2 (f + 2) kH) (f + 1) 422 (nI dp) (nI 0) (g, Mt M t l x, ml) = some ((), (g, Mt M t l x, ml)) := by
      show fb_X12_readPlain_2 (f + 2) kH (zlp3 (fb_X12_readPlain_2 (f + 2) kH) f) 422 (nI dp) (nI 0) _ = _
      unfold fb_X12_readPlain_2
      simp only [lit]
      simp (disch := omega) only [if_T, b16 t l x ml hx]
    generalize zlp3 (fb_X12_readPlain_2 (f + 2) kH) (f + 1) = kk at e2 ⊢
    unfold fb_X12_readPlain_2
    simp only [lit]
    simp (disch := omega) only [nEq, if_neg, ↓S_ck422 hs, t_tk0 hs hx, zb_s, e2]
  obtain ⟨n1, n2, n3⟩ := ok_nots h.2.1.2.1 401 i false hi
  have hN := t_nots (kH := kH) (n := n) hs h (dp := nI dp) (l := nI p) (ml := ml) 401 i n false hi (by omega) (by omega)
  have hF : f_X12_readPlain n kH 422 (nI dp) (g, Mt M (nI i) (nI p) m1, ml) = fb_X12_readPlain_16 n kH 422 (nI dp) (g, Mt M (nI (pNots D 401 i false).1) (nI p) m1, ml) := hN
  rw [hF]
  unfold pPln
  generalize (pNots D 401 i false).1 = i1 at n1 n2
  generalize (pNots D 401 i false).2 = bt
  have hD1 := h.2.1.2.2 i1
  have fin : ∀ j1 p1 k1 c1 d1, fb_X12_readPlain_16 n kH 422 (nI dp) (g, Mt M (nI i1) (nI p) m1, ml) = some ((), (g, Mt M (nI j1) (nI p1) m1, ml)) → (∀ j p', pT (pFin bt j1 p1 k1 c1 d1) = .ok (j, p') → fb_X12_readPlain_16 n kH 422 (nI dp) (g, Mt M (nI i1) (nI p) m1, ml) = some ((), (g, Mt M (nI j) (nI p') m1, ml))) ∧ ∀ q, pT (pFin bt j1 p1 k1 c1 d1) = .error q → q ≤ T ∧ ∃ t l, fb_X12_readPlain_16 n kH 422 (nI dp) (g, Mt M (nI i1) (nI p) m1, ml) = some ((), (g, Mt M t l (nI (P q)), ml)) := by
    intro j1 p1 k1 c1 d1 e1
    rw [pFin_p]
    refine ⟨fun j p' he => ?_, fun q he => absurd he (by simp)⟩
    injection he with he
    injection he with e2 e3
    subst e2
    subst e3
    exact e1
  have finE : ∀ j1 t l, j1 ≤ T → fb_X12_readPlain_16 n kH 422 (nI dp) (g, Mt M (nI i1) (nI p) m1, ml) = some ((), (g, Mt M t l (nI (P j1)), ml)) → (∀ j p', pT (.error j1) = .ok (j, p') → fb_X12_readPlain_16 n kH 422 (nI dp) (g, Mt M (nI i1) (nI p) m1, ml) = some ((), (g, Mt M (nI j) (nI p') m1, ml))) ∧ ∀ q, pT (.error j1) = .error q → q ≤ T ∧ ∃ t l, fb_X12_readPlain_16 n kH 422 (nI dp) (g, Mt M (nI i1) (nI p) m1, ml) = some ((), (g, Mt M t l (nI (P q)), ml)) := by
    intro j1 t l hj e1
    refine ⟨fun j p' he => absurd he (by simp [pT]), fun q he => ?_⟩
    have he : (Except.error j1 : Except Nat (Nat × Nat)) = .error q := he
    injection he with he
    subst he
    exact ⟨hj, t, l, e1⟩
  unfold pPos
  by_cases q1 : D i1 = 140
  · rw [if_pos q1]
    have hi' : i1 < T := by
      rcases Nat.lt_or_eq_of_le n2 with z | z
      · exact z
      · rw [z, h.2.1.2.1] at q1; exact absurd q1 (by decide)
    by_cases z : dp = 8
    · rw [h0 (by omega)]
      have e : i1 + 1 - 1 = i1 := by omega
      rw [e]
      refine finE i1 (nI i1) (nI p) n2 ?_
      unfold fb_X12_readPlain_16 fb_X12_readPlain_53 f_X12_sign
      simp only [lit]
      simp (disch := omega) only [↓S_ck422 hs, t_fine1 hs, zb_s, nEq, if_neg, ↓S_gR422_15 hs, ↓t_tk hs, ↓t_cd hs h n2, nI_add, q1, if_T, z, t_fl1 hs h n2, t_fine0 hs (t_pb h n2)]
    · have U : ∀ X, (zck (g, Mt M (nI (i1 + 1)) (nI p) m1, ml) 13 422 (zb (kH 422 (nI (dp + 1)) (g, Mt M (nI (i1 + 1)) (nI p) m1, ml)) fun _ h6 => zb (f_X12_sign n (nI 41) h6) fun r7 h8 => zck h8 13 422 (zb (f_X12_must n 422 r7 h8) fun _ h10 => some ((), h10)))) = X → fb_X12_readPlain_16 n kH 422 (nI dp) (g, Mt M (nI i1) (nI p) m1, ml) = X := by
        intro X hX
        unfold fb_X12_readPlain_16 fb_X12_readPlain_53
        have hsg : ∀ h : zH, f_X12_sign n (nI 40) h = some (nI 140, h) := fun h => rfl
        simp only [lit]
        simp (disch := omega) only [↓S_ck422 hs, t_fine1 hs, zb_s, nEq, if_neg, ↓S_gR422_15 hs, ↓t_tk hs, ↓t_cd hs h n2, nI_add, q1, if_T, ↓t_ptk hs, hsg]
        rw [S_ck422 hs] at hX
        exact hX
      have hsg : ∀ h : zH, f_X12_sign n (nI 41) h = some (nI 141, h) := fun h => rfl
      obtain ⟨kb, kx⟩ := hk (by omega)
      obtain ⟨k1, k2⟩ := kx (i1 + 1) p (by omega) hp ml
      cases hc : sub (i1 + 1) p with
      | error q' =>
        rw [hc] at k1 k2
        obtain ⟨s1, t, l, s2⟩ := k2 q' rfl
        refine finE q' t l s1 (U _ ?_)
        rw [S_ck422 hs, s2, zb_s, hsg, zb_s, S_ck422 hs, t_mu0 hs (t_pb h s1)]
        rfl
      | ok x =>
        obtain ⟨j1, p1, k0, c1, d1⟩ := x
        rw [hc] at k1 k2
        obtain ⟨a1, a2, a3, a4, a5, a6, a7⟩ := okt _ _ _ _ _ _ _ (by omega) hp hc
        have s2 := k1 j1 p1 rfl
        have U2 : fb_X12_readPlain_16 n kH 422 (nI dp) (g, Mt M (nI i1) (nI p) m1, ml) = if D j1 = 141 then some ((), (g, Mt M (nI (j1 + 1)) (nI p1) m1, ml)) else some ((), (g, Mt M (nI j1) (nI p1) (nI (P j1)), ml)) := U _ (by
          rw [S_ck422 hs, s2, zb_s, hsg, zb_s, S_ck422 hs, t_mu1 hs h a2 (by decide), zb_iu])
        dsimp only
        by_cases q2 : D j1 = 141
        · rw [if_pos q2] at U2 ⊢
          exact fin _ _ _ _ _ U2
        · rw [if_neg q2] at U2 ⊢
          exact finE _ _ _ a2 U2
  · rw [if_neg q1]
    have U : ∀ X, (zck (g, Mt M (nI i1) (nI p) m1, ml) 13 422 (zb (f_X12_readSum n 12 422 (nI dp) (g, Mt M (nI i1) (nI p) m1, ml)) fun _ h9 => zb (f_X12_sign n (nI 60) h9) fun r10 h11 => zck h11 13 422 (zb (f_X12_takes0 n 422 r10 h11) fun r12 h13 => if r12 = nI 0 then (zb (f_X12_sign n (nI 62) h13) fun r14 h15 => zck h15 13 422 (zb (f_X12_takes0 n 422 r14 h15) fun r16 h17 => if r16 = nI 0 then (zb (f_X12_sign n (nI 61) h17) fun r18 h19 => zck h19 13 422 (zb (f_X12_must n 422 r18 h19) fun _ h21 => fb_X12_readPlain_128 n kH 422 (nI dp) h21)) else fb_X12_readPlain_128 n kH 422 (nI dp) h17)) else fb_X12_readPlain_128 n kH 422 (nI dp) h13))) = X → fb_X12_readPlain_16 n kH 422 (nI dp) (g, Mt M (nI i1) (nI p) m1, ml) = X := by
      intro X hX
      rw [← hX]
      unfold fb_X12_readPlain_16
      have hsg : ∀ h : zH, f_X12_sign n (nI 40) h = some (nI 140, h) := fun h => rfl
      simp only [lit]
      simp (disch := omega) only [↓S_ck422 hs, t_fine1 hs, zb_s, nEq, if_neg, ↓S_gR422_15 hs, ↓t_tk hs, ↓t_cd hs h n2, hsg]
      rfl
    have g60 : ∀ h : zH, f_X12_sign n (nI 60) h = some (nI 160, h) := fun h => rfl
    have g62 : ∀ h : zH, f_X12_sign n (nI 62) h = some (nI 162, h) := fun h => rfl
    have g61 : ∀ h : zH, f_X12_sign n (nI 61) h = some (nI 161, h) := fun h => rfl
    have b128 : ∀ t l x, x ≠ m1 → fb_X12_readPlain_128 n kH 422 (nI dp) (g, Mt M t l x, ml) = some ((), (g, Mt M t l x, ml)) := by
      intro t l x hx
      unfold fb_X12_readPlain_128
      rw [S_ck422 hs, hr.1 t l x ml hx, zb_s]
    obtain ⟨k1, k2⟩ := hr.2 i1 p n2 hp ml
    cases hc : sum i1 p with
    | error q' =>
      rw [hc] at k1 k2
      obtain ⟨s1, t, l, s2⟩ := k2 q' rfl
      have hx := t_pb h s1
      refine finE q' t l s1 (U _ ?_)
      simp (disch := omega) only [↓S_ck422 hs, s2, zb_s, g60, g62, g61, t_tk0 hs hx, if_T, t_mu0 hs hx, b128 t l _ hx]
    | ok x =>
      obtain ⟨j1, p1, c1, d1⟩ := x
      rw [hc] at k1 k2
      obtain ⟨a1, a2, a3, a4, a5, a6⟩ := ok _ _ _ _ _ _ n2 hp hc
      have hDj := h.2.1.2.2 j1
      have s2 := k1 j1 p1 rfl
      dsimp only
      by_cases q2 : D j1 = 160 ∨ D j1 = 162 ∨ D j1 = 161
      · rw [if_pos q2]
        have hj : j1 < T := by
          rcases Nat.lt_or_eq_of_le a2 with z | z
          · exact z
          · rw [z, h.2.1.2.1] at q2; omega
        have U2 : fb_X12_readPlain_16 n kH 422 (nI dp) (g, Mt M (nI i1) (nI p) m1, ml) = f_X12_readSum n 12 422 (nI dp) (g, Mt M (nI (j1 + 1)) (nI p1) m1, ml) := by
          have e128 : fb_X12_readPlain_128 n kH 422 (nI dp) (g, Mt M (nI (j1 + 1)) (nI p1) m1, ml) = f_X12_readSum n 12 422 (nI dp) (g, Mt M (nI (j1 + 1)) (nI p1) m1, ml) := by
            unfold fb_X12_readPlain_128
            rw [S_ck422 hs, zb_iu]
          refine U _ ?_
          rcases q2 with y | y | y
          · simp (disch := omega) only [↓S_ck422 hs, s2, zb_s, g60, t_tk1 hs h a2, y, if_T, nEq, if_neg, e128]
          · simp (disch := omega) only [↓S_ck422 hs, s2, zb_s, g60, g62, t_tk1 hs h a2, y, if_T, nEq, if_neg, e128]
          · simp (disch := omega) only [↓S_ck422 hs, s2, zb_s, g60, g62, g61, t_tk1 hs h a2, t_mu1 hs h a2, y, if_T, nEq, if_neg, e128]
        obtain ⟨m1, m2⟩ := hr.2 (j1 + 1) p1 (by omega) a4 ml
        cases hc2 : sum (j1 + 1) p1 with
        | error q' =>
          rw [hc2] at m1 m2
          obtain ⟨s3, t, l, s4⟩ := m2 q' rfl
          exact finE q' t l s3 (U2.trans s4)
        | ok x =>
          obtain ⟨j2, p2, c2, d2⟩ := x
          rw [hc2] at m1 m2
          exact fin _ _ _ _ _ (U2.trans (m1 j2 p2 rfl))
      · rw [if_neg q2]
        refine finE j1 (nI j1) (nI p1) a2 (U _ ?_)
        have hx := t_pb h a2
        simp (disch := omega) only [↓S_ck422 hs, s2, zb_s, g60, g62, g61, t_tk1 hs h a2, t_mu1 hs h a2, if_T, if_neg, b128 _ _ _ hx]
theorem t_blb (hs : Sy g) {t l x : Int32} {ml : Nat → Nat → Int64} (hx : x ≠ m1) {dp : Int32} {ff : Nat} (hf : 0 < ff) : zlp2 (fb_X12_readBoth_5 n kH) ff 422 dp (g, Mt M t l x, ml) = some ((), (g, Mt M t l x, ml)) := by
  obtain ⟨f, rfl⟩ : ∃ f, ff = f + 1 := ⟨ff - 1, by omega⟩
  show fb_X12_readBoth_5 n kH (zlp2 (fb_X12_readBoth_5 n kH) f) 422 dp _ = _
  generalize zlp2 (fb_X12_readBoth_5 n kH) f = kk
  unfold fb_X12_readBoth_5
  simp only [lit]
  simp (disch := omega) only [↓S_ck422 hs, zb_s, t_tk0 hs hx, if_T]
theorem t_bl (hs : Sy g) (h : TR o M T D V P) {sub : Nat → Nat → RT} (ok : OkT T sub) {dp : Int32} {s : Nat} {x : Bool} (hr : RDt g M T P sub (f_X12_readPlain n kH 422 dp)) : ∀ (f i p k : Nat) (c : Nat → List (Nat × Nat)) (d : DT) (ff : Nat) (ml : Nat → Nat → Int64), i ≤ T → p ≤ 50 → T < i + f → T < i + ff → (∀ j p' k' c' d', pJp D sub 5 s x f (i, p, k, c, d) = .ok (j, p', k', c', d') → zlp2 (fb_X12_readBoth_5 n kH) ff 422 dp (g, Mt M (nI i) (nI p) m1, ml) = some ((), (g, Mt M (nI j) (nI p') m1, ml))) ∧ ∀ q, pJp D sub 5 s x f (i, p, k, c, d) = .error q → q ≤ T ∧ ∃ t l, zlp2 (fb_X12_readBoth_5 n kH) ff 422 dp (g, Mt M (nI i) (nI p) m1, ml) = some ((), (g, Mt M t l (nI (P q)), ml))
  | 0, i, p, k, c, d, ff, ml, h1, _, h2, _ => absurd h2 (by omega)
  | f + 1, i, p, k, c, d, 0, ml, h1, _, _, h2 => absurd h2 (by omega)
  | f + 1, i, p, k, c, d, ff + 1, ml, hi, hp, hf, hff => by
    have hT := h.2.1.1
    have hD := h.2.1.2.2 i
    unfold pJp
    by_cases q : D i = 5
    · simp only [q, if_T]
      have hi' : i < T := by
        rcases Nat.lt_or_eq_of_le hi with z | z
        · exact z
        · rw [z, h.2.1.2.1] at q; omega
      obtain ⟨k1, k2⟩ := hr.2 (i + 1) p (by omega) hp ml
      have U : zlp2 (fb_X12_readBoth_5 n kH) (ff + 1) 422 dp (g, Mt M (nI i) (nI p) m1, ml) = zb (f_X12_readPlain n kH 422 dp (g, Mt M (nI (i + 1)) (nI p) m1, ml)) fun _ h2 => zlp2 (fb_X12_readBoth_5 n kH) ff 422 dp h2 := by
        show fb_X12_readBoth_5 n kH (zlp2 (fb_X12_readBoth_5 n kH) ff) 422 dp _ = _
        generalize zlp2 (fb_X12_readBoth_5 n kH) ff = kk
        unfold fb_X12_readBoth_5
        simp only [lit]
        simp (disch := omega) only [zb_s, ↓S_ck422 hs, t_tk1 hs h, q, if_T, if_neg, nEq]
      cases hc : sub (i + 1) p with
      | error q' =>
        rw [hc] at k1 k2
        obtain ⟨s1, t, l, s2⟩ := k2 q' rfl
        refine ⟨fun j p' k' c' d' he => absurd he (by simp), fun q he => ?_⟩
        injection he with he
        subst he
        refine ⟨s1, t, l, ?_⟩
        rw [U, s2, zb_s]
        exact t_blb hs (t_pb h s1) (by omega)
      | ok y =>
        obtain ⟨j1, p1, k0, c1, d1⟩ := y
        rw [hc] at k1 k2
        obtain ⟨a1, a2, a3, a4, a5, a6, a7⟩ := ok _ _ _ _ _ _ _ (by omega) hp hc
        rw [U, k1 j1 p1 rfl, zb_s]
        exact t_bl hs h ok hr f j1 p1 _ _ _ ff ml a2 a4 (by omega) (by omega)
    · simp only [q, if_F]
      refine ⟨fun j p' k' c' d' he => ?_, fun q he => absurd he (by simp)⟩
      injection he with he
      injection he with e1 e2
      injection e2 with e2 e3
      subst e1
      subst e2
      show fb_X12_readBoth_5 n kH (zlp2 (fb_X12_readBoth_5 n kH) ff) 422 dp _ = _
      generalize zlp2 (fb_X12_readBoth_5 n kH) ff = kk
      unfold fb_X12_readBoth_5
      simp only [lit]
      simp (disch := omega) only [zb_s, ↓S_ck422 hs, t_tk1 hs h, q, if_T, if_F]
termination_by f => f
theorem t_bo (hs : Sy g) (h : TR o M T D V P) (hn : 3000 < n) {sub : Nat → Nat → RT} (ok : OkT T sub) {dp : Int32} {s : Nat} {x : Bool} (hr : RDt g M T P sub (f_X12_readPlain n kH 422 dp)) : RDt g M T P (pJn D sub 5 s x) (f_X12_readBoth n kH 422 dp) := by
  have hT := h.2.1.1
  refine ⟨fun t l x ml hx => ?_, fun i p hi hp ml => ?_⟩
  · unfold f_X12_readBoth
    rw [S_ck422 hs, hr.1 t l x ml hx, zb_s]
    exact t_blb hs hx (by omega)
  obtain ⟨k1, k2⟩ := hr.2 i p hi hp ml
  have U : f_X12_readBoth n kH 422 dp (g, Mt M (nI i) (nI p) m1, ml) = zb (f_X12_readPlain n kH 422 dp (g, Mt M (nI i) (nI p) m1, ml)) fun _ h2 => zlp2 (fb_X12_readBoth_5 n kH) n 422 dp h2 := S_ck422 hs
  unfold pJn
  cases hc : sub i p with
  | error q' =>
    rw [hc] at k1 k2
    obtain ⟨s1, t, l, s2⟩ := k2 q' rfl
    refine ⟨fun j p' he => absurd he (by simp [pT]), fun q he => ?_⟩
    have he : (Except.error q' : Except Nat (Nat × Nat)) = .error q := he
    injection he with he
    subst he
    refine ⟨s1, t, l, ?_⟩
    rw [U, s2, zb_s]
    exact t_blb hs (t_pb h s1) (by omega)
  | ok y =>
    obtain ⟨j1, p1, k0, c1, d1⟩ := y
    rw [hc] at k1 k2
    obtain ⟨a1, a2, a3, a4, a5, a6, a7⟩ := ok _ _ _ _ _ _ _ hi hp hc
    obtain ⟨m1, m2⟩ := t_bl (s := s) (x := x) hs h ok hr 401 j1 p1 k0 c1 d1 n ml a2 a4 (by omega) (by omega)
    rw [U, k1 j1 p1 rfl, zb_s]
    refine ⟨fun j p' he => ?_, fun q he => m2 q (pT_e he)⟩
    obtain ⟨k, c, d, he⟩ := pT_o he
    exact m1 _ _ _ _ _ he
theorem t_olb (hs : Sy g) {t l x : Int32} {ml : Nat → Nat → Int64} (hx : x ≠ m1) {dp : Int32} {ff : Nat} (hf : 0 < ff) : zlp2 (fb_X12_readTest_5 n kH) ff 422 dp (g, Mt M t l x, ml) = some ((), (g, Mt M t l x, ml)) := by
  obtain ⟨f, rfl⟩ : ∃ f, ff = f + 1 := ⟨ff - 1, by omega⟩
  show fb_X12_readTest_5 n kH (zlp2 (fb_X12_readTest_5 n kH) f) 422 dp _ = _
  generalize zlp2 (fb_X12_readTest_5 n kH) f = kk
  unfold fb_X12_readTest_5
  simp only [lit]
  simp (disch := omega) only [↓S_ck422 hs, zb_s, t_tk0 hs hx, if_T]
theorem t_ol (hs : Sy g) (h : TR o M T D V P) {sub : Nat → Nat → RT} (ok : OkT T sub) {dp : Int32} {s : Nat} {x : Bool} (hr : RDt g M T P sub (f_X12_readBoth n kH 422 dp)) : ∀ (f i p k : Nat) (c : Nat → List (Nat × Nat)) (d : DT) (ff : Nat) (ml : Nat → Nat → Int64), i ≤ T → p ≤ 50 → T < i + f → T < i + ff → (∀ j p' k' c' d', pJp D sub 4 s x f (i, p, k, c, d) = .ok (j, p', k', c', d') → zlp2 (fb_X12_readTest_5 n kH) ff 422 dp (g, Mt M (nI i) (nI p) m1, ml) = some ((), (g, Mt M (nI j) (nI p') m1, ml))) ∧ ∀ q, pJp D sub 4 s x f (i, p, k, c, d) = .error q → q ≤ T ∧ ∃ t l, zlp2 (fb_X12_readTest_5 n kH) ff 422 dp (g, Mt M (nI i) (nI p) m1, ml) = some ((), (g, Mt M t l (nI (P q)), ml))
  | 0, i, p, k, c, d, ff, ml, h1, _, h2, _ => absurd h2 (by omega)
  | f + 1, i, p, k, c, d, 0, ml, h1, _, _, h2 => absurd h2 (by omega)
  | f + 1, i, p, k, c, d, ff + 1, ml, hi, hp, hf, hff => by
    have hT := h.2.1.1
    have hD := h.2.1.2.2 i
    unfold pJp
    by_cases q : D i = 4
    · simp only [q, if_T]
      have hi' : i < T := by
        rcases Nat.lt_or_eq_of_le hi with z | z
        · exact z
        · rw [z, h.2.1.2.1] at q; omega
      obtain ⟨k1, k2⟩ := hr.2 (i + 1) p (by omega) hp ml
      have U : zlp2 (fb_X12_readTest_5 n kH) (ff + 1) 422 dp (g, Mt M (nI i) (nI p) m1, ml) = zb (f_X12_readBoth n kH 422 dp (g, Mt M (nI (i + 1)) (nI p) m1, ml)) fun _ h2 => zlp2 (fb_X12_readTest_5 n kH) ff 422 dp h2 := by
        show fb_X12_readTest_5 n kH (zlp2 (fb_X12_readTest_5 n kH) ff) 422 dp _ = _
        generalize zlp2 (fb_X12_readTest_5 n kH) ff = kk
        unfold fb_X12_readTest_5
        simp only [lit]
        simp (disch := omega) only [zb_s, ↓S_ck422 hs, t_tk1 hs h, q, if_T, if_neg, nEq]
      cases hc : sub (i + 1) p with
      | error q' =>
        rw [hc] at k1 k2
        obtain ⟨s1, t, l, s2⟩ := k2 q' rfl
        refine ⟨fun j p' k' c' d' he => absurd he (by simp), fun q he => ?_⟩
        injection he with he
        subst he
        refine ⟨s1, t, l, ?_⟩
        rw [U, s2, zb_s]
        exact t_olb hs (t_pb h s1) (by omega)
      | ok y =>
        obtain ⟨j1, p1, k0, c1, d1⟩ := y
        rw [hc] at k1 k2
        obtain ⟨a1, a2, a3, a4, a5, a6, a7⟩ := ok _ _ _ _ _ _ _ (by omega) hp hc
        rw [U, k1 j1 p1 rfl, zb_s]
        exact t_ol hs h ok hr f j1 p1 _ _ _ ff ml a2 a4 (by omega) (by omega)
    · simp only [q, if_F]
      refine ⟨fun j p' k' c' d' he => ?_, fun q he => absurd he (by simp)⟩
      injection he with he
      injection he with e1 e2
      injection e2 with e2 e3
      subst e1
      subst e2
      show fb_X12_readTest_5 n kH (zlp2 (fb_X12_readTest_5 n kH) ff) 422 dp _ = _
      generalize zlp2 (fb_X12_readTest_5 n kH) ff = kk
      unfold fb_X12_readTest_5
      simp only [lit]
      simp (disch := omega) only [zb_s, ↓S_ck422 hs, t_tk1 hs h, q, if_T, if_F]
termination_by f => f
theorem t_or (hs : Sy g) (h : TR o M T D V P) (hn : 3000 < n) {sub : Nat → Nat → RT} (ok : OkT T sub) {dp : Int32} {s : Nat} {x : Bool} (hr : RDt g M T P sub (f_X12_readBoth n kH 422 dp)) : RDt g M T P (pJn D sub 4 s x) (fB_X12_readTest n kH 422 dp) := by
  have hT := h.2.1.1
  refine ⟨fun t l x ml hx => ?_, fun i p hi hp ml => ?_⟩
  · unfold fB_X12_readTest
    rw [S_ck422 hs, hr.1 t l x ml hx, zb_s]
    exact t_olb hs hx (by omega)
  obtain ⟨k1, k2⟩ := hr.2 i p hi hp ml
  have U : fB_X12_readTest n kH 422 dp (g, Mt M (nI i) (nI p) m1, ml) = zb (f_X12_readBoth n kH 422 dp (g, Mt M (nI i) (nI p) m1, ml)) fun _ h2 => zlp2 (fb_X12_readTest_5 n kH) n 422 dp h2 := S_ck422 hs
  unfold pJn
  cases hc : sub i p with
  | error q' =>
    rw [hc] at k1 k2
    obtain ⟨s1, t, l, s2⟩ := k2 q' rfl
    refine ⟨fun j p' he => absurd he (by simp [pT]), fun q he => ?_⟩
    have he : (Except.error q' : Except Nat (Nat × Nat)) = .error q := he
    injection he with he
    subst he
    refine ⟨s1, t, l, ?_⟩
    rw [U, s2, zb_s]
    exact t_olb hs (t_pb h s1) (by omega)
  | ok y =>
    obtain ⟨j1, p1, k0, c1, d1⟩ := y
    rw [hc] at k1 k2
    obtain ⟨a1, a2, a3, a4, a5, a6, a7⟩ := ok _ _ _ _ _ _ _ hi hp hc
    obtain ⟨m1, m2⟩ := t_ol (s := s) (x := x) hs h ok hr 401 j1 p1 k0 c1 d1 n ml a2 a4 (by omega) (by omega)
    rw [U, k1 j1 p1 rfl, zb_s]
    refine ⟨fun j p' he => ?_, fun q he => m2 q (pT_e he)⟩
    obtain ⟨k, c, d, he⟩ := pT_o he
    exact m1 _ _ _ _ _ he
theorem t_test (hs : Sy g) (h : TR o M T D V P) (hn : 3000 < n) : ∀ (r dp t : Nat), dp + r = 8 → r < t → RDt g M T P (pTest o D V r) (f_X12_readTest n t 422 (nI dp))
  | r, dp, 0, _, ht => absurd ht (by omega)
  | 0, dp, t + 1, hd, ht => t_or (kH := f_X12_readTest n t) hs h hn (ok_jn h.2.1.2.1 (ok_pln h.2.1.2.1 ok_et (ok_sum h.2.1.2.1 0)) (by decide)) (t_bo hs h hn (ok_pln h.2.1.2.1 ok_et (ok_sum h.2.1.2.1 0)) (t_pln hs h hn ok_et (ok_sum h.2.1.2.1 0) hd (fun _ _ _ => rfl) (fun z => absurd z (by omega)) (t_sum hs h hn 0 dp 12 hd (by decide))))
  | r + 1, dp, t + 1, hd, ht => t_or (kH := f_X12_readTest n t) hs h hn (ok_jn h.2.1.2.1 (ok_pln h.2.1.2.1 (ok_test h.2.1.2.1 r) (ok_sum h.2.1.2.1 (r + 1))) (by decide)) (t_bo hs h hn (ok_pln h.2.1.2.1 (ok_test h.2.1.2.1 r) (ok_sum h.2.1.2.1 (r + 1))) (t_pln (r := r + 1) hs h hn (ok_test h.2.1.2.1 r) (ok_sum h.2.1.2.1 (r + 1)) hd (fun z => absurd z (by omega)) (fun _ => t_test hs h hn r (dp + 1) t (by omega) (by omega)) (t_sum hs h hn (r + 1) dp 12 hd (by omega))))
end
