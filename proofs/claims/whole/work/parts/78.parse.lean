/-! the Java side reads tests -/
section
variable {g : zS} {M : Nat → Nat → Int32} {n T : Nat} {D V P : Nat → Nat} {o : Bool} {kH : Nat → Int32 → zH → Option (Int32 × zH)} {k4 : Nat → Int32 → Int32 → Int32 → zH → Option (Int32 × zH)}
/-- a step that goes past, set when its end is known -/
theorem Wr_j {S0 A0 S A S2 A2 : Nat → Int32} {L k s t : Nat} {c c1 : List (Nat × Nat)} (hW : Wr S0 A0 S A L c) (hk : c.length = k) (h2 : Wr (upd S (L + k) (nI s)) (upd A (L + k) (nI 0)) S2 A2 (L + k + 1) c1) : Wr S0 A0 S2 (upd A2 (L + k) (nI t)) L (c ++ (s, t) :: c1) := by
  subst hk
  refine ⟨fun j hj => ?_, ?_⟩
  · have e1 := h2.1 j (by omega)
    have e2 := hW.1 j hj
    rw [upd_ne (by omega)] at e1
    exact ⟨by rw [e1.1, e2.1], by rw [upd_ne (by omega), e1.2, upd_ne (by omega), e2.2]⟩
  · rw [CA_app]
    refine ⟨CA_cong hW.2 (fun j h3 h4 => ?_), ⟨?_, ?_⟩, CA_cong h2.2 (fun j h3 h4 => ⟨rfl, upd_ne (by omega)⟩)⟩
    · have e1 := h2.1 j (by omega)
      exact ⟨by rw [e1.1, upd_ne (by omega)], by rw [upd_ne (by omega), e1.2, upd_ne (by omega)]⟩
    · rw [(h2.1 _ (by omega)).1, upd_eq]
    · rw [upd_eq]
def zAnd (n : Nat) (kH : Nat → Int32 → zH → Option (Int32 × zH)) (k4 : Nat → Int32 → Int32 → Int32 → zH → Option (Int32 × zH)) (k17 : Nat → Int32 → Int32 → Int32 → Int32 → Int32 → zH → Option (Int32 × zH)) (l1 l2 l3 l5 : Int32) (h5 : zH) : Option (Int32 × zH) := zck h5 6 410 (zb (f_X5_takes n 410 (nI 258) h5) fun r6 h7 => if r6 = nI 0 then fb_X5_test_54 n kH k4 410 l1 l2 l3 h7 else zgR h7 6 410 0 fun v8 => zck h7 9 v8 (zb (f_X8_addStep n v8 (nI 4) (nI 0) h7) fun r9 h10 => k17 410 l1 l2 l3 r9 (l5 + nI 1) h10))
def zOr (n : Nat) (k4 : Nat → Int32 → Int32 → Int32 → zH → Option (Int32 × zH)) (l1 l3 : Int32) (h3 : zH) : Option (Int32 × zH) := zck h3 6 410 (zb (f_X5_takes n 410 (nI 257) h3) fun r4 h5 => if r4 = nI 0 then some (nI 1, h5) else zgR h5 6 410 0 fun v6 => zck h5 9 v6 (zb (f_X8_addStep n v6 (nI 3) (nI 0) h5) fun r7 h8 => k4 410 l1 r7 (l3 + nI 1) h8))
theorem u_17 (hs : Sy g) {k17 : Nat → Int32 → Int32 → Int32 → Int32 → Int32 → zH → Option (Int32 × zH)} {l1 l2 l3 l4 : Int32} {l5 : Nat} {mi : Nat → Nat → Int32} {ml : Nat → Nat → Int64} (h5 : l5 < 400) : fb_X5_test_17 n kH k4 k17 410 l1 l2 l3 l4 (nI l5) (g, mi, ml) = zb (f_X5_plain n kH 410 l1 (g, mi, ml)) fun r1 h2 => if r1 = nI 0 then some (nI 0, h2) else zgR h2 6 410 0 fun v3 => zck h2 9 v3 (zb (f_X8_landHere n v3 l4 h2) fun _ h5 => zAnd n kH k4 k17 l1 l2 l3 (nI l5) h5) := by
  unfold fb_X5_test_17
  simp only [lit]
  simp (disch := omega) only [nLe, if_neg, ↓S_ck410 hs]
  rfl
theorem u_74 (hs : Sy g) {l1 l2 l3 : Int32} {mi : Nat → Nat → Int32} {ml : Nat → Nat → Int64} : fb_X5_test_74 n kH k4 410 l1 l2 l3 (g, mi, ml) = zb (f_X8_landHere n 411 l2 (g, mi, ml)) fun _ h3 => zOr n k4 l1 l3 h3 := by
  unfold fb_X5_test_74
  simp only [lit]
  simp (disch := omega) only [↓S_gR410_0 hs, ↓S_ck411 hs]
  rfl
theorem c_al (hs : Sy g) (h : TC o M T D V P) {sub : Nat → Nat → RT} (ok : OkT T sub) {dp : Int32} (hr : CTs g M T P sub (f_X5_plain n kH 410 dp)) {l2 l3 : Int32} : ∀ (f i p k : Nat) (c : Nat → List (Nat × Nat)) (d : DT) (ff l5 L0 : Nat) (fl cc : Int32) (S0 A0 S A E : Nat → Int32) (ml : Nat → Nat → Int64), i ≤ T → p ≤ 50 → T < i + f → T < i + ff → 2 * l5 + 1 ≤ i → L0 + k ≤ i → (∀ L, (c L).length = k) → Wr S0 A0 S A L0 (c L0) → (∀ j p' k' c' d', pJp D sub 5 4 false f (i, p, k, c, d) = .ok (j, p', k', c', d') → ∃ S' A', zAnd n kH k4 (zlp6 (fb_X5_test_17 n kH k4) ff) dp l2 l3 (nI l5) (g, Ps M (nI i) (nI p) fl (nI (L0 + k)) cc S A E, ml) = fb_X5_test_74 n kH k4 410 dp l2 l3 (g, Ps M (nI j) (nI p') fl (nI (L0 + k')) cc S' A' E, ml) ∧ Wr S0 A0 S' A' L0 (c' L0)) ∧ ∀ q, pJp D sub 5 4 false f (i, p, k, c, d) = .error q → ∃ tk pt ln S' A', zAnd n kH k4 (zlp6 (fb_X5_test_17 n kH k4) ff) dp l2 l3 (nI l5) (g, Ps M (nI i) (nI p) fl (nI (L0 + k)) cc S A E, ml) = some (nI 0, (g, Ps M tk pt (nI (P q)) ln cc S' A' E, ml))
  | 0, i, p, k, c, d, ff, l5, L0, fl, cc, S0, A0, S, A, E, ml, h1, _, h2, _, _, _, _, _ => absurd h2 (by omega)
  | f + 1, i, p, k, c, d, 0, l5, L0, fl, cc, S0, A0, S, A, E, ml, h1, _, _, h2, _, _, _, _ => absurd h2 (by omega)
  | f + 1, i, p, k, c, d, ff + 1, l5, L0, fl, cc, S0, A0, S, A, E, ml, hi, hp, hf, hff, h5, hL, hk, hW => by
    have hT := h.2.1
    unfold pJp
    by_cases q : D i = 5
    · simp only [q, if_T]
      have hi' : i < T := by
        rcases Nat.lt_or_eq_of_le hi with z | z
        · exact z
        · rw [z, h.2.2.1] at q; omega
      have kq : kk o T D i = 258 := by rw [k_258 h hi]; exact q
      obtain ⟨k1, k2⟩ := hr (i + 1) p (by omega) hp (L0 + k + 1) fl cc (upd S (L0 + k) (nI 4)) (upd A (L0 + k) (nI 0)) E ml (by omega)
      have U : zAnd n kH k4 (zlp6 (fb_X5_test_17 n kH k4) (ff + 1)) dp l2 l3 (nI l5) (g, Ps M (nI i) (nI p) fl (nI (L0 + k)) cc S A E, ml) = zb (f_X5_plain n kH 410 dp (g, Ps M (nI (i + 1)) (nI p) fl (nI (L0 + k + 1)) cc (upd S (L0 + k) (nI 4)) (upd A (L0 + k) (nI 0)) E, ml)) fun r1 h2 => if r1 = nI 0 then some (nI 0, h2) else zgR h2 6 410 0 fun v3 => zck h2 9 v3 (zb (f_X8_landHere n v3 (nI (L0 + k)) h2) fun _ h5 => zAnd n kH k4 (zlp6 (fb_X5_test_17 n kH k4) ff) dp l2 l3 (nI (l5 + 1)) h5) := by
        have e1 : zAnd n kH k4 (zlp6 (fb_X5_test_17 n kH k4) (ff + 1)) dp l2 l3 (nI l5) (g, Ps M (nI i) (nI p) fl (nI (L0 + k)) cc S A E, ml) = zlp6 (fb_X5_test_17 n kH k4) (ff + 1) 410 dp l2 l3 (nI (L0 + k)) (nI (l5 + 1)) (g, Ps M (nI (i + 1)) (nI p) fl (nI (L0 + k + 1)) cc (upd S (L0 + k) (nI 4)) (upd A (L0 + k) (nI 0)) E, ml) := by
          generalize zlp6 (fb_X5_test_17 n kH k4) (ff + 1) = kx
          unfold zAnd
          simp (disch := omega) only [↓S_ck410 hs, p_take hs h hi, kq, if_T, zb_s, nEq, if_neg, ↓S_gR410_0 hs, ↓S_ck411 hs, p_add hs, nI_add]
        rw [e1]
        exact u_17 (k17 := zlp6 (fb_X5_test_17 n kH k4) ff) hs (by omega)
      rw [U]
      cases hc : sub (i + 1) p with
      | error q' =>
        obtain ⟨tk, pt, ln, S', A', s1⟩ := k2 q' hc
        refine ⟨fun j p' k' c' d' he => absurd he (by simp), fun q he => ?_⟩
        injection he with he
        subst he
        refine ⟨tk, pt, ln, S', A', ?_⟩
        rw [s1, zb_s, iEq1 rfl]
      | ok x =>
        obtain ⟨j1, p1, kk1, c1, d1⟩ := x
        obtain ⟨a1, a2, a3, a4, a5, a6, a7⟩ := ok _ _ _ _ _ _ _ (by omega) hp hc
        obtain ⟨S1, A1, s1, s2⟩ := k1 _ _ _ _ _ hc
        have hW2 := Wr_j (t := L0 + k + 1 + kk1) hW (hk L0) s2
        have e3 : L0 + (k + 1 + kk1) = L0 + k + 1 + kk1 := by omega
        have ih := c_al (l2 := l2) (l3 := l3) hs h ok hr f j1 p1 (k + 1 + kk1) (fun L => c L ++ (4, L + k + 1 + kk1) :: c1 (L + k + 1)) (cmb false d d1) ff (l5 + 1) L0 fl cc S0 A0 S1 (upd A1 (L0 + k) (nI (L0 + k + 1 + kk1))) E ml a2 a4 (by omega) (by omega) (by omega) (by omega) (fun L => by simp [hk, a7]; omega) hW2
        rw [s1, zb_s, iEq0 (by decide) (by decide) (by decide), S_gR410_0 hs, S_ck411 hs, p_land hs (by omega), zb_s]
        rw [e3] at ih
        exact ih
    · simp only [q, if_F]
      refine ⟨fun j p' k' c' d' he => ?_, fun q he => absurd he (by simp)⟩
      injection he with he
      obtain ⟨e1, e2, e3, e4, e5⟩ := he
      refine ⟨S, A, ?_, hW⟩
      have kq : ¬ kk o T D i = 258 := by rw [k_258 h hi]; exact q
      generalize zlp6 (fb_X5_test_17 n kH k4) (ff + 1) = kx
      unfold zAnd fb_X5_test_54
      simp (disch := omega) only [↓S_ck410 hs, p_take hs h hi, kq, if_F, if_T, zb_s]
termination_by f => f
theorem c_bo (hs : Sy g) (h : TC o M T D V P) (hn : 3000 < n) {sub : Nat → Nat → RT} (ok : OkT T sub) {dp : Int32} (hr : CTs g M T P sub (f_X5_plain n kH 410 dp)) {l2 l3 : Int32} {i p L : Nat} {fl cc : Int32} {S A E : Nat → Int32} {ml : Nat → Nat → Int64} (hi : i ≤ T) (hp : p ≤ 50) (hL : L ≤ i) : (∀ j p' k c d, pJn D sub 5 4 false i p = .ok (j, p', k, c, d) → ∃ S' A', zlp6 (fb_X5_test_17 n kH k4) n 410 dp l2 l3 m1 (nI 0) (g, Ps M (nI i) (nI p) fl (nI L) cc S A E, ml) = fb_X5_test_74 n kH k4 410 dp l2 l3 (g, Ps M (nI j) (nI p') fl (nI (L + k)) cc S' A' E, ml) ∧ Wr S A S' A' L (c L)) ∧ ∀ q, pJn D sub 5 4 false i p = .error q → ∃ tk pt ln S' A', zlp6 (fb_X5_test_17 n kH k4) n 410 dp l2 l3 m1 (nI 0) (g, Ps M (nI i) (nI p) fl (nI L) cc S A E, ml) = some (nI 0, (g, Ps M tk pt (nI (P q)) ln cc S' A' E, ml)) := by
  have hT := h.2.1
  obtain ⟨n', rfl⟩ : ∃ n', n = n' + 1 := ⟨n - 1, by omega⟩
  obtain ⟨k1, k2⟩ := hr i p hi hp L fl cc S A E ml hL
  have U : zlp6 (fb_X5_test_17 (n' + 1) kH k4) (n' + 1) 410 dp l2 l3 m1 (nI 0) (g, Ps M (nI i) (nI p) fl (nI L) cc S A E, ml) = _ := u_17 (k17 := zlp6 (fb_X5_test_17 (n' + 1) kH k4) n') hs (by omega)
  rw [U]
  unfold pJn
  cases hc : sub i p with
  | error q' =>
    obtain ⟨tk, pt, ln, S', A', s1⟩ := k2 q' hc
    refine ⟨fun j p' k' c' d' he => absurd he (by simp), fun q he => ?_⟩
    injection he with he
    subst he
    refine ⟨tk, pt, ln, S', A', ?_⟩
    rw [s1, zb_s, iEq1 rfl]
  | ok x =>
    obtain ⟨j1, p1, kk1, c1, d1⟩ := x
    obtain ⟨a1, a2, a3, a4, a5, a6, a7⟩ := ok _ _ _ _ _ _ _ hi hp hc
    obtain ⟨S1, A1, s1, s2⟩ := k1 _ _ _ _ _ hc
    rw [s1, zb_s, iEq0 (by decide) (by decide) (by decide), S_gR410_0 hs, S_ck411 hs, p_land0, zb_s]
    exact c_al hs h ok hr 401 j1 p1 kk1 c1 d1 n' 0 L fl cc S A S1 A1 E ml a2 a4 (by omega) (by omega) (by omega) (by omega) a7 s2
theorem c_ol (hs : Sy g) (h : TC o M T D V P) (hn : 3000 < n) {sub : Nat → Nat → RT} (ok : OkT T sub) {dp : Int32} (hr : CTs g M T P sub (f_X5_plain n kH 410 dp)) : ∀ (f i p k : Nat) (c : Nat → List (Nat × Nat)) (d : DT) (ff l3 L0 : Nat) (fl cc : Int32) (S0 A0 S A E : Nat → Int32) (ml : Nat → Nat → Int64), i ≤ T → p ≤ 50 → T < i + f → T < i + ff → 2 * l3 + 1 ≤ i → L0 + k ≤ i → (∀ L, (c L).length = k) → Wr S0 A0 S A L0 (c L0) → (∀ j p' k' c' d', pJp D (pJn D sub 5 4 false) 4 3 true f (i, p, k, c, d) = .ok (j, p', k', c', d') → ∃ S' A', zOr n (zlp4 (fb_X5_test_4 n kH) ff) dp (nI l3) (g, Ps M (nI i) (nI p) fl (nI (L0 + k)) cc S A E, ml) = some (nI 1, (g, Ps M (nI j) (nI p') fl (nI (L0 + k')) cc S' A' E, ml)) ∧ Wr S0 A0 S' A' L0 (c' L0)) ∧ ∀ q, pJp D (pJn D sub 5 4 false) 4 3 true f (i, p, k, c, d) = .error q → ∃ tk pt ln S' A', zOr n (zlp4 (fb_X5_test_4 n kH) ff) dp (nI l3) (g, Ps M (nI i) (nI p) fl (nI (L0 + k)) cc S A E, ml) = some (nI 0, (g, Ps M tk pt (nI (P q)) ln cc S' A' E, ml))
  | 0, i, p, k, c, d, ff, l3, L0, fl, cc, S0, A0, S, A, E, ml, h1, _, h2, _, _, _, _, _ => absurd h2 (by omega)
  | f + 1, i, p, k, c, d, 0, l3, L0, fl, cc, S0, A0, S, A, E, ml, h1, _, _, h2, _, _, _, _ => absurd h2 (by omega)
  | f + 1, i, p, k, c, d, ff + 1, l3, L0, fl, cc, S0, A0, S, A, E, ml, hi, hp, hf, hff, h5, hL, hk, hW => by
    have hT := h.2.1
    have okb : OkT T (pJn D sub 5 4 false) := ok_jn h.2.2.1 ok (by decide)
    unfold pJp
    by_cases q : D i = 4
    · simp only [q, if_T]
      have hi' : i < T := by
        rcases Nat.lt_or_eq_of_le hi with z | z
        · exact z
        · rw [z, h.2.2.1] at q; omega
      have kq : kk o T D i = 257 := by rw [k_257 h hi]; exact q
      have U : zOr n (zlp4 (fb_X5_test_4 n kH) (ff + 1)) dp (nI l3) (g, Ps M (nI i) (nI p) fl (nI (L0 + k)) cc S A E, ml) = zlp6 (fb_X5_test_17 n kH (zlp4 (fb_X5_test_4 n kH) ff)) n 410 dp (nI (L0 + k)) (nI (l3 + 1)) m1 (nI 0) (g, Ps M (nI (i + 1)) (nI p) fl (nI (L0 + k + 1)) cc (upd S (L0 + k) (nI 3)) (upd A (L0 + k) (nI 0)) E, ml) := by
        have e1 : zOr n (zlp4 (fb_X5_test_4 n kH) (ff + 1)) dp (nI l3) (g, Ps M (nI i) (nI p) fl (nI (L0 + k)) cc S A E, ml) = zlp4 (fb_X5_test_4 n kH) (ff + 1) 410 dp (nI (L0 + k)) (nI (l3 + 1)) (g, Ps M (nI (i + 1)) (nI p) fl (nI (L0 + k + 1)) cc (upd S (L0 + k) (nI 3)) (upd A (L0 + k) (nI 0)) E, ml) := by
          generalize zlp4 (fb_X5_test_4 n kH) (ff + 1) = kx
          unfold zOr
          simp (disch := omega) only [↓S_ck410 hs, p_take hs h hi, kq, if_T, zb_s, nEq, if_neg, ↓S_gR410_0 hs, ↓S_ck411 hs, p_add hs, nI_add]
        rw [e1]
        show fb_X5_test_4 n kH (zlp4 (fb_X5_test_4 n kH) ff) 410 dp (nI (L0 + k)) (nI (l3 + 1)) _ = _
        generalize zlp4 (fb_X5_test_4 n kH) ff = kx
        unfold fb_X5_test_4
        simp only [lit, ng1]
        simp (disch := omega) only [nLe, if_neg]
      obtain ⟨k1, k2⟩ := c_bo (k4 := zlp4 (fb_X5_test_4 n kH) ff) (l2 := nI (L0 + k)) (l3 := nI (l3 + 1)) (i := i + 1) (p := p) (L := L0 + k + 1) (fl := fl) (cc := cc) (S := upd S (L0 + k) (nI 3)) (A := upd A (L0 + k) (nI 0)) (E := E) (ml := ml) hs h hn ok hr (by omega) hp (by omega)
      rw [U]
      cases hc : pJn D sub 5 4 false (i + 1) p with
      | error q' =>
        obtain ⟨tk, pt, ln, S', A', s1⟩ := k2 q' hc
        refine ⟨fun j p' k' c' d' he => absurd he (by simp), fun q he => ?_⟩
        injection he with he
        subst he
        exact ⟨tk, pt, ln, S', A', s1⟩
      | ok x =>
        obtain ⟨j1, p1, kk1, c1, d1⟩ := x
        obtain ⟨a1, a2, a3, a4, a5, a6, a7⟩ := okb _ _ _ _ _ _ _ (by omega) hp hc
        obtain ⟨S1, A1, s1, s2⟩ := k1 _ _ _ _ _ hc
        have hW2 := Wr_j (t := L0 + k + 1 + kk1) hW (hk L0) s2
        have e3 : L0 + (k + 1 + kk1) = L0 + k + 1 + kk1 := by omega
        have ih := c_ol hs h hn ok hr f j1 p1 (k + 1 + kk1) (fun L => c L ++ (3, L + k + 1 + kk1) :: c1 (L + k + 1)) (cmb true d d1) ff (l3 + 1) L0 fl cc S0 A0 S1 (upd A1 (L0 + k) (nI (L0 + k + 1 + kk1))) E ml a2 a4 (by omega) (by omega) (by omega) (by omega) (fun L => by simp [hk, a7]; omega) hW2
        rw [s1, u_74 hs, p_land hs (by omega), zb_s]
        rw [e3] at ih
        exact ih
    · simp only [q, if_F]
      refine ⟨fun j p' k' c' d' he => ?_, fun q he => absurd he (by simp)⟩
      injection he with he
      obtain ⟨e1, e2, e3, e4, e5⟩ := he
      refine ⟨S, A, ?_, hW⟩
      have kq : ¬ kk o T D i = 257 := by rw [k_257 h hi]; exact q
      generalize zlp4 (fb_X5_test_4 n kH) (ff + 1) = kx
      unfold zOr
      simp (disch := omega) only [↓S_ck410 hs, p_take hs h hi, kq, if_F, if_T, zb_s]
termination_by f => f
theorem c_ts (hs : Sy g) (h : TC o M T D V P) (hn : 3000 < n) {sub : Nat → Nat → RT} (ok : OkT T sub) {dp : Int32} (hr : CTs g M T P sub (f_X5_plain n kH 410 dp)) : CTs g M T P (pJn D (pJn D sub 5 4 false) 4 3 true) (fB_X5_test n kH 410 dp) := by
  intro i p hi hp L fl cc S A E ml hL
  have hT := h.2.1
  have okb : OkT T (pJn D sub 5 4 false) := ok_jn h.2.2.1 ok (by decide)
  obtain ⟨n', hn'⟩ : ∃ n', n = n' + 1 := ⟨n - 1, by omega⟩
  have U : fB_X5_test n kH 410 dp (g, Ps M (nI i) (nI p) fl (nI L) cc S A E, ml) = zlp6 (fb_X5_test_17 n kH (zlp4 (fb_X5_test_4 n kH) n')) n 410 dp m1 (nI 0) m1 (nI 0) (g, Ps M (nI i) (nI p) fl (nI L) cc S A E, ml) := by
    have e1 : fB_X5_test n kH 410 dp (g, Ps M (nI i) (nI p) fl (nI L) cc S A E, ml) = zlp4 (fb_X5_test_4 n kH) (n' + 1) 410 dp m1 (nI 0) (g, Ps M (nI i) (nI p) fl (nI L) cc S A E, ml) := by
      rw [← hn']; rfl
    rw [e1]
    show fb_X5_test_4 n kH (zlp4 (fb_X5_test_4 n kH) n') 410 dp m1 (nI 0) _ = _
    generalize zlp4 (fb_X5_test_4 n kH) n' = kx
    unfold fb_X5_test_4
    simp only [lit, ng1]
    simp (disch := omega) only [nLe, if_neg]
  obtain ⟨k1, k2⟩ := c_bo (k4 := zlp4 (fb_X5_test_4 n kH) n') (l2 := m1) (l3 := nI 0) (i := i) (p := p) (L := L) (fl := fl) (cc := cc) (S := S) (A := A) (E := E) (ml := ml) hs h hn ok hr hi hp hL
  rw [U]
  unfold pJn
  unfold pJn at k1 k2
  cases hc : pJn D sub 5 4 false i p with
  | error q' =>
    unfold pJn at hc
    rw [hc]
    obtain ⟨tk, pt, ln, S', A', s1⟩ := k2 q' hc
    refine ⟨fun j p' k' c' d' he => absurd he (by simp), fun q he => ?_⟩
    injection he with he
    subst he
    exact ⟨tk, pt, ln, S', A', s1⟩
  | ok x =>
    obtain ⟨j1, p1, kk1, c1, d1⟩ := x
    obtain ⟨a1, a2, a3, a4, a5, a6, a7⟩ := okb _ _ _ _ _ _ _ hi hp hc
    unfold pJn at hc
    rw [hc]
    obtain ⟨S1, A1, s1, s2⟩ := k1 _ _ _ _ _ hc
    rw [s1, u_74 hs, p_land0, zb_s]
    exact c_ol hs h hn ok hr 401 j1 p1 kk1 c1 d1 n' 0 L fl cc S A S1 A1 E ml a2 a4 (by omega) (by omega) (by omega) (by omega) a7 s2
theorem c_test (hs : Sy g) (h : TC o M T D V P) (hn : 3000 < n) : ∀ (r dp t : Nat), dp + r = 8 → r < t → CTs g M T P (pTest o D V r) (f_X5_test n t 410 (nI dp))
  | r, dp, 0, _, ht => absurd ht (by omega)
  | 0, dp, t + 1, hd, ht => c_ts (kH := f_X5_test n t) hs h hn (ok_pln h.2.2.1 ok_et (ok_sum h.2.2.1 0)) (c_pln hs h hn ok_et (ok_sum h.2.2.1 0) hd (fun _ _ _ => rfl) (fun z => absurd z (by omega)) (c_sum hs h hn 0 dp 12 hd (by decide)))
  | r + 1, dp, t + 1, hd, ht => c_ts (kH := f_X5_test n t) hs h hn (ok_pln h.2.2.1 (ok_test h.2.2.1 r) (ok_sum h.2.2.1 (r + 1))) (c_pln (r := r + 1) hs h hn (ok_test h.2.2.1 r) (ok_sum h.2.2.1 (r + 1)) hd (fun z => absurd z (by omega)) (fun _ => c_test hs h hn r (dp + 1) t (by omega) (by omega)) (c_sum hs h hn (r + 1) dp 12 hd (by omega)))
end
