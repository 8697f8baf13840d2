/-! the plain form tells by a law -/
theorem li (k : Nat) : (OfNat.ofNat k : Int32) = nI k := (lit k).trans rfl
theorem iP {α : Sort _} {c : Prop} {d : Decidable c} {x y : α} (h : c) : @ite α c d x y = x := if_pos h
theorem iN {α : Sort _} {c : Prop} {d : Decidable c} {x y : α} (h : ¬ c) : @ite α c d x y = y := if_neg h
def tsq (e : Nat → Int32) (q : Option (Nat × DT)) : Bool := match q with
  | none => true
  | some f => match f.2 e with
    | some b => b
    | none => false
theorem tst_q {e : Nat → Int32} {x : Ci} : tst e x = tsq e x.2.2.2.2 := by
  unfold tst tsq
  cases x.2.2.2.2 with
  | none => rfl
  | some f => rfl
theorem c64_1 : c64 1 = 1 := by decide +kernel
def Mf (M : Nat → Nat → Int32) (k : Nat) (z : Int32) : Nat → Nat → Int32 := fun a j => if a = 422 then (if j = k then z else M a j) else M a j
theorem Mf_s {M : Nat → Nat → Int32} {k : Nat} {z : Int32} : Mf M k z 422 k = z := by
  unfold Mf; rw [iP rfl, iP rfl]
theorem Mf_k {M : Nat → Nat → Int32} {k j : Nat} {z : Int32} (h : j ≠ k) : Mf M k z 422 j = M 422 j := by
  unfold Mf; rw [iP rfl, iN h]
theorem Mf_a {M : Nat → Nat → Int32} {k a : Nat} {z : Int32} (h : a ≠ 422) : Mf M k z a = M a := by
  unfold Mf; funext j; rw [iN h]
theorem Mg_e (M : Nat → Nat → Int32) : Mg M (M 422 22) (M 422 24) = M := by
  funext a k
  unfold Mg
  by_cases h : a = 422
  · subst h
    by_cases h1 : k = 22
    · subst h1; simp
    · by_cases h2 : k = 24
      · subst h2; simp
      · simp [h1, h2]
  · simp [h]
theorem Mg_a {M : Nat → Nat → Int32} {x b : Int32} {a : Nat} (h : a ≠ 422) : Mg M x b a = M a := by
  unfold Mg; funext j; rw [iN h]
theorem Mg_k {M : Nat → Nat → Int32} {x b : Int32} {k : Nat} (h : k ≠ 22) (h2 : k ≠ 24) : Mg M x b 422 k = M 422 k := by
  unfold Mg; rw [iP rfl, iN h, iN h2]
theorem zu_sw {M : Nat → Nat → Int32} {v : Nat → Int32} {a k : Nat} {x : Int32} (h : a ≠ 424) : zu (zrw M 424 v) a k x = zrw (zu M a k x) 424 v := by
  funext b
  by_cases h1 : b = a
  · subst h1; rw [zu_eq, zrw_ne h, zrw_ne h, zu_eq]
  · by_cases h2 : b = 424
    · subst h2; rw [zu_ne h1, zrw_eq, zrw_eq]
    · rw [zu_ne h1, zrw_ne h2, zrw_ne h2, zu_ne h1]
section
variable {g : zS} {M : Nat → Nat → Int32} {v e : Nat → Int32} {ml : Nat → Nat → Int64} {n B T : Nat} {D V : Nat → Nat} {ρ : Type} {k : Nat} {y : Int32}
theorem f_g {K : Int32 → Option ρ} (hs : Sy g) : zgI ((g, zrw M 424 v, ml) : zH) 13 422 k K = K (M 422 k) := by
  rw [S_gI422 hs, zrw_a (by decide)]
theorem f_p {K : zH → Option ρ} (hs : Sy g) : zpI ((g, zrw M 424 v, ml) : zH) 13 422 k y K = K (g, zrw (Mf M k y) 424 v, ml) := by
  rw [S_pI422 hs, mg_z]; rfl
theorem f_pz {K : zH → Option ρ} (hs : Sy g) (hy : y = nI 0 ∨ y = nI 1) : zpZ ((g, zrw M 424 v, ml) : zH) 13 422 k y K = K (g, zrw (Mf M k y) 424 v, ml) := by
  rw [S_pZ422 hs hy, mg_z]; rfl
theorem r_t149 (hs : Sy g) {k64 : Nat → Int32 → Int64 → zH → Option (Int32 × zH)} {hd kd j : Nat} (h1 : hd < 1000) (h2 : kd < 1000) {w s0 : Int64} {b1 b2 r : Int32} : fb_X12_tells_149 n k64 422 (nI hd) w (nI kd) s0 b1 r (g, zrw (Mg M (nI (B + j)) b2) 424 v, ml) = k64 422 (nI hd) (if kd = hd ∧ r ≠ nI 0 ∧ b2 = nI 0 ∧ b1 = nI 0 then c64 s0 else w) (g, zrw (Mg M (nI (B + (j + 1))) b2) 424 v, ml) := by
  have e203 : ∀ z, fb_X12_tells_203 n k64 422 (nI hd) z (g, zrw (Mg M (nI (B + j)) b2) 424 v, ml) = k64 422 (nI hd) z (g, zrw (Mg M (nI (B + (j + 1))) b2) 424 v, ml) := by
    intro z
    unfold fb_X12_tells_203
    simp only [li]
    rw [g_go hs, g_pgo hs, nI_add, Nat.add_assoc]
  unfold fb_X12_tells_149 fb_X12_tells_202 c64
  simp only [li]
  by_cases q1 : kd = hd
  · rw [iP (by rw [q1])]
    by_cases q2 : r = nI 0
    · rw [iP q2, e203, iN (fun z => z.2.1 q2)]
    · rw [iN q2, g_br hs]
      by_cases q3 : b2 = nI 0
      · rw [iP q3]
        by_cases q4 : b1 = nI 0
        · rw [iP q4, iP (show kd = hd ∧ r ≠ nI 0 ∧ b2 = nI 0 ∧ b1 = nI 0 from ⟨q1, q2, q3, q4⟩)]
          by_cases q5 : nI 0 ≤ lg_cmp s0 0
          · rw [iP q5]
            by_cases q6 : lg_cmp s0 99 ≤ nI 0
            · rw [iP q6, e203, iP q5, iP q6]
            · rw [iN q6, e203, iP q5, iN q6]
          · rw [iN q5, e203, iN q5]
        · rw [iN q4, e203, iN (fun z => q4 z.2.2.2)]
      · rw [iN q3, e203, iN (fun z => q3 z.2.2.1)]
  · rw [iN (by rw [nEq (by omega) (by omega)]; exact q1), e203, iN (fun z => q1 z.1)]
theorem r_t115 (hs : Sy g) (h : EV M v B T D V) (ho : EO false n g M v e) (hn : 3000 < n) {k64 : Nat → Int32 → Int64 → zH → Option (Int32 × zH)} {i1 p1 j : Nat} {tq : Option (Nat × DT)} (hi1 : i1 ≤ T) (hp1 : p1 ≤ 50) (hq : (D i1 ≠ 3 ∧ tq = none ∧ j = i1) ∨ (D i1 = 3 ∧ i1 < T ∧ ∃ p2 k2 c2 L d2, pTest false D V 8 (i1 + 1) p1 = .ok (j, p2, k2, c2, d2) ∧ tq = some (L, d2))) {hd kd : Nat} (h1 : hd < 1000) (h2 : kd < 1000) {w s0 : Int64} {b1 : Int32} (hb : b1 = nI 0 ∨ b1 = nI 1) : ∃ b', fb_X12_tells_115 n k64 422 (nI hd) w (nI kd) s0 (g, zrw (Mg M (nI (B + i1)) b1) 424 v, ml) = k64 422 (nI hd) (if kd = hd ∧ tsq e tq = true ∧ b1 = nI 0 then c64 s0 else w) (g, zrw (Mg M (nI (B + (j + 1))) b') 424 v, ml) := by
  unfold fb_X12_tells_115 fb_X12_tells_144
  simp only [li]
  rw [g_br hs, g_pbr hs (Or.inl rfl), S_ck422 hs, e_pass hs h hi1 (by decide)]
  rcases hq with ⟨q1, q2, q3⟩ | ⟨q1, q2, p2, k2, c2, L, d2, q3, q4⟩
  · subst q2 q3
    refine ⟨nI 0, ?_⟩
    rw [iN q1, zb_s, iP rfl, r_t149 hs h1 h2]
    congr 1
    by_cases z : kd = hd ∧ b1 = nI 0
    · rw [iP ⟨z.1, n01.symm, rfl, z.2⟩, iP ⟨z.1, rfl, z.2⟩]
    · rw [iN (fun y => z ⟨y.1, y.2.2.2⟩), iN (fun y => z ⟨y.1, y.2.2⟩)]
  · subst q4
    obtain ⟨r, b', f1, f2⟩ := e_test hs h ho hn 8 12 (by decide) (by decide) _ _ _ _ _ _ _ (by omega) hp1 q3 (nI 1) (nI 0) ml (Or.inr rfl) (Or.inl rfl)
    refine ⟨b', ?_⟩
    rw [iP q1, zb_s, iN n01.symm, S_ck422 hs, f1, zb_s]
    obtain ⟨g1, g2, g3, g4⟩ := f2
    have g3 := g3 ⟨rfl, rfl⟩
    have e2 : (if r = nI 0 then fb_X12_tells_149 n k64 422 (nI hd) w (nI kd) s0 b1 (nI 0) (g, zrw (Mg M (nI (B + j)) b') 424 v, ml) else fb_X12_tells_149 n k64 422 (nI hd) w (nI kd) s0 b1 (nI 1) (g, zrw (Mg M (nI (B + j)) b') 424 v, ml)) = fb_X12_tells_149 n k64 422 (nI hd) w (nI kd) s0 b1 r (g, zrw (Mg M (nI (B + j)) b') 424 v, ml) := by
      rcases g2 with z | z
      · rw [iP z, z]
      · rw [iN (by rw [z]; exact n01.symm), z]
    rw [e2, r_t149 hs h1 h2]
    congr 1
    have e3 : (r ≠ nI 0 ∧ b' = nI 0) ↔ tsq e (some (L, d2)) = true := by
      show _ ↔ (match d2 e with | some b => b | none => false) = true
      cases hd2 : d2 e with
      | none =>
        rw [g3.2 hd2]
        exact ⟨fun z => absurd z.2.symm n01, fun z => absurd z (by simp)⟩
      | some x =>
        obtain ⟨y1, y2⟩ := g3.1 x hd2
        rw [y1, y2]
        cases x
        · exact ⟨fun z => absurd rfl z.1, fun z => absurd z (by simp)⟩
        · exact ⟨fun _ => rfl, fun _ => ⟨n01.symm, rfl⟩⟩
    by_cases z : kd = hd ∧ (r ≠ nI 0 ∧ b' = nI 0) ∧ b1 = nI 0
    · rw [iP ⟨z.1, z.2.1.1, z.2.1.2, z.2.2⟩, iP ⟨z.1, e3.mp z.2.1, z.2.2⟩]
    · rw [iN (fun y => z ⟨y.1, ⟨y.2.1, y.2.2.1⟩, y.2.2.2⟩), iN (fun y => z ⟨y.1, e3.mpr y.2.1, y.2.2⟩)]
theorem r_t64 (hs : Sy g) (h : EV M v B T D V) {k64 : Nat → Int32 → Int64 → zH → Option (Int32 × zH)} {i : Nat} (hi : i < T) {hd : Int32} {w : Int64} {b : Int32} : fb_X12_tells_64 n k64 422 hd w (g, zrw (Mg M (nI (B + i)) b) 424 v, ml) = if D i = 2 then fb_X12_tells_115 n k64 422 hd w (nI (D i)) 1 (g, zrw (Mg M (nI (B + (i + 1))) (nI 0)) 424 v, ml) else zb (f_X12_sumOf n 12 422 (nI 1) (g, zrw (Mg M (nI (B + (i + 1))) (nI 0)) 424 v, ml)) fun r9 h10 => fb_X12_tells_115 n k64 422 hd w (nI (D i)) r9 h10 := by
  have hB := h.1.2
  have hD := h.2.2.2 i
  unfold fb_X12_tells_64
  simp only [li]
  rw [g_go hs, g_end hs, h.1.1, iLe0 (by omega) (by omega) (by omega), g_go hs, S_ck422 hs, e_code hs h (by omega), zb_s, g_pbr hs (Or.inl rfl), g_go hs, g_pgo hs, nI_add, Nat.add_assoc]
  by_cases q : D i = 2
  · rw [iP q, iEq1 q]
  · rw [iN q, iEq0 (by omega) (by omega) q, S_ck422 hs]
theorem r_tcl (hs : Sy g) (h : EV M v B T D V) (ho : EO false n g M v e) (hn : 3000 < n) {i p L j p' : Nat} {c : List (Nat × Nat)} {x : Ci} (hi : i < T) (hp : p ≤ 50) (hh : pCl false D V i p L = .ok (j, p', c, x)) {hd : Nat} (hhd : hd < 2) {k64 : Nat → Int32 → Int64 → zH → Option (Int32 × zH)} {w : Int64} {b : Int32} : ∃ b', fb_X12_tells_64 n k64 422 (nI (hd + 1)) w (g, zrw (Mg M (nI (B + i)) b) 424 v, ml) = k64 422 (nI (hd + 1)) ((clv hd e x).getD w) (g, zrw (Mg M (nI (B + (j + 1))) b') 424 v, ml) := by
  have hT := h.2.2.1
  rw [r_t64 hs h hi]
  unfold pCl at hh
  cases hc : pHd false D V i p L with
  | error q => rw [hc] at hh; exact absurd hh (by simp)
  | ok y =>
    obtain ⟨j1, p1, c1, kd, f1, f2, tm⟩ := y
    rw [hc] at hh
    obtain ⟨a1, a2, a3, a4, a5, a6, a7, a8⟩ := ok_hd hT (by omega) hp hc
    dsimp only at hh
    have hx : ∃ tq, x = (kd, f1, f2, tm, tq) ∧ ((D j1 ≠ 3 ∧ tq = none ∧ j = j1) ∨ (D j1 = 3 ∧ j1 < T ∧ ∃ p2 k2 c2 L d2, pTest false D V 8 (j1 + 1) p1 = .ok (j, p2, k2, c2, d2) ∧ tq = some (L, d2))) := by
      by_cases q : D j1 = 3
      · rw [iP q] at hh
        have := ne_T hT a2 (by omega)
        cases hc2 : pTest false D V 8 (j1 + 1) p1 with
        | error q => rw [hc2] at hh; exact absurd hh (by simp)
        | ok z =>
          obtain ⟨j2, p2, k2, c2, d2⟩ := z
          rw [hc2] at hh
          cases hh
          exact ⟨_, rfl, Or.inr ⟨q, this, _, _, _, _, _, rfl, rfl⟩⟩
      · rw [iN q] at hh
        cases hh
        exact ⟨none, rfl, Or.inl ⟨q, rfl, rfl⟩⟩
    obtain ⟨tq, hx1, hx2⟩ := hx
    subst hx1
    unfold pHd at hc
    rw [iN (by decide)] at hc
    unfold pHl at hc
    by_cases q1 : D i = 2
    · rw [iP q1] at hc
      rw [iP q1]
      cases hc
      obtain ⟨b', e1⟩ := r_t115 (k64 := k64) (ml := ml) (hd := hd + 1) (kd := D i) (w := w) (s0 := 1) (b1 := nI 0) hs h ho hn a2 a4 hx2 (by omega) (by omega) (Or.inl rfl)
      refine ⟨b', ?_⟩
      rw [e1]
      congr 1
      unfold clv
      rw [tst_q, c64_1]
      by_cases z : 1 = hd
      · rw [iP z]
        cases hb : tsq e tq
        · rw [iN (fun y => absurd y.2.1 (by simp)), iN (by simp)]; rfl
        · rw [iP ⟨by omega, rfl, rfl⟩, iP rfl]; rfl
      · rw [iN z, iN (fun y => z (by omega))]; rfl
    · rw [iN q1] at hc
      rw [iN q1]
      by_cases q2 : D i = 1
      · rw [iP q2] at hc
        unfold pW at hc
        cases hs1 : pSum false D V 8 (i + 1) p with
        | error q => rw [hs1] at hc; exact absurd hc (by simp)
        | ok z =>
          obtain ⟨j3, p3, c3, d3⟩ := z
          rw [hs1] at hc
          cases hc
          obtain ⟨r, b1, s1, s2⟩ := e_sum hs h ho hn 8 12 (by decide) _ _ _ _ _ _ (by omega) hp hs1 (nI 1) (nI 0) ml (Or.inr rfl) (Or.inl rfl)
          obtain ⟨b', e1⟩ := r_t115 (k64 := k64) (ml := ml) (hd := hd + 1) (kd := D i) (w := w) (s0 := r) (b1 := b1) hs h ho hn a2 a4 hx2 (by omega) (by omega) s2.1
          refine ⟨b', ?_⟩
          rw [s1, zb_s, e1]
          congr 1
          have s3 := s2.2.1 ⟨rfl, rfl⟩
          unfold clv
          rw [tst_q]
          show (if D i = hd + 1 ∧ tsq e tq = true ∧ b1 = nI 0 then c64 r else w) = (if 0 = hd then if tsq e tq = true then Option.map c64 (d3 e) else none else none).getD w
          by_cases z : 0 = hd
          · rw [iP z]
            cases hb : tsq e tq
            · rw [iN (fun y => absurd y.2.1 (by simp)), iN (by simp)]; rfl
            · rw [iP rfl]
              cases hd3 : d3 e with
              | none =>
                rw [iN (fun y => n01 (y.2.2.symm.trans (s3.2 hd3)))]; rfl
              | some u =>
                obtain ⟨u1, u2⟩ := s3.1 u hd3
                rw [iP ⟨by omega, rfl, u2⟩, u1]; rfl
          · rw [iN z, iN (fun y => z (by omega))]; rfl
      · rw [iN q2] at hc; exact absurd hc (by simp)
theorem r_tlp (hs : Sy g) (h : EV M v B T D V) (ho : EO false n g M v e) (hn : 3000 < n) {hd : Nat} (hhd : hd < 2) : ∀ (m i p L : Nat) (l : List Ci) (c : List (Nat × Nat)) (ff : Nat) (w : Int64) (b : Int32), i ≤ T → p ≤ 50 → pRd false D V T m i p L = .ok (l, c) → m < ff → ∃ x' b', zlp3 (fb_X12_tells_64 n) ff 422 (nI (hd + 1)) w (g, zrw (Mg M (nI (B + i)) b) 424 v, ml) = some (Int64.toInt32 (kl hd e l w), (g, zrw (Mg M x' b') 424 v, ml))
  | m, i, p, L, l, c, 0, w, b, _, _, _, hf => absurd hf (by omega)
  | 0, i, p, L, l, c, ff, w, b, _, _, hh, _ => absurd hh (by simp [pRd])
  | m + 1, i, p, L, l, c, ff + 1, w, b, hi, hp, hh, hf => by
    have hB := h.1.2
    unfold pRd at hh
    cases hc : pCl false D V i p L with
    | error q => rw [hc] at hh; exact absurd hh (by simp)
    | ok y =>
      obtain ⟨j1, p1, c1, x1⟩ := y
      rw [hc] at hh
      obtain ⟨a1, a2, a3, a4, a5⟩ := ok_cl h.2.2.1 hi hp hc
      obtain ⟨b', e1⟩ := r_tcl (ml := ml) (k64 := zlp3 (fb_X12_tells_64 n) ff) (w := w) (b := b) hs h ho hn (by omega) hp hc hhd
      have e2 : zlp3 (fb_X12_tells_64 n) (ff + 1) 422 (nI (hd + 1)) w (g, zrw (Mg M (nI (B + i)) b) 424 v, ml) = fb_X12_tells_64 n (zlp3 (fb_X12_tells_64 n) ff) 422 (nI (hd + 1)) w (g, zrw (Mg M (nI (B + i)) b) 424 v, ml) := rfl
      rw [e2, e1]
      dsimp only at hh
      by_cases w1 : j1 = T
      · rw [iP w1] at hh
        cases hh
        obtain ⟨f2, hf2⟩ : ∃ f2, ff = f2 + 1 := ⟨ff - 1, by omega⟩
        subst hf2
        refine ⟨nI (B + (j1 + 1)), b', ?_⟩
        show fb_X12_tells_64 n (zlp3 (fb_X12_tells_64 n) f2) 422 (nI (hd + 1)) _ _ = _
        unfold fb_X12_tells_64
        rw [g_go hs, g_end hs, h.1.1, iLe1 (by omega) (by omega) (by omega)]
        rfl
      · rw [iN w1] at hh
        by_cases w2 : D j1 = 159
        · rw [iP w2] at hh
          have := ne_T h.2.2.1 a2 (by omega)
          cases hr : pRd false D V T m (j1 + 1) p1 (L + c1.length) with
          | error q => rw [hr] at hh; exact absurd hh (by simp)
          | ok z =>
            obtain ⟨l3, c3⟩ := z
            rw [hr] at hh
            have ih := r_tlp hs h ho hn hhd m (j1 + 1) p1 (L + c1.length) l3 c3 ff ((clv hd e x1).getD w) b' (by omega) a4 hr (by omega)
            cases hh
            exact ih
        · rw [iN w2] at hh; exact absurd hh (by simp)
/-- a law of the plain row -/
def LWr (v : Nat → Int32) (i T : Nat) (D V : Nat → Nat) : Prop := (v (208 + i) = nI T ∧ T ≤ 400) ∧ (∀ k, k < T → v (215 + (400 * i + k)) = nI (D k) ∧ (D k = 50 → V k ≤ 1000 → v (3015 + (400 * i + k)) = nI (V k))) ∧ D T = 0 ∧ ∀ k, D k < 1000
theorem r_tells (hs : Sy g) (hn : 3000 < n) {i : Nat} {l : List Ci} {c : List (Nat × Nat)} (hi : i < 6) (hv : v 207 = nI i) (hL : LWr v i T D V) (hl : pRd false D V T 12 0 0 0 = .ok (l, c)) (he : ∀ d, 7 ≤ d → d ≤ 13 → M 434 (d - 7) = e (wi false d)) {hd : Nat} (hhd : hd < 2) {w : Int32} : ∃ M', f_X12_tells n 422 (nI (hd + 1)) w (g, zrw M 424 v, ml) = some (Int64.toInt32 (kl hd e l w.toInt64), (g, zrw M' 424 v, ml)) ∧ FM M M' := by
  obtain ⟨⟨l1, l2⟩, l3, l4, l5⟩ := hL
  have u : f_X12_tells n 422 (nI (hd + 1)) w (g, zrw M 424 v, ml) = zlp3 (fb_X12_tells_64 n) n 422 (nI (hd + 1)) w.toInt64 (g, zrw (Mf (Mf (Mf M 25 (nI 0)) 22 (nI (400 * i))) 23 (nI (400 * i + T))) 424 v, ml) := by
    unfold f_X12_tells
    simp only [li, ng1]
    rw [S_gR422_2 hs, R_a hs (by decide), hv, iN (show ¬ nI i = m1 from nI_nm (by omega)), f_pz hs (Or.inl rfl), q_let, S_gR422_2 hs, R_a hs (by decide), hv, pk_mul, f_p hs, f_g hs, Mf_s, S_gR422_2 hs, S_gR422_2 hs, R_a hs (by decide), hv, nI_add, R_a hs (by omega), l1, nI_add, f_p hs]
  rw [u]
  have e1 := Mg_e (Mf (Mf (Mf M 25 (nI 0)) 22 (nI (400 * i))) 23 (nI (400 * i + T)))
  have hE : EV (Mf (Mf (Mf M 25 (nI 0)) 22 (nI (400 * i))) 23 (nI (400 * i + T))) v (400 * i) T D V := ⟨⟨Mf_s, by omega, l2⟩, l3, l4, l5⟩
  have hO : EO false n g (Mf (Mf (Mf M 25 (nI 0)) 22 (nI (400 * i))) 23 (nI (400 * i + T))) v e := by
    unfold EO
    rw [iN (by decide)]
    refine ⟨by rw [Mf_k (by decide), Mf_k (by decide), Mf_s], fun d h1 h2 => ?_⟩
    rw [Mf_a (by decide), Mf_a (by decide), Mf_a (by decide)]
    exact he d h1 h2
  have e2 : Mf (Mf (Mf M 25 (nI 0)) 22 (nI (400 * i))) 23 (nI (400 * i + T)) 422 22 = nI (400 * i + 0) := by rw [Mf_k (by decide), Mf_s, Nat.add_zero]
  obtain ⟨x', b', e3⟩ := r_tlp (ml := ml) hs hE hO hn hhd 12 0 0 0 l c n w.toInt64 (Mf (Mf (Mf M 25 (nI 0)) 22 (nI (400 * i))) 23 (nI (400 * i + T)) 422 24) (by omega) (by omega) hl (by omega)
  rw [← e2, e1] at e3
  refine ⟨_, e3, fun a h1 h2 h3 => ?_, fun k hk => ?_⟩
  · rw [Mg_a h1, Mf_a h1, Mf_a h1, Mf_a h1]
  · rw [Mg_k (by omega) (by omega), Mf_k (by omega), Mf_k (by omega), Mf_k (by omega)]
theorem r_tells0 (hs : Sy g) (hv : v 207 = m1) {hd w : Int32} : f_X12_tells n 422 hd w (g, zrw M 424 v, ml) = some (w, (g, zrw M 424 v, ml)) := by
  unfold f_X12_tells
  simp only [li, ng1]
  rw [S_gR422_2 hs, R_a hs (by decide), hv, iP rfl]
theorem r_asked (hs : Sy g) {a0 a1 a2 a3 a4 : Int32} : ∃ M', f_X12_setsAsked n 422 a0 a1 a2 a3 a4 (g, zrw M 424 v, ml) = some ((), (g, zrw M' 424 v, ml)) ∧ (∀ a, a ≠ 434 → M' a = M a) ∧ M' 434 0 = a0 ∧ M' 434 1 = a1 ∧ M' 434 2 = a2 ∧ M' 434 3 = a3 ∧ M' 434 4 = a4 ∧ M' 434 5 = v 204 ∧ M' 434 6 = v 190 := by
  refine ⟨zu (zu (zu (zu (zu (zu (zu M 434 0 a0) 434 1 a1) 434 2 a2) 434 3 a3) 434 4 a4) 434 5 (v 204)) 434 6 (v 190), ?_, fun a ha => ?_, ?_, ?_, ?_, ?_, ?_, ?_, ?_⟩
  · unfold f_X12_setsAsked
    simp only [li]
    simp (disch := omega) only [↓S_gR422_26 hs, ↓S_eI434 hs, ↓zu_sw, ↓S_gR422_2 hs, ↓R_a hs]
  · rw [zu_a ha, zu_a ha, zu_a ha, zu_a ha, zu_a ha, zu_a ha, zu_a ha]
  · rw [zu_k (by decide), zu_k (by decide), zu_k (by decide), zu_k (by decide), zu_k (by decide), zu_k (by decide), zu_s]
  · rw [zu_k (by decide), zu_k (by decide), zu_k (by decide), zu_k (by decide), zu_k (by decide), zu_s]
  · rw [zu_k (by decide), zu_k (by decide), zu_k (by decide), zu_k (by decide), zu_s]
  · rw [zu_k (by decide), zu_k (by decide), zu_k (by decide), zu_s]
  · rw [zu_k (by decide), zu_k (by decide), zu_s]
  · rw [zu_k (by decide), zu_s]
  · rw [zu_s]
def env (a0 a1 a2 a3 a4 t m : Int32) : Nat → Int32 := fun k => if k = 0 then a0 else if k = 1 then a1 else if k = 2 then a2 else if k = 3 then a3 else if k = 4 then a4 else if k = 5 then t else if k = 6 then m else 0
theorem env_r {f : Nat → Int32} {a0 a1 a2 a3 a4 t m : Int32} (h0 : f 0 = a0) (h1 : f 1 = a1) (h2 : f 2 = a2) (h3 : f 3 = a3) (h4 : f 4 = a4) (h5 : f 5 = m) (h6 : f 6 = t) : ∀ d, 7 ≤ d → d ≤ 13 → f (d - 7) = env a0 a1 a2 a3 a4 t m (wi false d) := by
  intro d hd1 hd2
  have : d = 7 ∨ d = 8 ∨ d = 9 ∨ d = 10 ∨ d = 11 ∨ d = 12 ∨ d = 13 := by omega
  rcases this with q | q | q | q | q | q | q <;> subst q
  · exact h0
  · exact h1
  · exact h2
  · exact h3
  · exact h4
  · exact h5
  · exact h6
def lev (nd : Nat) : Nat := if nd = 1 then 0 else if 4 ≤ nd then 2 else 1
theorem r_lev {nd : Nat} (h : nd < 8) {H : zH} : f_X12_levelOf n (nI nd) H = some (nI (lev nd), H) := by
  unfold f_X12_levelOf lev
  simp only [li]
  by_cases q : nd = 1
  · rw [iP q, iEq1 q]
  · rw [iN q, iEq0 (by omega) (by omega) q]
    by_cases q2 : 4 ≤ nd
    · rw [iP q2, iLe1 (by omega) (by omega) q2]
    · rw [iN q2, iLe0 (by omega) (by omega) (by omega)]
def KL (l : List Ci) (v : Nat → Int32) (nd ch : Nat) : Int32 := Int64.toInt32 (kl 0 (env (nI nd) (nI (lev nd)) (nI ch) (v 164) m1 (v 190) (v 204)) l (nI 1).toInt64)
def BL (l : List Ci) (v : Nat → Int32) (k : Nat) : Int32 := Int64.toInt32 (kl 1 (env m1 m1 m1 m1 (nI k) (v 190) (v 204)) l (nI 0).toInt64)
theorem FM_434 {M M' M'' : Nat → Nat → Int32} (h : ∀ a, a ≠ 434 → M' a = M a) (h2 : FM M' M'') : FM M M'' := ⟨fun a h3 h4 h5 => (h2.1 a h3 h4 h5).trans (h a h5), fun k hk => (h2.2 k hk).trans (by rw [h 422 (by decide)])⟩
theorem r_cost (hs : Sy g) (hn : 3000 < n) {i : Nat} {l : List Ci} {c : List (Nat × Nat)} (hi : i < 6) (hv : v 207 = nI i) (hL : LWr v i T D V) (hl : pRd false D V T 12 0 0 0 = .ok (l, c)) {nd ch : Nat} (hnd : nd < 8) : ∃ M', f_X12_costsAt n 422 (nI nd) (nI ch) (g, zrw M 424 v, ml) = some (KL l v nd ch, (g, zrw M' 424 v, ml)) ∧ FM M M' := by
  obtain ⟨M1, e1, e2, e3, e4, e5, e6, e7, e8, e9⟩ := r_asked (M := M) (v := v) (ml := ml) (n := n) (a0 := nI nd) (a1 := nI (lev nd)) (a2 := nI ch) (a3 := v 164) (a4 := m1) hs
  obtain ⟨M2, f1, f2⟩ := r_tells (M := M1) (ml := ml) (e := env (nI nd) (nI (lev nd)) (nI ch) (v 164) m1 (v 190) (v 204)) (hd := 0) (w := nI 1) hs hn hi hv hL hl (env_r e3 e4 e5 e6 e7 e8 e9) (by decide)
  refine ⟨M2, ?_, FM_434 e2 f2⟩
  unfold f_X12_costsAt
  simp only [li, ng1]
  rw [r_lev hnd, zb_s, S_gR422_2 hs, R_a hs (by decide), S_ck422 hs, e1, zb_s, S_ck422 hs, f1]
  rfl
theorem r_cost0 (hs : Sy g) (hv : v 207 = m1) {nd ch : Nat} (hnd : nd < 8) : ∃ M', f_X12_costsAt n 422 (nI nd) (nI ch) (g, zrw M 424 v, ml) = some (nI 1, (g, zrw M' 424 v, ml)) ∧ FM M M' := by
  obtain ⟨M1, e1, e2, -⟩ := r_asked (M := M) (v := v) (ml := ml) (n := n) (a0 := nI nd) (a1 := nI (lev nd)) (a2 := nI ch) (a3 := v 164) (a4 := m1) hs
  refine ⟨M1, ?_, FM_434 e2 (FM_r M1)⟩
  unfold f_X12_costsAt
  simp only [li, ng1]
  rw [r_lev hnd, zb_s, S_gR422_2 hs, R_a hs (by decide), S_ck422 hs, e1, zb_s, S_ck422 hs, r_tells0 hs hv]
  rfl
theorem r_bar (hs : Sy g) (hn : 3000 < n) {i : Nat} {l : List Ci} {c : List (Nat × Nat)} (hi : i < 6) (hv : v 207 = nI i) (hL : LWr v i T D V) (hl : pRd false D V T 12 0 0 0 = .ok (l, c)) {k : Nat} : ∃ M', f_X12_isBarred n 422 (nI k) (g, zrw M 424 v, ml) = some (if BL l v k = nI 1 then nI 1 else nI 0, (g, zrw M' 424 v, ml)) ∧ FM M M' := by
  obtain ⟨M1, e1, e2, e3, e4, e5, e6, e7, e8, e9⟩ := r_asked (M := M) (v := v) (ml := ml) (n := n) (a0 := m1) (a1 := m1) (a2 := m1) (a3 := m1) (a4 := nI k) hs
  obtain ⟨M2, f1, f2⟩ := r_tells (M := M1) (ml := ml) (e := env m1 m1 m1 m1 (nI k) (v 190) (v 204)) (hd := 1) (w := nI 0) hs hn hi hv hL hl (env_r e3 e4 e5 e6 e7 e8 e9) (by decide)
  refine ⟨M2, ?_, FM_434 e2 f2⟩
  unfold f_X12_isBarred
  simp only [li, ng1]
  rw [S_ck422 hs, e1, zb_s, S_ck422 hs, f1, zb_s]
  show (if BL l v k = nI 1 then some (nI 1, _) else some (nI 0, _)) = _
  by_cases z : BL l v k = nI 1
  · rw [iP z, iP z]
  · rw [iN z, iN z]
theorem r_bar0 (hs : Sy g) (hv : v 207 = m1) {k : Nat} : ∃ M', f_X12_isBarred n 422 (nI k) (g, zrw M 424 v, ml) = some (nI 0, (g, zrw M' 424 v, ml)) ∧ FM M M' := by
  obtain ⟨M1, e1, e2, -⟩ := r_asked (M := M) (v := v) (ml := ml) (n := n) (a0 := m1) (a1 := m1) (a2 := m1) (a3 := m1) (a4 := nI k) hs
  refine ⟨M1, ?_, FM_434 e2 (FM_r M1)⟩
  unfold f_X12_isBarred
  simp only [li, ng1]
  rw [S_ck422 hs, e1, zb_s, S_ck422 hs, r_tells0 hs hv, zb_s, iN n01]
end
