/-! orders: the plain form goes along a clause, from its head -/
def sOk (F : Nat → Int32) (q : Option (Nat × DS)) : Bool := match q with
  | none => true
  | some f => (f.2 F).isSome
section
variable {g : zS} {M : Nat → Nat → Int32} {ml : Nat → Nat → Int64} {n B T : Nat} {v F : Nat → Int32} {D V : Nat → Nat} {dn lt lv : Int32}
theorem pW_s {i p L j p' : Nat} {c : List (Nat × Nat)} {f : Nat × DS} (h : pW true D V i p L = .ok (j, p', c, f)) : ∃ c', pSum true D V 8 i p = .ok (j, p', c', f.2) := by
  unfold pW at h
  cases hc : pSum true D V 8 i p with
  | error q => rw [hc] at h; exact absurd h (by simp)
  | ok x =>
    obtain ⟨j1, p1, c1, d1⟩ := x
    rw [hc] at h
    cases h
    exact ⟨c1, rfl⟩
theorem a_76 (hs : Sy g) {s t f : Nat} (ht : t < s) (hs2 : s ≤ 2) {x : Int32} (h22 : M 422 22 = x) : zlp4 (fb_X12_goesAlong_76 n) (f + 1) 422 lv (nI s) (nI t) (g, zrw M 424 v, ml) = fb_X12_goesAlong_97 n (zlp4 (fb_X12_goesAlong_76 n) f) 422 lv (nI s) (nI t) (g, zrw (if t = 0 then M else Mf M 22 (x + nI 1)) 424 v, ml) := by
  show fb_X12_goesAlong_76 n (zlp4 (fb_X12_goesAlong_76 n) f) 422 lv (nI s) (nI t) _ = _
  generalize zlp4 (fb_X12_goesAlong_76 n) f = K
  unfold fb_X12_goesAlong_76
  simp only [li]
  rw [iLe0 (by omega) (by omega) ht]
  by_cases q : t = 0
  · subst q
    rw [iLe1 (by omega) (by omega) (by omega), if_pos rfl]
  · rw [iLe0 (by omega) (by omega) (by omega), if_neg q, f_g hs, h22, f_p hs]
theorem a_76e {s f : Nat} (hs2 : s ≤ 2) {h : zH} : zlp4 (fb_X12_goesAlong_76 n) (f + 1) 422 lv (nI s) (nI s) h = fb_X12_goesAlong_143 n 422 lv h := by
  show fb_X12_goesAlong_76 n (zlp4 (fb_X12_goesAlong_76 n) f) 422 lv (nI s) (nI s) _ = _
  generalize zlp4 (fb_X12_goesAlong_76 n) f = K
  unfold fb_X12_goesAlong_76
  simp only [li]
  rw [iLe1 (by omega) (by omega) (by omega)]
theorem a_hd (hs : Sy g) (hn : 3000 < n) (hE : ∀ M, M 422 23 = nI (B + T) → EV M v B T D V) (hO : ∀ M, M 422 25 = nI 1 → M 422 27 = dn → M 422 28 = lt → EO true n g M v F) (hT : D T = 0) {i p L j1 j2 p1 kd tm : Nat} {c1 : List (Nat × Nat)} {f1 f2 : Option (Nat × DS)} {q : Option (Nat × DT)} (hi : i ≤ T) (hp : p ≤ 50) (hh : pHd true D V i p L = .ok (j1, p1, c1, kd, f1, f2, tm)) (hp1 : p1 ≤ 50) (hq : (D j1 = 3 ∧ ∃ p2 k2 c2 L d, pTest true D V 8 (j1 + 1) p1 = .ok (j2, p2, k2, c2, d) ∧ q = some (L, d)) ∨ (D j1 ≠ 3 ∧ j2 = j1 ∧ q = none)) (hl : lv = nI 0 ∨ lv = nI 1) (h34 : M 422 34 = nI (B + i)) (h27 : M 422 27 = dn) (h28 : M 422 28 = lt) : ∃ M' ml', f_X12_goesAlong n 422 (nI (B + T)) lv (g, zrw M 424 v, ml) = some ((), (g, zrw M' 424 v, ml')) ∧ FO M M' ∧ (∀ a, a ≠ 438 → ml' a = ml a) ∧ (M' 422 22 = nI (B + (j2 + 1)) ∧ M' 422 35 = nI tm ∧ M' 422 36 = nI (D i)) ∧ (kd = (if D i = 20 then 0 else D i - 21) ∧ 20 ≤ D i ∧ D i ≤ 28 ∧ D i ≠ 21) ∧ (lv = nI 1 → M' 422 38 = (if tsq F q = true then nI 1 else nI 0) ∧ M' 422 37 = (if (sOk F f1 && sOk F f2) = true then nI 1 else nI 0) ∧ ((sOk F f1 && sOk F f2) = true → (∀ f, f1 = some f → f.2 F = some (ml' 438 0)) ∧ ∀ f, f2 = some f → f.2 F = some (ml' 438 1))) := by
  obtain ⟨M0, hM0⟩ : ∃ y, y = Mf (Mf (Mf M 25 (nI 1)) 23 (nI (B + T))) 22 (nI (B + i)) := ⟨_, rfl⟩
  obtain ⟨Ms, hMs⟩ : ∃ y, y = Mf (Mf (Mf M0 36 (nI (D i))) 22 (nI (B + (i + 1)))) 37 (nI 1) := ⟨_, rfl⟩
  have k0 : ∀ k, k ≠ 22 → k ≠ 23 → k ≠ 25 → M0 422 k = M 422 k := fun k x1 x2 x3 => by rw [hM0, Mf_k x1, Mf_k x2, Mf_k x3]
  have k023 : M0 422 23 = nI (B + T) := by rw [hM0, Mf_k (by decide), Mf_s]
  have k022 : M0 422 22 = nI (B + i) := by rw [hM0, Mf_s]
  have k025 : M0 422 25 = nI 1 := by rw [hM0, Mf_k (by decide), Mf_k (by decide), Mf_s]
  have ks : ∀ k, k ≠ 22 → k ≠ 36 → k ≠ 37 → Ms 422 k = M0 422 k := fun k x1 x2 x3 => by rw [hMs, Mf_k x3, Mf_k x1, Mf_k x2]
  have ks22 : Ms 422 22 = nI (B + (i + 1)) := by rw [hMs, Mf_k (by decide), Mf_s]
  have ks36 : Ms 422 36 = nI (D i) := by rw [hMs, Mf_k (by decide), Mf_k (by decide), Mf_s]
  have ks37 : Ms 422 37 = nI 1 := by rw [hMs, Mf_s]
  have s23 : Ms 422 23 = nI (B + T) := by rw [ks 23 (by decide) (by decide) (by decide)]; exact k023
  have s25 : Ms 422 25 = nI 1 := by rw [ks 25 (by decide) (by decide) (by decide)]; exact k025
  have s27 : Ms 422 27 = dn := by rw [ks 27 (by decide) (by decide) (by decide), k0 27 (by decide) (by decide) (by decide)]; exact h27
  have s28 : Ms 422 28 = lt := by rw [ks 28 (by decide) (by decide) (by decide), k0 28 (by decide) (by decide) (by decide)]; exact h28
  have Fs : FO M Ms := by
    rw [hMs, hM0]
    exact FO_t (FO_t (FO_t (FO_t (FO_t (FO_f (by decide)) (FO_f (by decide))) (FO_f (by decide))) (FO_f (by decide))) (FO_f (by decide))) (FO_f (by decide))
  have E0 := hE M0 k023
  have hD := E0.2.2.2 i
  have hBT := E0.1.2
  have ec : f_X12_codeAt n 422 (nI (B + i)) (g, zrw M0 424 v, ml) = some (nI (D i), (g, zrw M0 424 v, ml)) := by
    have e := e_code (n := n) (ml := ml) (x := M0 422 22) (b := M0 422 24) hs E0 hi
    rw [Mg_e] at e
    exact e
  have U : f_X12_goesAlong n 422 (nI (B + T)) lv (g, zrw M 424 v, ml) = if D i = 28 then fb_X12_goesAlong_72 n 422 lv (nI 0) (g, zrw Ms 424 v, ml) else if D i = 20 then fb_X12_goesAlong_72 n 422 lv (nI 2) (g, zrw Ms 424 v, ml) else fb_X12_goesAlong_72 n 422 lv (nI 1) (g, zrw Ms 424 v, ml) := by
    unfold f_X12_goesAlong
    simp only [li]
    rw [f_pz hs (Or.inr rfl), f_p hs, f_g hs, Mf_k (by decide), Mf_k (by decide), h34, f_p hs, ← hM0, f_g hs, k022, S_ck422 hs, ec, zb_s, f_p hs, f_g hs, Mf_k (by decide), k022, nI_add, f_p hs, f_pz hs (Or.inr rfl)]
    have e2 : B + i + 1 = B + (i + 1) := by omega
    rw [e2, ← hMs, f_g hs, ks36]
    by_cases q1 : D i = 28
    · rw [if_pos q1, iEq1 q1]
    · rw [if_neg q1, iEq0 (by omega) (by omega) q1, f_g hs, ks36]
      by_cases q2 : D i = 20
      · rw [if_pos q2, iEq1 q2]
      · rw [if_neg q2, iEq0 (by omega) (by omega) q2]
  obtain ⟨m, hm⟩ : ∃ m, n = m + 3 := ⟨n - 3, by omega⟩
  have U72 : ∀ s h, fb_X12_goesAlong_72 n 422 lv s h = zlp4 (fb_X12_goesAlong_76 n) (m + 3) 422 lv s (nI 0) h := fun s h => by
    unfold fb_X12_goesAlong_72
    simp only [li]
    rw [← hm]
  unfold pHd at hh
  rw [if_pos rfl] at hh
  unfold pHo at hh
  by_cases q28 : D i = 28
  · rw [if_pos q28] at hh U
    have hlt := ne_T hT hi (by omega)
    obtain ⟨M', a1, a2, ⟨a3, a4, a5, a6⟩, a7, a8⟩ := a_143 (M := Ms) (ml := ml) (lv := lv) hs hn hE hO hT (by omega) hp1 hh hq hl ks22 s23 s25 s27 s28
    obtain ⟨e1, e2, e3⟩ := x_ti hh
    have ekd : kd = 7 := by
      unfold pTi at hh
      by_cases q29 : D (i + 1) = 29
      · rw [if_pos q29] at hh
        by_cases q50 : D (i + 1 + 1) = 50 ∧ 1 ≤ V (i + 1 + 1) ∧ V (i + 1 + 1) ≤ 20
        · rw [if_pos q50] at hh; cases hh; rfl
        · rw [if_neg q50] at hh; exact absurd hh (by simp)
      · rw [if_neg q29] at hh; cases hh; rfl
    refine ⟨M', ml, by rw [U, U72, a_76e (by decide), a1], FO_t Fs a2, fun _ _ => rfl, ⟨a3, a4, by rw [a5, ks36]⟩, ⟨by rw [if_neg (by omega)]; omega, by omega, by omega, by omega⟩, fun hlv => ⟨a8 hlv, ?_, fun _ => ⟨fun f hf => ?_, fun f hf => ?_⟩⟩⟩
    · rw [a6, ks37, e2, e3]; rfl
    · rw [e2] at hf; exact absurd hf (by simp)
    · rw [e3] at hf; exact absurd hf (by simp)
  · rw [if_neg q28] at hh U
    by_cases q20 : D i = 20
    · rw [if_pos q20] at hh U
      have hlt := ne_T hT hi (by omega)
      cases hc : pW true D V (i + 1) p L with
      | error q => rw [hc] at hh; exact absurd hh (by simp)
      | ok y =>
        obtain ⟨ja, pa, ca, fa⟩ := y
        rw [hc] at hh
        obtain ⟨b1, b2, b3, b4, b5⟩ := ok_w hT (by omega) hp hc
        dsimp only at hh
        by_cases q21 : D ja = 21
        · rw [if_pos q21] at hh
          have hlt2 := ne_T hT b2 (by omega)
          cases hc2 : pW true D V (ja + 1) pa (L + ca.length) with
          | error q => rw [hc2] at hh; exact absurd hh (by simp)
          | ok y =>
            obtain ⟨jb, pb, cb, fb⟩ := y
            rw [hc2] at hh
            dsimp only at hh
            obtain ⟨d1, d2, d3, d4, d5⟩ := ok_w hT (by omega) b4 hc2
            obtain ⟨ca', hca⟩ := pW_s hc
            obtain ⟨cb', hcb⟩ := pW_s hc2
            obtain ⟨M1, r1, qa, x1, x2, ⟨x3, x4, x5, x6⟩, ⟨x7, x8⟩, x9⟩ := a_one (M := Ms) (ml := ml) (lv := lv) (t := 0) (q := 1) (s0 := nI 2) (K := zlp4 (fb_X12_goesAlong_76 n) (m + 2)) hs hn hE hO (by omega) hp hca hl ks22 s23 s25 s27 s28 (by decide) (by decide) ks37
            have y27 : M1 422 27 = dn := by rw [x2.2 27 (by decide)]; exact s27
            have y28 : M1 422 28 = lt := by rw [x2.2 28 (by decide)]; exact s28
            obtain ⟨M1', hM1'⟩ : ∃ y, y = Mf M1 22 (nI (B + ja) + nI 1) := ⟨_, rfl⟩
            have kk : ∀ k, k ≠ 22 → M1' 422 k = M1 422 k := fun k hk => by rw [hM1', Mf_k hk]
            obtain ⟨M2, r2, qb, z1, z2, ⟨z3, z4, z5, z6⟩, ⟨z7, z8⟩, z9⟩ := a_one (M := M1') (ml := zu ml 438 0 r1) (lv := lv) (t := 1) (q := qa) (s0 := nI 2) (K := zlp4 (fb_X12_goesAlong_76 n) (m + 1)) hs hn hE hO (by omega) b4 hcb hl (by rw [hM1', Mf_s, nI_add]; rfl) (by rw [kk 23 (by decide)]; exact x4) (by rw [kk 25 (by decide)]; exact x5) (by rw [kk 27 (by decide)]; exact y27) (by rw [kk 28 (by decide)]; exact y28) (by decide) x7 (by rw [kk 37 (by decide)]; exact x8)
            have F12 : FO Ms M2 := FO_t (FO_t x2 (by rw [hM1']; exact FO_f (by decide))) z2
            obtain ⟨M', a1, a2, ⟨a3, a4, a5, a6⟩, a7, a8⟩ := a_143 (M := M2) (ml := zu (zu ml 438 0 r1) 438 1 r2) (lv := lv) hs hn hE hO hT (by omega) hp1 hh hq hl z3 z4 z5 (by rw [F12.2 27 (by decide)]; exact s27) (by rw [F12.2 28 (by decide)]; exact s28)
            obtain ⟨e1, e2, e3⟩ := x_ti hh
            have ekd : kd = 0 := by
              unfold pTi at hh
              by_cases q29 : D jb = 29
              · rw [if_pos q29] at hh
                by_cases q50 : D (jb + 1) = 50 ∧ 1 ≤ V (jb + 1) ∧ V (jb + 1) ≤ 20
                · rw [if_pos q50] at hh; cases hh; rfl
                · rw [if_neg q50] at hh; exact absurd hh (by simp)
              · rw [if_neg q29] at hh; cases hh; rfl
            refine ⟨M', zu (zu ml 438 0 r1) 438 1 r2, ?_, FO_t (FO_t Fs F12) a2, fun a ha => by rw [zul_a ha, zul_a ha], ⟨a3, a4, by rw [a5, z6, kk 36 (by decide), x6, ks36]⟩, ⟨by rw [if_pos q20]; exact ekd, by omega, by omega, by omega⟩, fun hlv => ⟨a8 hlv, ?_, fun hok => ⟨fun f hf => ?_, fun f hf => ?_⟩⟩⟩
            · rw [U, U72, a_76 hs (by decide) (by decide) ks22, if_pos rfl, x1, a_76 hs (by decide) (by decide) x3, if_neg (by decide), ← hM1', z1, a_76e (by decide), a1]
            · rw [a6, z8, e2, e3]
              obtain ⟨u1, u2⟩ := x9 hlv
              obtain ⟨w1, w2⟩ := z9 hlv
              have key : ((sOk F (some fa) && sOk F (some fb)) = true ∧ qb = 1) ∨ ((sOk F (some fa) && sOk F (some fb)) = false ∧ qb = 0) := by
                unfold sOk
                dsimp only
                cases h1 : fa.2 F with
                | none =>
                  have h3 := u2 h1
                  cases h2 : fb.2 F with
                  | none => exact Or.inr ⟨rfl, w2 h2⟩
                  | some y => exact Or.inr ⟨rfl, by rw [(w1 y h2).2]; exact h3⟩
                | some y1 =>
                  have h3 := (u1 y1 h1).2
                  cases h2 : fb.2 F with
                  | none => exact Or.inr ⟨rfl, w2 h2⟩
                  | some y => exact Or.inl ⟨rfl, by rw [(w1 y h2).2]; exact h3⟩
              rcases key with ⟨y1, y2⟩ | ⟨y1, y2⟩
              · rw [iP y1, y2]
              · rw [iN (by rw [y1]; decide), y2]
            · rw [e2] at hf
              cases hf
              rw [e2, e3] at hok
              unfold sOk at hok
              dsimp only at hok
              cases h1 : fa.2 F with
              | none => rw [h1] at hok; exact absurd hok (by simp)
              | some y1 => rw [zul_k (by decide), zul_s, ((x9 hlv).1 y1 h1).1]
            · rw [e3] at hf
              cases hf
              rw [e2, e3] at hok
              unfold sOk at hok
              dsimp only at hok
              cases h2 : fb.2 F with
              | none => rw [h2] at hok; exact absurd hok (by simp)
              | some y1 => rw [zul_s, ((z9 hlv).1 y1 h2).1]
        · rw [if_neg q21] at hh; exact absurd hh (by simp)
    · rw [if_neg q20] at hh U
      by_cases q22 : 22 ≤ D i ∧ D i ≤ 27
      · rw [if_pos q22] at hh
        have hlt := ne_T hT hi (by omega)
        cases hc : pW true D V (i + 1) p L with
        | error q => rw [hc] at hh; exact absurd hh (by simp)
        | ok y =>
          obtain ⟨ja, pa, ca, fa⟩ := y
          rw [hc] at hh
          dsimp only at hh
          obtain ⟨b1, b2, b3, b4, b5⟩ := ok_w hT (by omega) hp hc
          obtain ⟨ca', hca⟩ := pW_s hc
          obtain ⟨M1, r1, qa, x1, x2, ⟨x3, x4, x5, x6⟩, ⟨x7, x8⟩, x9⟩ := a_one (M := Ms) (ml := ml) (lv := lv) (t := 0) (q := 1) (s0 := nI 1) (K := zlp4 (fb_X12_goesAlong_76 n) (m + 2)) hs hn hE hO (by omega) hp hca hl ks22 s23 s25 s27 s28 (by decide) (by decide) ks37
          obtain ⟨M', a1, a2, ⟨a3, a4, a5, a6⟩, a7, a8⟩ := a_143 (M := M1) (ml := zu ml 438 0 r1) (lv := lv) hs hn hE hO hT (by omega) hp1 hh hq hl x3 x4 x5 (by rw [x2.2 27 (by decide)]; exact s27) (by rw [x2.2 28 (by decide)]; exact s28)
          obtain ⟨e1, e2, e3⟩ := x_ti hh
          have ekd : kd = D i - 21 := by
            unfold pTi at hh
            by_cases q29 : D ja = 29
            · rw [if_pos q29] at hh
              by_cases q50 : D (ja + 1) = 50 ∧ 1 ≤ V (ja + 1) ∧ V (ja + 1) ≤ 20
              · rw [if_pos q50] at hh; cases hh; rfl
              · rw [if_neg q50] at hh; exact absurd hh (by simp)
            · rw [if_neg q29] at hh; cases hh; rfl
          refine ⟨M', zu ml 438 0 r1, ?_, FO_t (FO_t Fs x2) a2, fun a ha => by rw [zul_a ha], ⟨a3, a4, by rw [a5, x6, ks36]⟩, ⟨by rw [if_neg q20]; exact ekd, by omega, by omega, by omega⟩, fun hlv => ⟨a8 hlv, ?_, fun hok => ⟨fun f hf => ?_, fun f hf => ?_⟩⟩⟩
          · rw [U, U72, a_76 hs (by decide) (by decide) ks22, if_pos rfl, x1, a_76e (by decide), a1]
          · rw [a6, x8, e2, e3]
            obtain ⟨u1, u2⟩ := x9 hlv
            have key : ((sOk F (some fa) && sOk F none) = true ∧ qa = 1) ∨ ((sOk F (some fa) && sOk F none) = false ∧ qa = 0) := by
              unfold sOk
              dsimp only
              cases h1 : fa.2 F with
              | none => exact Or.inr ⟨rfl, u2 h1⟩
              | some y1 => exact Or.inl ⟨rfl, (u1 y1 h1).2⟩
            rcases key with ⟨y1, y2⟩ | ⟨y1, y2⟩
            · rw [iP y1, y2]
            · rw [iN (by rw [y1]; decide), y2]
          · rw [e2] at hf
            cases hf
            rw [e2, e3] at hok
            unfold sOk at hok
            dsimp only at hok
            cases h1 : fa.2 F with
            | none => rw [h1] at hok; exact absurd hok (by simp)
            | some y1 => rw [zul_s, ((x9 hlv).1 y1 h1).1]
          · rw [e3] at hf; exact absurd hf (by simp)
      · rw [if_neg q22] at hh; exact absurd hh (by simp)
end
