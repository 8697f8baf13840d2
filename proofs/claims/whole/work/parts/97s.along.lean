/-! orders: the plain form goes along a whole clause -/
section
variable {g : zS} {M : Nat → Nat → Int32} {ml : Nat → Nat → Int64} {n B T : Nat} {v F : Nat → Int32} {D V : Nat → Nat} {dn lt lv : Int32}
theorem a_234 (hs : Sy g) {s x : Int32} (hss : s = nI 0 ∨ s = nI 1) (h22 : M 422 22 = x) : fb_X12_goesAlong_234 n 422 422 s (g, zrw M 424 v, ml) = some ((), (g, zrw (Mf (Mf M 38 s) 22 (x + nI 1)) 424 v, ml)) := by
  unfold fb_X12_goesAlong_234
  simp only [li]
  rw [f_pz hs hss, f_g hs, Mf_k (by decide), h22, f_p hs]
theorem a_211 (hs : Sy g) {s b x : Int32} (hss : s = nI 0 ∨ s = nI 1) (h22 : M 422 22 = x) (h24 : M 422 24 = b) : fb_X12_goesAlong_211 n 422 422 s (g, zrw M 424 v, ml) = some ((), (g, zrw (Mf (Mf M 38 (if s = nI 0 then nI 0 else if b = nI 0 then nI 1 else nI 0)) 22 (x + nI 1)) 424 v, ml)) := by
  unfold fb_X12_goesAlong_211 fb_X12_goesAlong_233
  simp only [li]
  rw [f_pz hs hss, f_g hs, Mf_s]
  have e22 : Mf M 38 s 422 22 = x := by rw [Mf_k (by decide)]; exact h22
  by_cases q : s = nI 0
  · rw [iP q, iP q, a_234 hs (Or.inl rfl) e22, Mf_mf]
  · rw [iN q, iN q, f_g hs, Mf_k (by decide), h24]
    by_cases w : b = nI 0
    · rw [iP w, iP w, a_234 hs (Or.inr rfl) e22, Mf_mf]
    · rw [iN w, iN w, a_234 hs (Or.inl rfl) e22, Mf_mf]
theorem a_184 (hs : Sy g) (hn : 3000 < n) (hE : ∀ M, M 422 23 = nI (B + T) → EV M v B T D V) (hO : ∀ M, M 422 25 = nI 1 → M 422 27 = dn → M 422 28 = lt → EO true n g M v F) (hT : D T = 0) {j1 j2 p1 : Nat} {q : Option (Nat × DT)} (hi : j1 ≤ T) (hp : p1 ≤ 50) (hq : (D j1 = 3 ∧ ∃ p2 k2 c2 L d, pTest true D V 8 (j1 + 1) p1 = .ok (j2, p2, k2, c2, d) ∧ q = some (L, d)) ∨ (D j1 ≠ 3 ∧ j2 = j1 ∧ q = none)) (hl : lv = nI 0 ∨ lv = nI 1) (h22 : M 422 22 = nI (B + j1)) (h23 : M 422 23 = nI (B + T)) (h25 : M 422 25 = nI 1) (h27 : M 422 27 = dn) (h28 : M 422 28 = lt) : ∃ M', fb_X12_goesAlong_184 n 422 lv (g, zrw M 424 v, ml) = some ((), (g, zrw M' 424 v, ml)) ∧ FO M M' ∧ (M' 422 22 = nI (B + (j2 + 1)) ∧ M' 422 35 = M 422 35 ∧ M' 422 36 = M 422 36 ∧ M' 422 37 = M 422 37) ∧ (M' 422 38 = nI 0 ∨ M' 422 38 = nI 1) ∧ (lv = nI 1 → M' 422 38 = if tsq F q = true then nI 1 else nI 0) := by
  obtain ⟨M1, hM1⟩ : ∃ y, y = Mf M 24 (nI 0) := ⟨_, rfl⟩
  have k1 : ∀ k, k ≠ 24 → M1 422 k = M 422 k := fun k hk => by rw [hM1, Mf_k hk]
  have k24 : M1 422 24 = nI 0 := by rw [hM1, Mf_s]
  have F1 : FO M M1 := by rw [hM1]; exact FO_f (by decide)
  have E1 := hE M1 (by rw [k1 23 (by decide)]; exact h23)
  have e0 := a_pass (n := n) (ml := ml) (c := 3) hs E1 hi (by decide) (by rw [k1 22 (by decide)]; exact h22)
  rcases hq with ⟨q1, p2, k2, c2, L, d, q2, q3⟩ | ⟨q1, q2, q3⟩
  · rw [if_pos q1] at e0
    have hlt := ne_T hT hi (by omega)
    obtain ⟨M2, hM2⟩ : ∃ y, y = Mf M1 22 (nI (B + (j1 + 1))) := ⟨_, rfl⟩
    rw [← hM2] at e0
    have k2 : ∀ k, k ≠ 22 → M2 422 k = M1 422 k := fun k hk => by rw [hM2, Mf_k hk]
    obtain ⟨r, b', e1, e2⟩ := a_test (M := M2) (ml := ml) (lv := lv) hs hn (hE M2 (by rw [k2 23 (by decide), k1 23 (by decide)]; exact h23)) (hO M2 (by rw [k2 25 (by decide), k1 25 (by decide)]; exact h25) (by rw [k2 27 (by decide), k1 27 (by decide)]; exact h27) (by rw [k2 28 (by decide), k1 28 (by decide)]; exact h28)) (by omega) hp q2 hl (by rw [hM2, Mf_s]) (by rw [k2 24 (by decide)]; exact k24)
    obtain ⟨M3, hM3⟩ : ∃ y, y = Mf (Mf M2 22 (nI (B + j2))) 24 b' := ⟨_, rfl⟩
    rw [← hM3] at e1
    have k3 : ∀ k, k ≠ 22 → k ≠ 24 → M3 422 k = M 422 k := fun k x1 x2 => by rw [hM3, Mf_k x2, Mf_k x1, k2 k x1, k1 k x2]
    have k322 : M3 422 22 = nI (B + j2) := by rw [hM3, Mf_k (by decide), Mf_s]
    have k324 : M3 422 24 = b' := by rw [hM3, Mf_s]
    have F3 : FO M M3 := by
      rw [hM3, hM2]
      exact FO_t (FO_t (FO_t F1 (FO_f (by decide))) (FO_f (by decide))) (FO_f (by decide))
    have hr : r = nI 0 ∨ r = nI 1 := e2.2.1
    have ea := a_211 (n := n) (ml := ml) (v := v) hs hr k322 k324
    refine ⟨Mf (Mf M3 38 (if r = nI 0 then nI 0 else if b' = nI 0 then nI 1 else nI 0)) 22 (nI (B + j2) + nI 1), ?_, FO_t (FO_t F3 (FO_f (by decide))) (FO_f (by decide)), ⟨?_, ?_, ?_, ?_⟩, ?_, fun hlv => ?_⟩
    · unfold fb_X12_goesAlong_184 fb_X12_goesAlong_206
      simp only [li]
      rw [f_pz hs (Or.inl rfl), ← hM1, S_ck422 hs, e0, zb_s, iN n01.symm, S_ck422 hs, e1, zb_s]
      rcases hr with z | z
      · rw [iP z]
        refine Eq.trans ?_ ea
        rw [z]
      · rw [iN (by rw [z]; exact n01.symm)]
        refine Eq.trans ?_ ea
        rw [z]
    · rw [Mf_s, nI_add]; rfl
    · rw [Mf_k (by decide), Mf_k (by decide), k3 35 (by decide) (by decide)]
    · rw [Mf_k (by decide), Mf_k (by decide), k3 36 (by decide) (by decide)]
    · rw [Mf_k (by decide), Mf_k (by decide), k3 37 (by decide) (by decide)]
    · rw [Mf_k (by decide), Mf_s]
      show (if r = nI 0 then nI 0 else if b' = nI 0 then nI 1 else nI 0) = nI 0 ∨ (if r = nI 0 then nI 0 else if b' = nI 0 then nI 1 else nI 0) = nI 1
      by_cases z : r = nI 0
      · rw [if_pos z]; exact Or.inl rfl
      · rw [if_neg z]
        by_cases w : b' = nI 0
        · rw [if_pos w]; exact Or.inr rfl
        · rw [if_neg w]; exact Or.inl rfl
    · rw [Mf_k (by decide), Mf_s]
      show (if r = nI 0 then nI 0 else if b' = nI 0 then nI 1 else nI 0) = _
      rw [q3]
      unfold tsq
      obtain ⟨y1, y2⟩ := e2.2.2.1 ⟨hlv, rfl⟩
      cases hd : d F with
      | none =>
        rw [y2 hd]
        simp only [hd]
        by_cases z : r = nI 0
        · rw [if_pos z]; rfl
        · rw [if_neg z]; rfl
      | some x =>
        obtain ⟨z1, z2⟩ := y1 x hd
        simp only [hd]
        rw [z1, z2]
        cases x <;> rfl
  · rw [if_neg q1] at e0
    have ea := a_211 (n := n) (ml := ml) (v := v) (s := nI 1) hs (Or.inr rfl) (show M1 422 22 = nI (B + j1) by rw [k1 22 (by decide)]; exact h22) k24
    rw [if_neg (by decide), if_pos rfl] at ea
    refine ⟨_, ?_, FO_t (FO_t F1 (FO_f (k := 38) (x := nI 1) (by decide))) (FO_f (k := 22) (x := nI (B + j1) + nI 1) (by decide)), ⟨?_, ?_, ?_, ?_⟩, ?_, fun hlv => ?_⟩
    · unfold fb_X12_goesAlong_184 fb_X12_goesAlong_206
      simp only [li]
      rw [f_pz hs (Or.inl rfl), ← hM1, S_ck422 hs, e0, zb_s, iP rfl, ea]
    · rw [Mf_s, nI_add, q2]; rfl
    · rw [Mf_k (by decide), Mf_k (by decide), k1 35 (by decide)]
    · rw [Mf_k (by decide), Mf_k (by decide), k1 36 (by decide)]
    · rw [Mf_k (by decide), Mf_k (by decide), k1 37 (by decide)]
    · rw [Mf_k (by decide), Mf_s]; exact Or.inr rfl
    · rw [Mf_k (by decide), Mf_s, q3]; rfl
theorem a_143 (hs : Sy g) (hn : 3000 < n) (hE : ∀ M, M 422 23 = nI (B + T) → EV M v B T D V) (hO : ∀ M, M 422 25 = nI 1 → M 422 27 = dn → M 422 28 = lt → EO true n g M v F) (hT : D T = 0) {i0 j1 j2 p p1 kd kd1 tm : Nat} {c c1 : List (Nat × Nat)} {f1 f2 f11 f21 : Option (Nat × DS)} {q : Option (Nat × DT)} (hi : i0 ≤ T) (hp : p1 ≤ 50) (hti : pTi D V i0 p c kd f1 f2 = .ok (j1, p1, c1, kd1, f11, f21, tm)) (hq : (D j1 = 3 ∧ ∃ p2 k2 c2 L d, pTest true D V 8 (j1 + 1) p1 = .ok (j2, p2, k2, c2, d) ∧ q = some (L, d)) ∨ (D j1 ≠ 3 ∧ j2 = j1 ∧ q = none)) (hl : lv = nI 0 ∨ lv = nI 1) (h22 : M 422 22 = nI (B + i0)) (h23 : M 422 23 = nI (B + T)) (h25 : M 422 25 = nI 1) (h27 : M 422 27 = dn) (h28 : M 422 28 = lt) : ∃ M', fb_X12_goesAlong_143 n 422 lv (g, zrw M 424 v, ml) = some ((), (g, zrw M' 424 v, ml)) ∧ FO M M' ∧ (M' 422 22 = nI (B + (j2 + 1)) ∧ M' 422 35 = nI tm ∧ M' 422 36 = M 422 36 ∧ M' 422 37 = M 422 37) ∧ (M' 422 38 = nI 0 ∨ M' 422 38 = nI 1) ∧ (lv = nI 1 → M' 422 38 = if tsq F q = true then nI 1 else nI 0) := by
  obtain ⟨M1, hM1⟩ : ∃ y, y = Mf M 35 (nI 1) := ⟨_, rfl⟩
  have k1 : ∀ k, k ≠ 35 → M1 422 k = M 422 k := fun k hk => by rw [hM1, Mf_k hk]
  have F1 : FO M M1 := by rw [hM1]; exact FO_f (by decide)
  have E1 := hE M1 (by rw [k1 23 (by decide)]; exact h23)
  have hB := E1.1.2
  have e0 := a_pass (n := n) (ml := ml) (c := 29) hs E1 hi (by decide) (by rw [k1 22 (by decide)]; exact h22)
  unfold pTi at hti
  by_cases q29 : D i0 = 29
  · rw [if_pos q29] at hti e0
    by_cases q50 : D (i0 + 1) = 50 ∧ 1 ≤ V (i0 + 1) ∧ V (i0 + 1) ≤ 20
    · rw [if_pos q50] at hti
      cases hti
      have l1 := ne_T hT hi (by omega)
      have l2 := ne_T hT (show i0 + 1 ≤ T by omega) (by omega)
      have ev := (E1.2.1 (i0 + 1) l2).2 q50.1 (by omega)
      obtain ⟨M2, hM2⟩ : ∃ y, y = Mf (Mf (Mf M1 22 (nI (B + (i0 + 1)))) 35 (nI (V (i0 + 1)))) 22 (nI (B + (i0 + 2))) := ⟨_, rfl⟩
      have k2 : ∀ k, k ≠ 22 → k ≠ 35 → M2 422 k = M 422 k := fun k x1 x2 => by rw [hM2, Mf_k x1, Mf_k x2, Mf_k x1, k1 k x2]
      obtain ⟨M', a1, a2, ⟨a3, a4, a5, a6⟩, a7, a8⟩ := a_184 (M := M2) (ml := ml) (lv := lv) hs hn hE hO hT (by omega) hp hq hl (by rw [hM2, Mf_s]) (by rw [k2 23 (by decide) (by decide)]; exact h23) (by rw [k2 25 (by decide) (by decide)]; exact h25) (by rw [k2 27 (by decide) (by decide)]; exact h27) (by rw [k2 28 (by decide) (by decide)]; exact h28)
      refine ⟨M', ?_, FO_t (by rw [hM2]; exact FO_t (FO_t (FO_t F1 (FO_f (by decide))) (FO_f (by decide))) (FO_f (by decide))) a2, ⟨a3, by rw [a4, hM2, Mf_k (by decide), Mf_s], by rw [a5, k2 36 (by decide) (by decide)], by rw [a6, k2 37 (by decide) (by decide)]⟩, a7, a8⟩
      unfold fb_X12_goesAlong_143
      simp only [li]
      rw [f_p hs, ← hM1, S_ck422 hs, e0, zb_s, iN n01.symm, S_gR422_2 hs, f_g hs, Mf_s, nI_add, R_a hs (by omega), ev, f_p hs, f_g hs, Mf_k (by decide), Mf_s, nI_add, f_p hs]
      have e2 : B + (i0 + 1) + 1 = B + (i0 + 2) := by omega
      rw [e2, ← hM2, a1]
    · rw [if_neg q50] at hti; exact absurd hti (by simp)
  · rw [if_neg q29] at hti e0
    cases hti
    obtain ⟨M', a1, a2, ⟨a3, a4, a5, a6⟩, a7, a8⟩ := a_184 (M := M1) (ml := ml) (lv := lv) hs hn hE hO hT hi hp hq hl (by rw [k1 22 (by decide)]; exact h22) (by rw [k1 23 (by decide)]; exact h23) (by rw [k1 25 (by decide)]; exact h25) (by rw [k1 27 (by decide)]; exact h27) (by rw [k1 28 (by decide)]; exact h28)
    refine ⟨M', ?_, FO_t F1 a2, ⟨a3, by rw [a4, hM1, Mf_s], by rw [a5, k1 36 (by decide)], by rw [a6, k1 37 (by decide)]⟩, a7, a8⟩
    unfold fb_X12_goesAlong_143
    simp only [li]
    rw [f_p hs, ← hM1, S_ck422 hs, e0, zb_s, iP rfl, a1]
end
