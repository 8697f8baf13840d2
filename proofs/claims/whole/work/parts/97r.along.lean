/-! orders: the plain form goes along a clause -/
theorem Mg_f {M : Nat → Nat → Int32} {x b : Int32} : Mg M x b = Mf (Mf M 22 x) 24 b := by
  funext a k
  unfold Mg Mf
  by_cases h : a = 422
  · rw [if_pos h, if_pos h]
    by_cases h2 : k = 24
    · subst h2
      rw [if_neg (by decide), if_pos rfl, if_pos rfl]
    · rw [if_neg h2, if_pos h, if_neg h2]
  · rw [if_neg h, if_neg h, if_neg h]
theorem Mf_same {M : Nat → Nat → Int32} {k : Nat} {x : Int32} (h : M 422 k = x) : Mf M k x = M := by
  funext a j
  unfold Mf
  by_cases h1 : a = 422
  · subst h1
    rw [if_pos rfl]
    by_cases h2 : j = k
    · subst h2; rw [if_pos rfl, h]
    · rw [if_neg h2]
  · rw [if_neg h1]
theorem Mf_mf {M : Nat → Nat → Int32} {k : Nat} {x y : Int32} : Mf (Mf M k x) k y = Mf M k y := by
  funext a j
  unfold Mf
  by_cases h1 : a = 422
  · rw [if_pos h1, if_pos h1, if_pos h1]
    by_cases h2 : j = k
    · rw [if_pos h2, if_pos h2]
    · rw [if_neg h2, if_neg h2, if_neg h2]
  · rw [if_neg h1, if_neg h1, if_neg h1]
/-- what one clause's look leaves alone -/
def FO (M M' : Nat → Nat → Int32) : Prop := (∀ a, a ≠ 422 → M' a = M a) ∧ ∀ k, (k < 22 ∨ (25 < k ∧ k < 35) ∨ 38 < k) → M' 422 k = M 422 k
theorem FO_t {M M' M'' : Nat → Nat → Int32} (h : FO M M') (h' : FO M' M'') : FO M M'' := ⟨fun a ha => (h'.1 a ha).trans (h.1 a ha), fun k hk => (h'.2 k hk).trans (h.2 k hk)⟩
theorem FO_f {M : Nat → Nat → Int32} {k : Nat} {x : Int32} (hk : (22 ≤ k ∧ k ≤ 25) ∨ (35 ≤ k ∧ k ≤ 38)) : FO M (Mf M k x) := ⟨fun a ha => Mf_a ha, fun j hj => Mf_k (by omega)⟩
theorem FO_r {M : Nat → Nat → Int32} : FO M M := ⟨fun _ _ => rfl, fun _ _ => rfl⟩
section
variable {g : zS} {M : Nat → Nat → Int32} {ml : Nat → Nat → Int64} {n B T : Nat} {v F : Nat → Int32} {D V : Nat → Nat}
theorem a_sum (hs : Sy g) (hn : 3000 < n) (hE : EV M v B T D V) (hO : EO true n g M v F) {i p j p' : Nat} {c : List (Nat × Nat)} {d : DS} {lv : Int32} (hi : i ≤ T) (hp : p ≤ 50) (hd : pSum true D V 8 i p = .ok (j, p', c, d)) (hl : lv = nI 0 ∨ lv = nI 1) (h22 : M 422 22 = nI (B + i)) (h24 : M 422 24 = nI 0) : ∃ r b', f_X12_sumOf n 12 422 lv (g, zrw M 424 v, ml) = some (r, (g, zrw (Mf (Mf M 22 (nI (B + j))) 24 b') 424 v, ml)) ∧ Res lv (nI 0) b' r (d F) := by
  obtain ⟨r, b', e1, e2⟩ := e_sum hs hE hO hn 8 12 (by decide) i p j p' c d hi hp hd lv (nI 0) ml hl (Or.inl rfl)
  have em : Mg M (nI (B + i)) (nI 0) = M := by rw [Mg_f, Mf_same h22, Mf_same h24]
  rw [em, Mg_f] at e1
  exact ⟨r, b', e1, e2⟩
theorem a_test (hs : Sy g) (hn : 3000 < n) (hE : EV M v B T D V) (hO : EO true n g M v F) {i p j p' k : Nat} {c : Nat → List (Nat × Nat)} {d : DT} {lv : Int32} (hi : i ≤ T) (hp : p ≤ 50) (hd : pTest true D V 8 i p = .ok (j, p', k, c, d)) (hl : lv = nI 0 ∨ lv = nI 1) (h22 : M 422 22 = nI (B + i)) (h24 : M 422 24 = nI 0) : ∃ r b', f_X12_testOf n 12 422 lv (g, zrw M 424 v, ml) = some (r, (g, zrw (Mf (Mf M 22 (nI (B + j))) 24 b') 424 v, ml)) ∧ RsT lv (nI 0) b' r (d F) := by
  obtain ⟨r, b', e1, e2⟩ := e_test hs hE hO hn 8 12 (by decide) (by decide) i p j p' k c d hi hp hd lv (nI 0) ml hl (Or.inl rfl)
  have em : Mg M (nI (B + i)) (nI 0) = M := by rw [Mg_f, Mf_same h22, Mf_same h24]
  rw [em, Mg_f] at e1
  exact ⟨r, b', e1, e2⟩
theorem a_pass (hs : Sy g) (hE : EV M v B T D V) {i c : Nat} (hi : i ≤ T) (hc : c < 1000) (h22 : M 422 22 = nI (B + i)) : f_X12_passes0 n 422 (nI c) (g, zrw M 424 v, ml) = if D i = c then some (nI 1, (g, zrw (Mf M 22 (nI (B + (i + 1)))) 424 v, ml)) else some (nI 0, (g, zrw M 424 v, ml)) := by
  have e := e_pass (n := n) (ml := ml) (b := M 422 24) hs hE hi hc
  have em : Mg M (nI (B + i)) (M 422 24) = M := by rw [← h22]; exact Mg_e M
  have em2 : Mg M (nI (B + (i + 1))) (M 422 24) = Mf M 22 (nI (B + (i + 1))) := by
    rw [Mg_f]
    exact Mf_same (Mf_k (by decide))
  rw [em, em2] at e
  exact e
/-- one sum of a clause -/
theorem a_one (hs : Sy g) (hn : 3000 < n) (hE : ∀ M, M 422 23 = nI (B + T) → EV M v B T D V) {dn lt : Int32} (hO : ∀ M, M 422 25 = nI 1 → M 422 27 = dn → M 422 28 = lt → EO true n g M v F) {i p j p' t q : Nat} {c : List (Nat × Nat)} {d : DS} {lv s0 : Int32} {K : Nat → Int32 → Int32 → Int32 → zH → Option (Unit × zH)} (hi : i ≤ T) (hp : p ≤ 50) (hd : pSum true D V 8 i p = .ok (j, p', c, d)) (hl : lv = nI 0 ∨ lv = nI 1) (h22 : M 422 22 = nI (B + i)) (h23 : M 422 23 = nI (B + T)) (h25 : M 422 25 = nI 1) (h27 : M 422 27 = dn) (h28 : M 422 28 = lt) (ht : t < 2) (hq : q < 2) (h37 : M 422 37 = nI q) : ∃ M' r q', fb_X12_goesAlong_97 n K 422 lv s0 (nI t) (g, zrw M 424 v, ml) = K 422 lv s0 (nI (t + 1)) (g, zrw M' 424 v, zu ml 438 t r) ∧ FO M M' ∧ (M' 422 22 = nI (B + j) ∧ M' 422 23 = nI (B + T) ∧ M' 422 25 = nI 1 ∧ M' 422 36 = M 422 36) ∧ (q' < 2 ∧ M' 422 37 = nI q') ∧ (lv = nI 1 → (∀ y, d F = some y → r = y ∧ q' = q) ∧ (d F = none → q' = 0)) := by
  obtain ⟨M1, hM1⟩ : ∃ y, y = Mf M 24 (nI 0) := ⟨_, rfl⟩
  have k1 : ∀ k, k ≠ 24 → M1 422 k = M 422 k := fun k hk => by rw [hM1, Mf_k hk]
  obtain ⟨r, b', e1, e2⟩ := a_sum (M := M1) (ml := ml) (lv := lv) hs hn (hE M1 (by rw [k1 23 (by decide)]; exact h23)) (hO M1 (by rw [k1 25 (by decide)]; exact h25) (by rw [k1 27 (by decide)]; exact h27) (by rw [k1 28 (by decide)]; exact h28)) hi hp hd hl (by rw [k1 22 (by decide)]; exact h22) (by rw [hM1, Mf_s])
  obtain ⟨M2, hM2⟩ : ∃ y, y = Mf (Mf M1 22 (nI (B + j))) 24 b' := ⟨_, rfl⟩
  rw [← hM2] at e1
  have k2 : ∀ k, k ≠ 22 → k ≠ 24 → M2 422 k = M 422 k := fun k x1 x2 => by rw [hM2, Mf_k x2, Mf_k x1, k1 k x2]
  have k22 : M2 422 22 = nI (B + j) := by rw [hM2, Mf_k (by decide), Mf_s]
  have k24 : M2 422 24 = b' := by rw [hM2, Mf_s]
  have F2 : FO M M2 := by
    rw [hM2, hM1]
    exact FO_t (FO_t (FO_f (by decide)) (FO_f (by decide))) (FO_f (by decide))
  have G : ∀ {ρ : Type} (k : Nat) (KK : Int32 → Option ρ) (ml : Nat → Nat → Int64), zgI ((g, zrw M2 424 v, ml) : zH) 13 422 k KK = KK (M2 422 k) := fun k KK ml => by rw [S_gI422 hs, zrw_a (by decide)]
  have hb : b' = nI 0 ∨ b' = nI 1 := e2.1
  obtain ⟨q', hq'⟩ : ∃ q', q' = if q = 0 then 0 else if b' = nI 0 then 1 else 0 := ⟨_, rfl⟩
  have hq2 : q' < 2 := by
    rw [hq']
    split
    · omega
    · split <;> omega
  refine ⟨Mf M2 37 (nI q'), r, q', ?_, FO_t F2 (FO_f (by decide)), ⟨by rw [Mf_k (by decide)]; exact k22, by rw [Mf_k (by decide), k2 23 (by decide) (by decide)]; exact h23, by rw [Mf_k (by decide), k2 25 (by decide) (by decide)]; exact h25, by rw [Mf_k (by decide), k2 36 (by decide) (by decide)]⟩, ⟨hq2, Mf_s⟩, fun hlv => ⟨fun y hy => ?_, fun hy => ?_⟩⟩
  · unfold fb_X12_goesAlong_97 fb_X12_goesAlong_133 fb_X12_goesAlong_134
    simp only [li]
    rw [f_pz hs (Or.inl rfl), ← hM1, S_gR422_39 hs, S_ck422 hs, e1, zb_s, S_eL438 hs ht, G, k2 37 (by decide) (by decide), h37]
    by_cases z : q = 0
    · subst z
      rw [if_pos rfl] at hq'
      rw [iEq1 rfl, f_pz hs (Or.inl rfl), nI_add, hq']
    · rw [if_neg z] at hq'
      rw [iEq0 (by omega) (by omega) z, G, k24]
      by_cases w : b' = nI 0
      · rw [if_pos w] at hq'
        rw [iP w, f_pz hs (Or.inr rfl), nI_add, hq']
      · rw [if_neg w] at hq'
        rw [iN w, f_pz hs (Or.inl rfl), nI_add, hq']
  · obtain ⟨x1, x2⟩ := (e2.2.1 ⟨hlv, rfl⟩).1 y hy
    refine ⟨x1, ?_⟩
    rw [hq', if_pos x2]
    split <;> omega
  · have x2 := (e2.2.1 ⟨hlv, rfl⟩).2 hy
    rw [hq', x2, if_neg (show ¬ nI 1 = nI 0 by decide)]
    split <;> rfl
end
