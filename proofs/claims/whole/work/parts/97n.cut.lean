/-! a text cut to its size; a text laid into the plain row -/
def gN (g : zS) (c k s : Nat) : zS := (zup g.1 (g.2.2.2.1 + 1) c, zup g.2.1 (g.2.2.2.1 + 1) k, zrw g.2.2.1 (g.2.2.2.1 + 1) (fun _ => 0), g.2.2.2.1 + 1, g.2.2.2.2 + s)
def gP (g : zS) (a k v : Nat) : zS := (g.1, g.2.1, zu g.2.2.1 a k v, g.2.2.2)
section
variable {ρ : Type} {g : zS} {mi : Nat → Nat → Int32} {ml : Nat → Nat → Int64} {a t c k v s : Nat}
theorem gN_o (h : a ≠ g.2.2.2.1 + 1) : (gN g c k s).1 a = g.1 a ∧ (gN g c k s).2.1 a = g.2.1 a ∧ (gN g c k s).2.2.1 a = g.2.2.1 a := ⟨if_neg h, if_neg h, zrw_ne h⟩
theorem gN_n : (gN g c k s).1 (g.2.2.2.1 + 1) = c ∧ (gN g c k s).2.1 (g.2.2.2.1 + 1) = k := ⟨if_pos rfl, if_pos rfl⟩
theorem gP_o (h : a ≠ t) : (gP g t k v).2.2.1 a = g.2.2.1 a := zu_ne h
theorem gP_n : (gP g t k v).2.2.1 t k = v := by
  show zu g.2.2.1 t k v t k = v
  rw [zu_eq]; exact if_pos rfl
theorem gP_k {j : Nat} (h : j ≠ k) : (gP g t k v).2.2.1 t j = g.2.2.1 t j := by
  show zu g.2.2.1 t k v t j = _
  rw [zu_eq]; exact if_neg h
theorem q_nO {K : Nat → zH → Option ρ} : znO ((g, mi, ml) : zH) c k K = K (g.2.2.2.1 + 1) (gN g c 0 k, zrw mi (g.2.2.2.1 + 1) (fun _ => 0), zrw ml (g.2.2.2.1 + 1) (fun _ => 0)) := rfl
theorem q_nA {K : Nat → zH → Option ρ} (hk : k < 65536) : znA ((g, mi, ml) : zH) c (nI k) K = K (g.2.2.2.1 + 1) (gN g c k k, zrw mi (g.2.2.2.1 + 1) (fun _ => 0), zrw ml (g.2.2.2.1 + 1) (fun _ => 0)) := by
  unfold znA
  have e : (nI k).toNatClampNeg = k := nI_clamp (by omega)
  rw [e, if_neg (by intro q; rcases q with q | q; exact nI_pos (by omega) q; omega)]
  rfl
theorem q_pQ {K : zH → Option ρ} (h : g.1 a = c) (hv : v ≠ 0) : zpQ ((g, mi, ml) : zH) c a k v K = K (gP g a k v, mi, ml) := if_pos ⟨h, hv⟩
theorem J_max {n x : Nat} {h : zH} (hx : x < 2147483648) : f_J9_max_7cf53 n (nI x) (nI 0) h = some (nI x, h) := iLt0 (by omega) (by omega) (by omega)
end
theorem EnL_c {E E' : Nat → Int32} : ∀ (l : List Ci) (k : Nat), EnL E k l → (∀ j, 5 * k ≤ j → j < 5 * (k + l.length) → E' j = E j) → EnL E' k l
  | [], k, _, _ => trivial
  | x :: l, k, h, e => by
    have hl : (x :: l).length = l.length + 1 := rfl
    rw [hl] at e
    obtain ⟨⟨h1, h2, h3, h4, h5⟩, h6⟩ := h
    refine ⟨⟨by rw [e _ (by omega) (by omega)]; exact h1, by rw [e _ (by omega) (by omega)]; exact h2, by rw [e _ (by omega) (by omega)]; exact h3, by rw [e _ (by omega) (by omega)]; exact h4, by rw [e _ (by omega) (by omega)]; exact h5⟩, EnL_c l (k + 1) h6 (fun j q1 q2 => e j (by omega) (by omega))⟩
section
variable {g : zS} {mi : Nat → Nat → Int32} {ml : Nat → Nat → Int64} {n : Nat}
theorem c_cut (hs : Sy g) {x cl Ll : Nat} (hxe : g.2.2.2.1 = x) (hx : 439 ≤ x) (hcl : cl ≤ 400) (hLl : Ll ≤ 12) (e3 : mi 411 3 = nI cl) (e4 : mi 411 4 = nI Ll) : ∃ g' mi' ml', f_X8_cutToSize n 411 (g, mi, ml) = some (x + 1, (g', mi', ml')) ∧ (∀ a, a ≤ x → (g'.1 a = g.1 a ∧ g'.2.1 a = g.2.1 a ∧ g'.2.2.1 a = g.2.2.1 a) ∧ mi' a = mi a) ∧ (g'.2.2.2.1 = x + 4 ∧ g'.2.2.2.2 = g.2.2.2.2 + (5 + cl + cl + 5 * Ll)) ∧ (g'.1 (x + 1) = 9 ∧ g'.2.2.1 (x + 1) 0 = x + 2 ∧ g'.2.2.1 (x + 1) 1 = x + 3 ∧ g'.2.2.1 (x + 1) 2 = x + 4) ∧ (g'.1 (x + 2) = 21 ∧ g'.1 (x + 3) = 21 ∧ g'.1 (x + 4) = 21) ∧ (g'.2.1 (x + 2) = cl ∧ g'.2.1 (x + 3) = cl ∧ g'.2.1 (x + 4) = 5 * Ll) ∧ (mi' (x + 1) 3 = nI cl ∧ mi' (x + 1) 4 = nI Ll) ∧ (∀ k, k < cl → mi' (x + 2) k = mi 412 k ∧ mi' (x + 3) k = mi 413 k) ∧ ∀ k, k < 5 * Ll → mi' (x + 4) k = mi 414 k := by
  obtain ⟨g1, hg1⟩ : ∃ y, y = gN g 9 0 5 := ⟨_, rfl⟩
  have n1 : g1.2.2.2.1 = x + 1 := by rw [hg1, ← hxe]; rfl
  have w1 : g1.2.2.2.2 = g.2.2.2.2 + 5 := by rw [hg1]; rfl
  have o1 : ∀ a, a ≠ x + 1 → g1.1 a = g.1 a ∧ g1.2.1 a = g.2.1 a ∧ g1.2.2.1 a = g.2.2.1 a := fun a ha => by rw [hg1]; exact gN_o (by omega)
  have s1 : g1.1 (x + 1) = 9 := by rw [hg1, ← hxe]; exact gN_n.1
  obtain ⟨g2, hg2⟩ : ∃ y, y = gN g1 21 cl cl := ⟨_, rfl⟩
  have n2 : g2.2.2.2.1 = x + 2 := by rw [hg2]; show g1.2.2.2.1 + 1 = _; omega
  have w2 : g2.2.2.2.2 = g.2.2.2.2 + 5 + cl := by rw [hg2]; show g1.2.2.2.2 + cl = _; omega
  have o2 : ∀ a, a ≠ x + 2 → g2.1 a = g1.1 a ∧ g2.2.1 a = g1.2.1 a ∧ g2.2.2.1 a = g1.2.2.1 a := fun a ha => by rw [hg2]; exact gN_o (by omega)
  have s2 : g2.1 (x + 2) = 21 ∧ g2.2.1 (x + 2) = cl := by
    have z : x + 2 = g1.2.2.2.1 + 1 := by omega
    rw [hg2, z]; exact gN_n
  obtain ⟨g3, hg3⟩ : ∃ y, y = gP g2 (x + 1) 0 (x + 2) := ⟨_, rfl⟩
  have f3 : g3.1 = g2.1 ∧ g3.2.1 = g2.2.1 ∧ g3.2.2.2 = g2.2.2.2 := by rw [hg3]; exact ⟨rfl, rfl, rfl⟩
  obtain ⟨g4, hg4⟩ : ∃ y, y = gN g3 21 cl cl := ⟨_, rfl⟩
  have n3 : g3.2.2.2.1 = x + 2 := by rw [f3.2.2]; exact n2
  have n4 : g4.2.2.2.1 = x + 3 := by rw [hg4]; show g3.2.2.2.1 + 1 = _; omega
  have w4 : g4.2.2.2.2 = g.2.2.2.2 + 5 + cl + cl := by rw [hg4]; show g3.2.2.2.2 + cl = _; rw [f3.2.2]; omega
  have o4 : ∀ a, a ≠ x + 3 → g4.1 a = g3.1 a ∧ g4.2.1 a = g3.2.1 a ∧ g4.2.2.1 a = g3.2.2.1 a := fun a ha => by rw [hg4]; exact gN_o (by omega)
  have s4 : g4.1 (x + 3) = 21 ∧ g4.2.1 (x + 3) = cl := by
    have z : x + 3 = g3.2.2.2.1 + 1 := by omega
    rw [hg4, z]; exact gN_n
  obtain ⟨g5, hg5⟩ : ∃ y, y = gP g4 (x + 1) 1 (x + 3) := ⟨_, rfl⟩
  have f5 : g5.1 = g4.1 ∧ g5.2.1 = g4.2.1 ∧ g5.2.2.2 = g4.2.2.2 := by rw [hg5]; exact ⟨rfl, rfl, rfl⟩
  obtain ⟨g6, hg6⟩ : ∃ y, y = gN g5 21 (5 * Ll) (5 * Ll) := ⟨_, rfl⟩
  have n5 : g5.2.2.2.1 = x + 3 := by rw [f5.2.2]; exact n4
  have n6 : g6.2.2.2.1 = x + 4 := by rw [hg6]; show g5.2.2.2.1 + 1 = _; omega
  have w6 : g6.2.2.2.2 = g.2.2.2.2 + 5 + cl + cl + 5 * Ll := by rw [hg6]; show g5.2.2.2.2 + 5 * Ll = _; rw [f5.2.2]; omega
  have o6 : ∀ a, a ≠ x + 4 → g6.1 a = g5.1 a ∧ g6.2.1 a = g5.2.1 a ∧ g6.2.2.1 a = g5.2.2.1 a := fun a ha => by rw [hg6]; exact gN_o (by omega)
  have s6 : g6.1 (x + 4) = 21 ∧ g6.2.1 (x + 4) = 5 * Ll := by
    have z : x + 4 = g5.2.2.2.1 + 1 := by omega
    rw [hg6, z]; exact gN_n
  obtain ⟨g7, hg7⟩ : ∃ y, y = gP g6 (x + 1) 2 (x + 4) := ⟨_, rfl⟩
  have f7 : g7.1 = g6.1 ∧ g7.2.1 = g6.2.1 ∧ g7.2.2.2 = g6.2.2.2 := by rw [hg7]; exact ⟨rfl, rfl, rfl⟩
  have R3 : ∀ a, a ≠ x + 1 → g3.2.2.1 a = g2.2.2.1 a := fun a ha => by rw [hg3]; exact gP_o ha
  have R5 : ∀ a, a ≠ x + 1 → g5.2.2.1 a = g4.2.2.1 a := fun a ha => by rw [hg5]; exact gP_o ha
  have R7 : ∀ a, a ≠ x + 1 → g7.2.2.1 a = g6.2.2.1 a := fun a ha => by rw [hg7]; exact gP_o ha
  have old : ∀ a, a ≤ x → g7.1 a = g.1 a ∧ g7.2.1 a = g.2.1 a ∧ g7.2.2.1 a = g.2.2.1 a := fun a ha => by
    refine ⟨?_, ?_, ?_⟩
    · rw [f7.1, (o6 a (by omega)).1, f5.1, (o4 a (by omega)).1, f3.1, (o2 a (by omega)).1, (o1 a (by omega)).1]
    · rw [f7.2.1, (o6 a (by omega)).2.1, f5.2.1, (o4 a (by omega)).2.1, f3.2.1, (o2 a (by omega)).2.1, (o1 a (by omega)).2.1]
    · rw [R7 a (by omega), (o6 a (by omega)).2.2, R5 a (by omega), (o4 a (by omega)).2.2, R3 a (by omega), (o2 a (by omega)).2.2, (o1 a (by omega)).2.2]
  have S2 : g2.1 (x + 1) = 9 := by rw [(o2 _ (by omega)).1, s1]
  have S4 : g4.1 (x + 1) = 9 := by rw [(o4 _ (by omega)).1, f3.1, S2]
  have S6 : g6.1 (x + 1) = 9 := by rw [(o6 _ (by omega)).1, f5.1, S4]
  have S7 : g7.1 (x + 1) = 9 := by rw [f7.1, S6]
  have r0 : g7.2.2.1 (x + 1) 0 = x + 2 := by rw [hg7, gP_k (by decide), (o6 _ (by omega)).2.2, hg5, gP_k (by decide), (o4 _ (by omega)).2.2, hg3, gP_n]
  have r1 : g7.2.2.1 (x + 1) 1 = x + 3 := by rw [hg7, gP_k (by decide), (o6 _ (by omega)).2.2, hg5, gP_n]
  have r2 : g7.2.2.1 (x + 1) 2 = x + 4 := by rw [hg7, gP_n]
  have t2 : g7.1 (x + 2) = 21 ∧ g7.2.1 (x + 2) = cl := by
    rw [f7.1, f7.2.1, (o6 _ (by omega)).1, (o6 _ (by omega)).2.1, f5.1, f5.2.1, (o4 _ (by omega)).1, (o4 _ (by omega)).2.1, f3.1, f3.2.1]; exact s2
  have t3 : g7.1 (x + 3) = 21 ∧ g7.2.1 (x + 3) = cl := by
    rw [f7.1, f7.2.1, (o6 _ (by omega)).1, (o6 _ (by omega)).2.1, f5.1, f5.2.1]; exact s4
  have t4 : g7.1 (x + 4) = 21 ∧ g7.2.1 (x + 4) = 5 * Ll := by rw [f7.1, f7.2.1]; exact s6
  have hs7 : Sy g7 := Sy_c hs (fun a ha => (old a (by omega)).1) (fun a ha => (old a (by omega)).2.1) (fun a ha _ _ _ => (old a (by omega)).2.2)
  have hs1 : Sy g1 := Sy_c hs (fun a ha => (o1 a (by omega)).1) (fun a ha => (o1 a (by omega)).2.1) (fun a ha _ _ _ => (o1 a (by omega)).2.2)
  -- the ints
  obtain ⟨m1', hm1⟩ : ∃ y, y = zu (zu (zrw mi (x + 1) (fun _ => 0)) (x + 1) 3 (nI 0)) (x + 1) 4 (nI 0) := ⟨_, rfl⟩
  obtain ⟨m2', hm2⟩ : ∃ y, y = zrw (zrw (zrw m1' (x + 2) (fun _ => 0)) (x + 3) (fun _ => 0)) (x + 4) (fun _ => 0) := ⟨_, rfl⟩
  obtain ⟨m3', hm3⟩ : ∃ y, y = zrw m2' (x + 2) (va_cpy (m2' 412) (m2' (x + 2)) 0 0 cl) := ⟨_, rfl⟩
  obtain ⟨m4', hm4⟩ : ∃ y, y = zrw m3' (x + 3) (va_cpy (m3' 413) (m3' (x + 3)) 0 0 cl) := ⟨_, rfl⟩
  obtain ⟨m5', hm5⟩ : ∃ y, y = zrw m4' (x + 4) (va_cpy (m4' 414) (m4' (x + 4)) 0 0 (5 * Ll)) := ⟨_, rfl⟩
  obtain ⟨m6', hm6⟩ : ∃ y, y = zu (zu m5' (x + 1) 3 (nI cl)) (x + 1) 4 (nI Ll) := ⟨_, rfl⟩
  have Q0 : ∀ a, a ≤ x → (zrw mi (x + 1) (fun _ => 0) : Nat → Nat → Int32) a = mi a := fun a ha => zrw_a (by omega)
  have Q1 : ∀ a, a ≤ x → m1' a = mi a := fun a ha => by rw [hm1, zu_a (by omega), zu_a (by omega), zrw_a (by omega)]
  have Q2 : ∀ a, a ≤ x → m2' a = mi a := fun a ha => by rw [hm2, zrw_a (by omega), zrw_a (by omega), zrw_a (by omega), Q1 a ha]
  have Q3 : ∀ a, a ≤ x → m3' a = mi a := fun a ha => by rw [hm3, zrw_a (by omega), Q2 a ha]
  have Q4 : ∀ a, a ≤ x → m4' a = mi a := fun a ha => by rw [hm4, zrw_a (by omega), Q3 a ha]
  have Q5 : ∀ a, a ≤ x → m5' a = mi a := fun a ha => by rw [hm5, zrw_a (by omega), Q4 a ha]
  have Q6 : ∀ a, a ≤ x → m6' a = mi a := fun a ha => by rw [hm6, zu_a (by omega), zu_a (by omega), Q5 a ha]
  refine ⟨g7, m6', zrw (zrw (zrw (zrw ml (x + 1) (fun _ => 0)) (x + 2) (fun _ => 0)) (x + 3) (fun _ => 0)) (x + 4) (fun _ => 0), ?_, fun a ha => ⟨old a ha, Q6 a ha⟩, ⟨by rw [f7.2.2]; exact n6, by rw [f7.2.2]; omega⟩, ⟨S7, r0, r1, r2⟩, ⟨t2.1, t3.1, t4.1⟩, ⟨t2.2, t3.2, t4.2⟩, ⟨by rw [hm6, zu_k (by decide), zu_s], by rw [hm6, zu_s]⟩, fun k hk => ⟨?_, ?_⟩, fun k hk => ?_⟩
  · unfold f_X8_cutToSize f_X8_init
    simp only [li]
    rw [q_nO, hxe, ← hg1, S_gI411 hs1, Q0 411 (by omega), e3, S_gI411 hs1, Q0 411 (by omega), e4, q_pI s1, q_pI s1, J_max (by omega), zb_s, ← hm1, q_nA (by omega), n1, ← hg2, q_pQ S2 (by omega), ← hg3, J_max (by omega), zb_s, q_nA (by omega), n3, ← hg4, q_pQ S4 (by omega), ← hg5, J_max (by omega), zb_s, pk_mul, q_nA (by omega), n5, ← hg6, q_pQ S6 (by omega), ← hg7, zb_s, ← hm2, S_gR411_0 hs7, q_gR S7 r0 (by omega), S_gI411 hs7, Q2 411 (by omega), e3, q_cp (N := 400) (M := cl) (Sy_f hs7 (0, 412, 0, 21) rfl) t2.1 (Sy_f hs7 (1, 412, 0, 400) rfl) t2.2 (by decide) (by omega) (by omega) (by omega), ← hm3, S_gR411_1 hs7, q_gR S7 r1 (by omega), S_gI411 hs7, Q3 411 (by omega), e3, q_cp (N := 400) (M := cl) (Sy_f hs7 (0, 413, 0, 21) rfl) t3.1 (Sy_f hs7 (1, 413, 0, 400) rfl) t3.2 (by decide) (by omega) (by omega) (by omega), ← hm4, S_gR411_2 hs7, q_gR S7 r2 (by omega), S_gI411 hs7, Q4 411 (by omega), e4, pk_mul, q_cp (N := 60) (M := 5 * Ll) (Sy_f hs7 (0, 414, 0, 21) rfl) t4.1 (Sy_f hs7 (1, 414, 0, 60) rfl) t4.2 (by decide) (by omega) (by omega) (by omega), ← hm5, S_gI411 hs7, Q5 411 (by omega), e3, q_pI S7, S_gI411 hs7, zu_a (by omega), Q5 411 (by omega), e4, q_pI S7, ← hm6]
  · rw [hm6, zu_a (by omega), zu_a (by omega), hm5, zrw_a (by omega), hm4, zrw_a (by omega), hm3, zrw_eq, pk_cpy_in (by omega) (by omega), Q2 412 (by omega)]
    simp
  · rw [hm6, zu_a (by omega), zu_a (by omega), hm5, zrw_a (by omega), hm4, zrw_eq, pk_cpy_in (by omega) (by omega), Q3 413 (by omega)]
    simp
  · rw [hm6, zu_a (by omega), zu_a (by omega), hm5, zrw_eq, pk_cpy_in (by omega) (by omega), Q4 414 (by omega)]
    simp
/-- a text's tokens are laid into row i of the plain form -/
theorem r_l16 (hs : Sy g) {i T : Nat} {R0 : Nat → Int32} (hi : i < 7) (hT : T ≤ 400) (h18 : mi 422 18 = nI T) : ∀ (r t f : Nat) (R : Nat → Int32), t + r = T → r < f → ∃ R', zlp3 (fb_X12_lays_16 n) f 422 (nI i) (nI t) (g, zrw mi 424 R, ml) = some ((), (g, zrw mi 424 R', ml)) ∧ (∀ k, t ≤ k → k < T → R' (215 + (400 * i + k)) = mi 431 k ∧ R' (3015 + (400 * i + k)) = mi 432 k) ∧ ∀ j, ¬ (215 + 400 * i + t ≤ j ∧ j < 215 + 400 * i + T) → ¬ (3015 + 400 * i + t ≤ j ∧ j < 3015 + 400 * i + T) → R' j = R j
  | r, t, 0, R, _, h => absurd h (by omega)
  | 0, t, f + 1, R, h1, _ => by
    refine ⟨R, ?_, fun k q1 q2 => absurd q2 (by omega), fun _ _ _ => rfl⟩
    show fb_X12_lays_16 n (zlp3 (fb_X12_lays_16 n) f) 422 (nI i) (nI t) _ = _
    generalize zlp3 (fb_X12_lays_16 n) f = K
    unfold fb_X12_lays_16
    rw [S_gI422 hs, zrw_a (by decide), h18, iLe1 (by omega) (by omega) (by omega)]
  | r + 1, t, f + 1, R, h1, h2 => by
    obtain ⟨R', a1, a2, a3⟩ := r_l16 (R0 := R0) hs hi hT h18 r (t + 1) f (upd (upd R (215 + 400 * i + t) (mi 431 t)) (3015 + 400 * i + t) (mi 432 t)) (by omega) (by omega)
    refine ⟨R', ?_, fun k q1 q2 => ?_, fun j q1 q2 => ?_⟩
    · rw [← a1]
      show fb_X12_lays_16 n (zlp3 (fb_X12_lays_16 n) f) 422 (nI i) (nI t) _ = _
      generalize zlp3 (fb_X12_lays_16 n) f = K
      unfold fb_X12_lays_16
      simp only [li]
      rw [S_gI422 hs, zrw_a (by decide), h18, iLe0 (by omega) (by omega) (by omega), S_gR422_2 hs, S_gR422_15 hs, S_aI431 hs (by omega), zrw_a (by decide), pk_mul, nI_add, nI_add, S_eI424 hs (by omega), ur_s, S_gR422_2 hs, S_gR422_16 hs, S_aI432 hs (by omega), zrw_a (by decide), nI_add, nI_add, S_eI424 hs (by omega), ur_s, nI_add]
    · by_cases z : k = t
      · subst z
        refine ⟨?_, ?_⟩
        · rw [a3 _ (by omega) (by omega), upd_ne (by omega)]
          have : 215 + (400 * i + k) = 215 + 400 * i + k := by omega
          rw [this, upd_eq]
        · rw [a3 _ (by omega) (by omega)]
          have : 3015 + (400 * i + k) = 3015 + 400 * i + k := by omega
          rw [this, upd_eq]
      · exact a2 k (by omega) q2
    · rw [a3 j (by omega) (by omega), upd_ne (by omega), upd_ne (by omega)]
theorem r_lays (hs : Sy g) (hn : 3000 < n) {i T : Nat} (hi : i < 7) (hT : T ≤ 400) (h18 : mi 422 18 = nI T) : ∃ R, f_X12_lays n 422 (nI i) (g, mi, ml) = some ((), (g, zrw mi 424 R, ml)) ∧ R (208 + i) = nI T ∧ (∀ k, k < T → R (215 + (400 * i + k)) = mi 431 k ∧ R (3015 + (400 * i + k)) = mi 432 k) ∧ ∀ j, j ≠ 208 + i → ¬ (215 + 400 * i ≤ j ∧ j < 615 + 400 * i) → ¬ (3015 + 400 * i ≤ j ∧ j < 3415 + 400 * i) → R j = mi 424 j := by
  obtain ⟨R, a1, a2, a3⟩ := r_l16 (mi := mi) (ml := ml) (n := n) (R0 := mi 424) hs hi hT h18 T 0 n (upd (mi 424) (208 + i) (nI T)) (by omega) (by omega)
  refine ⟨R, ?_, by rw [a3 _ (by omega) (by omega), upd_eq], fun k hk => a2 k (by omega) hk, fun j q1 q2 q3 => by rw [a3 j (by omega) (by omega), upd_ne q1]⟩
  rw [← a1]
  unfold f_X12_lays
  simp only [li]
  have e : zu mi 424 (208 + i) (nI T) = zrw mi 424 (upd (mi 424) (208 + i) (nI T)) := by
    have := ur_s (M := mi) (b := 424) (k := 208 + i) (R := mi 424) (x := nI T)
    rw [u_self] at this
    exact this
  rw [S_gR422_2 hs, S_gI422 hs, h18, nI_add, S_eI424 hs (by omega), e]
end
