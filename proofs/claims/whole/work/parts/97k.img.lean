/-! images: the rows of laws change -/
section
variable {ρ : Type} {g : zS} {mi : Nat → Nat → Int32} {ml : Nat → Nat → Int64} {a t c : Nat}
theorem q_eR {K : zH → Option ρ} {N j v : Nat} (h : g.1 a = t) (h2 : g.2.1 a = N) (hN : N < 2147483648) (hj : j < N) (hv : v = 0 ∨ g.1 v = c) : zeR ((g, mi, ml) : zH) t c a (nI j) v K = K ((g.1, g.2.1, zu g.2.2.1 a j v, g.2.2.2), mi, ml) := by
  unfold zeR
  have e : (nI j).toNatClampNeg = j := nI_clamp (by omega)
  rw [if_pos ⟨⟨h, by rw [e]; intro q; rcases q with q | q; exact nI_pos (by omega) q; exact absurd q (by show ¬ g.2.1 a ≤ j; omega)⟩, hv⟩, e]
  rfl
theorem q_eQ {K : zH → Option ρ} {N j v : Nat} (h : g.1 a = t) (h2 : g.2.1 a = N) (hN : N < 2147483648) (hj : j < N) (hv : g.1 v = c) : zeQ ((g, mi, ml) : zH) t c a (nI j) v K = K ((g.1, g.2.1, zu g.2.2.1 a j v, g.2.2.2), mi, ml) := by
  unfold zeQ
  have e : (nI j).toNatClampNeg = j := nI_clamp (by omega)
  rw [if_pos ⟨⟨h, by rw [e]; intro q; rcases q with q | q; exact nI_pos (by omega) q; exact absurd q (by show ¬ g.2.1 a ≤ j; omega)⟩, hv⟩, e]
  rfl
end
theorem fl_t : ∀ q ∈ zFL, q.2.1 ≤ 439 ∧ (q.1 ≠ 0 → q.1 ≠ 1 → q.2.1 ≠ 26 ∧ q.2.1 ≠ 391 ∧ q.2.1 ≠ 407) := by decide +kernel
theorem wl_t : ∀ w ∈ zWL, ∀ q ∈ zWl w, q.2.1 ≤ 439 ∧ (q.1 ≠ 0 → q.1 ≠ 1 → q.2.1 ≠ 26 ∧ q.2.1 ≠ 391 ∧ q.2.1 ≠ 407) := by decide +kernel
theorem hl_t2 : ∀ q ∈ zHL, q.2.1 ≤ 439 ∧ (q.1 ≠ 0 → q.1 ≠ 1 → q.2.1 ≠ 26 ∧ q.2.1 ≠ 391 ∧ q.2.1 ≠ 407) := by decide +kernel
theorem Sy_c {g g' : zS} (hs : Sy g) (e1 : ∀ a, a ≤ 439 → g'.1 a = g.1 a) (e2 : ∀ a, a ≤ 439 → g'.2.1 a = g.2.1 a) (e3 : ∀ a, a ≤ 439 → a ≠ 26 → a ≠ 391 → a ≠ 407 → g'.2.2.1 a = g.2.2.1 a) : Sy g' := by
  have key : ∀ q : Nat × Nat × Nat × Nat, (q.2.1 ≤ 439 ∧ (q.1 ≠ 0 → q.1 ≠ 1 → q.2.1 ≠ 26 ∧ q.2.1 ≠ 391 ∧ q.2.1 ≠ 407)) → zFv g' q = zFv g q := by
    intro q ⟨h1, h2⟩
    unfold zFv
    by_cases z0 : q.1 = 0
    · rw [if_pos z0, if_pos z0, e1 _ h1]
    · rw [if_neg z0, if_neg z0]
      by_cases z1 : q.1 = 1
      · rw [if_pos z1, if_pos z1, e2 _ h1]
      · obtain ⟨h3, h4, h5⟩ := h2 z0 z1
        rw [if_neg z1, if_neg z1, e3 _ h1 h3 h4 h5]
  exact ⟨fun q hq => by rw [key q (fl_t q hq)]; exact hs.1 q hq, fun w hw q hq => by rw [key q (wl_t w hw q hq)]; exact hs.2.1 w hw q hq, fun q hq => by rw [key q (hl_t2 q hq)]; exact hs.2.2 q hq⟩
def oR (k : Nat) : Prop := (203 ≤ k ∧ k < 2615 ∧ k ≠ 214 ∧ k ≠ 205) ∨ (3015 ≤ k ∧ k < 5415)
theorem LWr_x {v v' : Nat → Int32} {i T : Nat} {D V : Nat → Nat} (h : LWr v i T D V) (e : ∀ k, oR k → v' k = v k) (hi : i < 6) : LWr v' i T D V := by
  obtain ⟨⟨h1, h2⟩, h3, h4⟩ := h
  refine ⟨⟨by rw [e _ (Or.inl (by omega))]; exact h1, h2⟩, fun k hk => ?_, h4⟩
  rw [e _ (Or.inl (by omega)), e _ (Or.inr (by omega))]
  exact h3 k hk
theorem RU_x {g g' : zS} {mi mi' : Nat → Nat → Int32} {a la b lb : Nat} {v v' : Nat → Int32} (h : RU g mi a la v) (e : ∀ k, oR k → v' k = v k) (ea : ∀ k, 2 ≤ k → k ≤ 5 → mi' b k = mi a k) (er : ∀ i, i < 6 → g'.2.2.1 lb i = g.2.2.1 la i) (em : ∀ a, 439 < a → a ≤ g.2.2.2.1 → mi' a = mi a) (eg : ∀ a, 439 < a → a ≤ g.2.2.2.1 → g'.1 a = g.1 a ∧ g'.2.1 a = g.2.1 a ∧ g'.2.2.1 a = g.2.2.1 a) (hg : g.2.2.2.1 ≤ g'.2.2.2.1) : RU g' mi' b lb v' := by
  obtain ⟨cnt, ⟨h1, h2, h3⟩, ⟨h4, h5⟩, ⟨h6, h7⟩, ⟨h8, h8'⟩, h9⟩ := h
  refine ⟨cnt, ⟨h1, by rw [ea 2 (by decide) (by decide)]; exact h2, by rw [e _ (Or.inl (by decide))]; exact h3⟩, ⟨by rw [ea 3 (by decide) (by decide), e _ (Or.inl (by decide))]; exact h4, by rw [e _ (Or.inl (by decide))]; exact h5⟩, ⟨by rw [ea 4 (by decide) (by decide), e _ (Or.inl (by decide))]; exact h6, by rw [e _ (Or.inl (by decide))]; exact h7⟩, ⟨by rw [ea 5 (by decide) (by decide), e _ (Or.inl (by decide))]; exact h8, by rw [e _ (Or.inl (by decide))]; exact h8'⟩, fun i hi => ?_⟩
  obtain ⟨l, hl⟩ := h9 i hi
  obtain ⟨sA, aA, eA, ln, T, D, V, q1, q2, q3⟩ := LWk_c (v' := v) (g' := g') hl (by omega) (fun _ _ _ => rfl) em eg hg
  rw [er i (by omega)]
  exact ⟨l, sA, aA, eA, ln, T, D, V, q1, LWr_x q2 e (by omega), q3⟩
theorem CU_x {mi mi' : Nat → Nat → Int32} {a f t b f' t' : Nat} {v v' : Nat → Int32} (h : CU mi a f t v) (e : ∀ k, 191 ≤ k → k < 206 → v' k = v k) (ea : mi' b 2 = mi a 2) (ef : ∀ k, k < 6 → mi' f' k = mi f k) (et : ∀ k, k < 6 → mi' t' k = mi t k) : CU mi' b f' t' v' := by
  obtain ⟨m, h1, h2, h3, h4⟩ := h
  refine ⟨m, h1, by rw [ea]; exact h2, by rw [e _ (by decide) (by decide)]; exact h3, fun k hk => ?_⟩
  rw [ef k (by omega), et k (by omega), e _ (by omega) (by omega), e _ (by omega) (by omega)]
  exact h4 k hk
theorem IM_x {B B' : Nat} {g g' : zS} {mi mi' : Nat → Nat → Int32} {j I w c r la : Nat} (h : IM B g mi j I w c r la) (hB : B ≤ B') (e1 : mi' 426 j = mi 426 j) (e2 : mi' I = mi I) (e3 : ∀ k, k < 5815 → mi' 425 (5815 * j + k) = mi 425 (5815 * j + k)) (e4 : ∀ a, w ≤ a → a < w + 10 → mi' a = mi a) (e5 : mi' c = mi c) (e6 : mi' (c + 1) = mi (c + 1)) (e7 : mi' (c + 2) = mi (c + 2)) (e8 : mi' r = mi r) (er : ∀ i, i < 6 → g'.2.2.1 la i = g.2.2.1 la i) (em : ∀ a, 439 < a → a ≤ g.2.2.2.1 → mi' a = mi a) (eg : ∀ a, 439 < a → a ≤ g.2.2.2.1 → g'.1 a = g.1 a ∧ g'.2.1 a = g.2.1 a ∧ g'.2.2.1 a = g.2.2.1 a) (hg : g.2.2.2.1 ≤ g'.2.2.2.1) : IM B' g' mi' j I w c r la := by
  obtain ⟨h1, h2, h3⟩ := h
  have E : ∀ k, k < 5815 → irow mi' j k = irow mi j k := e3
  refine ⟨by rw [e1]; exact h1, by rw [e1, e2]; exact h2, fun hh => ?_⟩
  rw [e1] at hh
  obtain ⟨a1, a2, a3⟩ := h3 hh
  exact ⟨PW_c a1 hB (fun k hk => E k (by omega)) e4 (fun q => WI_c q (fun k hk => E k (by omega))), RU_x a2 (fun k hk => E k (by unfold oR at hk; omega)) (fun k _ _ => by rw [e8]) er em eg hg, CU_x a3 (fun k _ hk => E k (by omega)) (by rw [e5]) (fun k _ => by rw [e6]) (fun k _ => by rw [e7])⟩
/-! the rules and the clues of an image are copied -/
def GE (la : Nat) (g g' : zS) : Prop := (g'.1 = g.1 ∧ g'.2.1 = g.2.1) ∧ (∀ a, a ≠ la → g'.2.2.1 a = g.2.2.1 a) ∧ g'.2.2.2 = g.2.2.2
def RuS (g : zS) (r la : Nat) : Prop := g.1 r = 7 ∧ g.2.2.1 r 1 = la ∧ la ≠ 0 ∧ g.1 la = 25 ∧ g.2.1 la = 6
def CS (g : zS) (c : Nat) : Prop := (g.1 c = 2 ∧ g.2.2.1 c 0 = c + 1 ∧ g.2.2.1 c 1 = c + 2) ∧ (g.1 (c + 1) = 21 ∧ g.2.1 (c + 1) = 6) ∧ g.1 (c + 2) = 21 ∧ g.2.1 (c + 2) = 6
theorem RuS_g {g g' : zS} {r la lb : Nat} (h : RuS g r la) (e : GE lb g g') (hr : r ≠ lb) : RuS g' r la := by
  unfold RuS at h ⊢
  rw [e.1.1, e.1.2, e.2.1 r hr]; exact h
theorem CS_g {g g' : zS} {c lb : Nat} (h : CS g c) (e : GE lb g g') (hr : c ≠ lb) : CS g' c := by
  unfold CS at h ⊢
  rw [e.1.1, e.1.2, e.2.1 c hr]; exact h
section
variable {mi : Nat → Nat → Int32} {ml : Nat → Nat → Int64} {n r la r' la' : Nat}
theorem c_rl (h1 : r ≠ la) (h2 : r' ≠ la) (h3 : la' ≠ la) : ∀ (t i f : Nat) (g : zS), i + t = 6 → t < f → RuS g r la → RuS g r' la' → (∀ j, j < 6 → g.2.2.1 la' j = 0 ∨ g.1 (g.2.2.1 la' j) = 9) → ∃ g', zlp3 (fb_X6_copyFrom_2 n) f r r' (nI i) (g, mi, ml) = fb_X6_copyFrom_26 n r r' (g', mi, ml) ∧ GE la g g' ∧ (∀ j, i ≤ j → j < 6 → g'.2.2.1 la j = g.2.2.1 la' j) ∧ ∀ j, j < i → g'.2.2.1 la j = g.2.2.1 la j
  | t, i, 0, g, _, h, _, _, _ => absurd h (by omega)
  | 0, i, f + 1, g, h4, h5, a1, a2, a3 => by
    refine ⟨g, ?_, ⟨⟨rfl, rfl⟩, fun _ _ => rfl, rfl⟩, fun j q1 q2 => absurd q2 (by omega), fun _ _ => rfl⟩
    show fb_X6_copyFrom_2 n (zlp3 (fb_X6_copyFrom_2 n) f) r r' (nI i) _ = _
    generalize zlp3 (fb_X6_copyFrom_2 n) f = K
    unfold fb_X6_copyFrom_2
    simp only [li]
    rw [iLe1 (by omega) (by omega) (by omega)]
  | t + 1, i, f + 1, g, h4, h5, a1, a2, a3 => by
    obtain ⟨g1, hg1⟩ : ∃ g1 : zS, g1 = (g.1, g.2.1, zu g.2.2.1 la i (g.2.2.1 la' i), g.2.2.2) := ⟨_, rfl⟩
    have E1 : GE la g g1 := by
      rw [hg1]
      exact ⟨⟨rfl, rfl⟩, fun a ha => zu_ne ha, rfl⟩
    have e1 : g1.1 = g.1 := E1.1.1
    obtain ⟨g', b1, b2, b3, b4⟩ := c_rl h1 h2 h3 t (i + 1) f g1 (by omega) (by omega) (RuS_g a1 E1 h1) (RuS_g a2 E1 h2) (fun j hj => by rw [E1.2.1 la' h3, e1]; exact a3 j hj)
    refine ⟨g', ?_, ⟨⟨b2.1.1.trans E1.1.1, b2.1.2.trans E1.1.2⟩, fun a ha => (b2.2.1 a ha).trans (E1.2.1 a ha), b2.2.2.trans E1.2.2⟩, fun j q1 q2 => ?_, fun j q1 => ?_⟩
    · rw [← b1]
      show fb_X6_copyFrom_2 n (zlp3 (fb_X6_copyFrom_2 n) f) r r' (nI i) _ = _
      generalize zlp3 (fb_X6_copyFrom_2 n) f = K
      unfold fb_X6_copyFrom_2
      simp only [li]
      rw [iLe0 (by omega) (by omega) (by omega), q_gR a1.1 a1.2.1 a1.2.2.1, q_gR a2.1 a2.2.1 a2.2.2.1, q_aR a2.2.2.2.1 a2.2.2.2.2 (by decide) (by omega), q_eR a1.2.2.2.1 a1.2.2.2.2 (by decide) (by omega) (a3 i (by omega)), nI_add, ← hg1]
    · by_cases z : j = i
      · subst z
        rw [b4 j (by omega), hg1]
        show zu g.2.2.1 la j (g.2.2.1 la' j) la j = _
        rw [zu_eq]
        exact if_pos rfl
      · rw [b3 j (by omega) q2, E1.2.1 la' h3]
    · rw [b4 j (by omega), hg1]
      show zu g.2.2.1 la i (g.2.2.1 la' i) la j = _
      rw [zu_eq]
      exact if_neg (by omega)
theorem c_rul {g : zS} (hn : 6000 < n) (h0 : r ≠ r') (h1 : r ≠ la) (h2 : r' ≠ la) (h3 : la' ≠ la) (a1 : RuS g r la) (a2 : RuS g r' la') (a3 : ∀ j, j < 6 → g.2.2.1 la' j = 0 ∨ g.1 (g.2.2.1 la' j) = 9) : ∃ g' mi', f_X6_copyFrom n r r' (g, mi, ml) = some ((), (g', mi', ml)) ∧ GE la g g' ∧ (∀ j, j < 6 → g'.2.2.1 la j = g.2.2.1 la' j) ∧ (∀ a, a ≠ r → mi' a = mi a) ∧ ∀ k, 2 ≤ k → k ≤ 5 → mi' r k = mi r' k := by
  obtain ⟨g', b1, b2, b3, -⟩ := c_rl (mi := mi) (ml := ml) (n := n) h1 h2 h3 6 0 n g rfl (by omega) a1 a2 a3
  have s1 : g'.1 r = 7 := by rw [b2.1.1]; exact a1.1
  have s2 : g'.1 r' = 7 := by rw [b2.1.1]; exact a2.1
  obtain ⟨c1, hc1⟩ : ∃ m, m = zu mi r 2 (mi r' 2) := ⟨_, rfl⟩
  obtain ⟨c2, hc2⟩ : ∃ m, m = zu c1 r 3 (c1 r' 3) := ⟨_, rfl⟩
  obtain ⟨c3, hc3⟩ : ∃ m, m = zu c2 r 4 (c2 r' 4) := ⟨_, rfl⟩
  obtain ⟨c4, hc4⟩ : ∃ m, m = zu c3 r 5 (c3 r' 5) := ⟨_, rfl⟩
  have h0' : r' ≠ r := fun q => h0 q.symm
  refine ⟨g', c4, ?_, b2, fun j hj => b3 j (by omega) hj, fun a ha => by rw [hc4, zu_a ha, hc3, zu_a ha, hc2, zu_a ha, hc1, zu_a ha], fun k q1 q2 => ?_⟩
  · unfold f_X6_copyFrom
    refine b1.trans ?_
    unfold fb_X6_copyFrom_26
    rw [q_gI s2, q_pI s1, ← hc1, q_gI s2, q_pI s1, ← hc2, q_gI s2, q_pI s1, ← hc3, q_gI s2, q_pI s1, ← hc4]
  · have : k = 2 ∨ k = 3 ∨ k = 4 ∨ k = 5 := by omega
    rcases this with e | e | e | e <;> subst e <;> simp (disch := omega) only [hc4, hc3, hc2, hc1, zu_s, zu_k, zu_a h0']
theorem c_cul {g : zS} {c c' : Nat} (hc : c + 3 ≤ c' ∨ c' + 3 ≤ c) (a1 : CS g c) (a2 : CS g c') : ∃ mi', f_X1_copyFrom n c c' (g, mi, ml) = some ((), (g, mi', ml)) ∧ (∀ a, (a < c ∨ c + 3 ≤ a) → mi' a = mi a) ∧ mi' c 2 = mi c' 2 ∧ (∀ k, k < 6 → mi' (c + 1) k = mi (c' + 1) k) ∧ ∀ k, k < 6 → mi' (c + 2) k = mi (c' + 2) k := by
  obtain ⟨d1, hd1⟩ : ∃ m, m = zrw mi (c + 1) (va_cpy (mi (c' + 1)) (mi (c + 1)) 0 0 6) := ⟨_, rfl⟩
  obtain ⟨d2, hd2⟩ : ∃ m, m = zrw d1 (c + 2) (va_cpy (d1 (c' + 2)) (d1 (c + 2)) 0 0 6) := ⟨_, rfl⟩
  obtain ⟨d3, hd3⟩ : ∃ m, m = zu d2 c 2 (d2 c' 2) := ⟨_, rfl⟩
  obtain ⟨⟨a11, a12, a13⟩, ⟨a14, a15⟩, a16, a17⟩ := a1
  obtain ⟨⟨b11, b12, b13⟩, ⟨b14, b15⟩, b16, b17⟩ := a2
  refine ⟨d3, ?_, fun a ha => by rw [hd3, zu_a (by omega), hd2, zrw_a (by omega), hd1, zrw_a (by omega)], ?_, fun k hk => ?_, fun k hk => ?_⟩
  · unfold f_X1_copyFrom
    simp only [li]
    rw [q_gR b11 b12 (by omega), q_gR a11 a12 (by omega), q_cp b14 a14 b15 a15 (by decide) (by decide) (by decide) (by decide), ← hd1, q_gR b11 b13 (by omega), q_gR a11 a13 (by omega), q_cp b16 a16 b17 a17 (by decide) (by decide) (by decide) (by decide), ← hd2, q_gI b11, q_pI a11, ← hd3]
  · rw [hd3, zu_s, hd2, zrw_a (by omega), hd1, zrw_a (by omega)]
  · rw [hd3, zu_a (by omega), hd2, zrw_a (by omega), hd1, zrw_eq, pk_cpy_in (by omega) (by omega)]
    simp
  · rw [hd3, zu_a (by omega), hd2, zrw_eq, pk_cpy_in (by omega) (by omega), hd1, zrw_a (by omega)]
    simp
end
def ImP (j I w c r la : Nat) : Prop := (j = 0 ∧ I = 376 ∧ w = 377 ∧ c = 387 ∧ r = 390 ∧ la = 391) ∨ (j = 1 ∧ I = 392 ∧ w = 393 ∧ c = 403 ∧ r = 406 ∧ la = 407)
theorem ims {g : zS} {j I w c r la : Nat} (hs : Sy g) (h : ImP j I w c r la) : (g.1 I = 4 ∧ g.2.2.1 I 0 = w ∧ g.2.2.1 I 1 = r ∧ g.2.2.1 I 2 = c) ∧ zWL.contains w = true ∧ RuS g r la ∧ CS g c ∧ RuS g 25 26 ∧ CS g 27 := by
  have e25 : RuS g 25 26 := ⟨Sy_f hs (0, 25, 0, 7) rfl, Sy_f hs (2, 25, 1, 26) rfl, by decide, Sy_f hs (0, 26, 0, 25) rfl, Sy_f hs (1, 26, 0, 6) rfl⟩
  have e27 : CS g 27 := ⟨⟨Sy_f hs (0, 27, 0, 2) rfl, Sy_f hs (2, 27, 0, 28) rfl, Sy_f hs (2, 27, 1, 29) rfl⟩, ⟨Sy_f hs (0, 28, 0, 21) rfl, Sy_f hs (1, 28, 0, 6) rfl⟩, Sy_f hs (0, 29, 0, 21) rfl, Sy_f hs (1, 29, 0, 6) rfl⟩
  rcases h with ⟨h1, h2, h3, h4, h5, h6⟩ | ⟨h1, h2, h3, h4, h5, h6⟩ <;> subst h1 <;> subst h2 <;> subst h3 <;> subst h4 <;> subst h5 <;> subst h6
  · exact ⟨⟨Sy_f hs (0, 376, 0, 4) rfl, Sy_f hs (2, 376, 0, 377) rfl, Sy_f hs (2, 376, 1, 390) rfl, Sy_f hs (2, 376, 2, 387) rfl⟩, by decide, ⟨Sy_f hs (0, 390, 0, 7) rfl, Sy_f hs (2, 390, 1, 391) rfl, by decide, Sy_f hs (0, 391, 0, 25) rfl, Sy_f hs (1, 391, 0, 6) rfl⟩, ⟨⟨Sy_f hs (0, 387, 0, 2) rfl, Sy_f hs (2, 387, 0, 388) rfl, Sy_f hs (2, 387, 1, 389) rfl⟩, ⟨Sy_f hs (0, 388, 0, 21) rfl, Sy_f hs (1, 388, 0, 6) rfl⟩, Sy_f hs (0, 389, 0, 21) rfl, Sy_f hs (1, 389, 0, 6) rfl⟩, e25, e27⟩
  · exact ⟨⟨Sy_f hs (0, 392, 0, 4) rfl, Sy_f hs (2, 392, 0, 393) rfl, Sy_f hs (2, 392, 1, 406) rfl, Sy_f hs (2, 392, 2, 403) rfl⟩, by decide, ⟨Sy_f hs (0, 406, 0, 7) rfl, Sy_f hs (2, 406, 1, 407) rfl, by decide, Sy_f hs (0, 407, 0, 25) rfl, Sy_f hs (1, 407, 0, 6) rfl⟩, ⟨⟨Sy_f hs (0, 403, 0, 2) rfl, Sy_f hs (2, 403, 0, 404) rfl, Sy_f hs (2, 403, 1, 405) rfl⟩, ⟨Sy_f hs (0, 404, 0, 21) rfl, Sy_f hs (1, 404, 0, 6) rfl⟩, Sy_f hs (0, 405, 0, 21) rfl, Sy_f hs (1, 405, 0, 6) rfl⟩, e25, e27⟩
theorem RM_g {cc : Nat} {g g' : zS} {la lb : Nat} (h : RM cc g) (e : GE la g g') (hla : la = 26 ∨ la = 391 ∨ la = 407) (hlb : lb = 26 ∨ lb = 391 ∨ lb = 407) (hr : ∀ j, j < 6 → g'.2.2.1 la j = g.2.2.1 lb j) : RM (cc + 1) g' := by
  obtain ⟨h1, h2, h3, h4, h5⟩ := h
  refine ⟨Sy_c h1 (fun a _ => by rw [e.1.1]) (fun a _ => by rw [e.1.2]) (fun a _ q1 q2 q3 => e.2.1 a (by omega)), by rw [e.2.2]; omega, by rw [e.2.2]; exact h3, by rw [e.2.2]; omega, fun l hl i hi => ?_⟩
  unfold inL
  rw [e.1.1, e.2.2]
  by_cases q : l = la
  · subst q
    rw [hr i hi]
    exact h5 lb hlb i hi
  · rw [e.2.1 l q]
    exact h5 l hl i hi
