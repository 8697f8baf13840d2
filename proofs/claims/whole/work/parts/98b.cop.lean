/-! orders: histories are laid aside and taken back -/
def HD (mi : Nat → Nat → Int32) (b f m : Nat) (H : Nat → Nat → Int32) : Prop := (f < 17 ∧ m ≤ 16 ∧ mi b 2 = nI f ∧ mi b 3 = nI m) ∧ ∀ i, i < m → WR mi (b + 3 + 10 * slt f i) (H i) ∧ mi (b + 2) (slt f i) = H i 191
def HSt (g : zS) (b : Nat) : Prop := (g.1 b = 3 ∧ g.2.2.1 b 0 = b + 1 ∧ g.2.2.1 b 1 = b + 2) ∧ (g.1 (b + 1) = 26 ∧ g.2.1 (b + 1) = 17) ∧ (g.1 (b + 2) = 21 ∧ g.2.1 (b + 2) = 17) ∧ ∀ s, s < 17 → g.2.2.1 (b + 1) s = b + 3 + 10 * s ∧ zWL.contains (b + 3 + 10 * s) = true
section
variable {g : zS} {mi : Nat → Nat → Int32} {ml : Nat → Nat → Int64} {n : Nat}
theorem HSt_30 (hs : Sy g) : HSt g 30 := ⟨⟨Sy_f hs (0, 30, 0, 3) rfl, Sy_f hs (2, 30, 0, 31) rfl, Sy_f hs (2, 30, 1, 32) rfl⟩, ⟨Sy_f hs (0, 31, 0, 26) rfl, Sy_f hs (1, 31, 0, 17) rfl⟩, ⟨Sy_f hs (0, 32, 0, 21) rfl, Sy_f hs (1, 32, 0, 17) rfl⟩, fun s h => ⟨Sy_h hs (2, 31, s, 33 + 10 * s) (hw_t s h).1, (hw_t s h).2.1⟩⟩
theorem HSt_203 (hs : Sy g) : HSt g 203 := ⟨⟨Sy_f hs (0, 203, 0, 3) rfl, Sy_f hs (2, 203, 0, 204) rfl, Sy_f hs (2, 203, 1, 205) rfl⟩, ⟨Sy_f hs (0, 204, 0, 26) rfl, Sy_f hs (1, 204, 0, 17) rfl⟩, ⟨Sy_f hs (0, 205, 0, 21) rfl, Sy_f hs (1, 205, 0, 17) rfl⟩, fun s h => ⟨Sy_h hs (2, 204, s, 206 + 10 * s) (hw_t s h).2.2.1, (hw_t s h).2.2.2⟩⟩
theorem c_slb {b : Nat} (hb : HSt g b) {f i : Nat} (hf : f < 17) (hi : i ≤ 16) (h2 : mi b 2 = nI f) : f_X2_slotOf n b (nI i) (g, mi, ml) = some (nI (slt f i), (g, mi, ml)) := by
  unfold f_X2_slotOf
  simp only [li]
  rw [q_gI hb.1.1, h2, nI_add, c_fm (by omega), zb_s]
  rfl
theorem c_hlp (hs : Sy g) {b b' : Nat} (hb : HSt g b) (hb' : HSt g b') (hd : b + 173 ≤ b' ∨ b' + 173 ≤ b) {f m : Nat} {H : Nat → Nat → Int32} (hH : ∀ i, i < m → H i 129 = nI 0 ∨ H i 129 = nI 1) : ∀ (r t ff : Nat) (mi : Nat → Nat → Int32), t + r = m → r < ff → HD mi b' f m H → mi b 2 = nI f → mi b 3 = nI m → (∀ i, i < t → WR mi (b + 3 + 10 * slt f i) (H i) ∧ mi (b + 2) (slt f i) = H i 191) → ∃ mi', zlp3 (fb_X2_copyFrom_18 n) ff b b' (nI t) (g, mi, ml) = some ((), (g, mi', ml)) ∧ HD mi' b f m H ∧ ∀ a, (a < b ∨ b + 173 ≤ a) → mi' a = mi a
  | r, t, 0, mi, _, h, _, _, _, _ => absurd h (by omega)
  | 0, t, ff + 1, mi, h1, _, h, h2, h3, h4 => by
    have : t = m := by omega
    subst this
    refine ⟨mi, ?_, ⟨⟨h.1.1, h.1.2.1, h2, h3⟩, h4⟩, fun _ _ => rfl⟩
    have hm := h.1.2.1
    show fb_X2_copyFrom_18 n (zlp3 (fb_X2_copyFrom_18 n) ff) b b' (nI t) (g, mi, ml) = _
    generalize zlp3 (fb_X2_copyFrom_18 n) ff = K
    unfold fb_X2_copyFrom_18
    rw [q_gI hb.1.1, h3, iLe1 (by omega) (by omega) (by omega)]
  | r + 1, t, ff + 1, mi, h1, hf, h, h2, h3, h4 => by
    have hm := h.1.2.1
    have h17 := h.1.1
    obtain ⟨s, hsl⟩ : ∃ s, s = slt f t := ⟨_, rfl⟩
    have hs17 : s < 17 := by rw [hsl]; exact slt_lt f t
    obtain ⟨w1, w2⟩ := h.2 t (by omega)
    rw [← hsl] at w1 w2
    obtain ⟨m1', a1, a2, a3⟩ := c_copy (u := b + 3 + 10 * s) (w := b' + 3 + 10 * s) (ml := ml) (n := n) hs (hb.2.2.2 s hs17).2 (hb'.2.2.2 s hs17).2 (by omega) w1 (hH t (by omega))
    obtain ⟨m2', hm2⟩ : ∃ y, y = zu m1' (b + 2) s (H t 191) := ⟨_, rfl⟩
    have Fr : ∀ a, (a < b + 3 + 10 * s ∨ b + 13 + 10 * s ≤ a) → a ≠ b + 2 → m2' a = mi a := fun a q1 q2 => by rw [hm2, zu_a q2, a3 a (by omega)]
    have hk : m1' (b' + 2) s = H t 191 := by rw [a3 _ (by omega)]; exact w2
    have sl : ∀ i, i < t → slt f i ≠ s := fun i hi => by rw [hsl]; exact slt_ne h17 hi (by omega)
    obtain ⟨mi', c1, c2, c3⟩ := c_hlp hs hb hb' hd hH r (t + 1) ff m2' (by omega) (by omega) ⟨⟨h17, hm, by rw [Fr _ (by omega) (by omega)]; exact h.1.2.2.1, by rw [Fr _ (by omega) (by omega)]; exact h.1.2.2.2⟩, fun i hi => by
      obtain ⟨z1, z2⟩ := h.2 i hi
      have := slt_lt f i
      exact ⟨WR_cong z1 (fun a q1 q2 => Fr a (by omega) (by omega)), by rw [Fr _ (by omega) (by omega)]; exact z2⟩⟩ (by rw [Fr _ (by omega) (by omega)]; exact h2) (by rw [Fr _ (by omega) (by omega)]; exact h3) (fun i hi => by
      by_cases q : i = t
      · subst q
        rw [← hsl]
        refine ⟨WR_cong a2 (fun a q1 q2 => by rw [hm2, zu_a (by omega)]), by rw [hm2, zu_s]⟩
      · obtain ⟨z1, z2⟩ := h4 i (by omega)
        have := slt_lt f i
        have := sl i (by omega)
        refine ⟨WR_cong z1 (fun a q1 q2 => Fr a (by omega) (by omega)), ?_⟩
        rw [hm2, zu_k this, a3 _ (by omega)]
        exact z2)
    refine ⟨mi', ?_, c2, fun a ha => by rw [c3 a ha, Fr a (by omega) (by omega)]⟩
    rw [← c1]
    show fb_X2_copyFrom_18 n (zlp3 (fb_X2_copyFrom_18 n) ff) b b' (nI t) (g, mi, ml) = _
    generalize zlp3 (fb_X2_copyFrom_18 n) ff = K
    unfold fb_X2_copyFrom_18
    simp only [li]
    rw [q_gI hb.1.1, h3, iLe0 (by omega) (by omega) (by omega), q_ck hb.1.1, c_slb hb h17 (by omega) h2, zb_s, ← hsl, q_gR hb.1.1 hb.1.2.1 (by omega), q_aN hb.2.1.1 hb.2.1.2 (by decide) hs17 (by rw [(hb.2.2.2 s hs17).1]; omega), (hb.2.2.2 s hs17).1, q_gR hb'.1.1 hb'.1.2.1 (by omega), q_aN hb'.2.1.1 hb'.2.1.2 (by decide) hs17 (by rw [(hb'.2.2.2 s hs17).1]; omega), (hb'.2.2.2 s hs17).1, W_ck hs (hb.2.2.2 s hs17).2, a1, zb_s, q_gR hb.1.1 hb.1.2.2 (by omega), q_gR hb'.1.1 hb'.1.2.2 (by omega), q_aI hb'.2.2.1.1 hb'.2.2.1.2 (by decide) hs17, hk, q_eI hb.2.2.1.1 hb.2.2.1.2 (by decide) hs17, ← hm2, nI_add]
theorem c_hcp (hs : Sy g) (hn : 3000 < n) {b b' : Nat} (hb : HSt g b) (hb' : HSt g b') (hd : b + 173 ≤ b' ∨ b' + 173 ≤ b) {f m : Nat} {H : Nat → Nat → Int32} (hH : ∀ i, i < m → H i 129 = nI 0 ∨ H i 129 = nI 1) (h : HD mi b' f m H) : ∃ mi', f_X2_copyFrom n b b' (g, mi, ml) = some ((), (g, mi', ml)) ∧ HD mi' b f m H ∧ ∀ a, (a < b ∨ b + 173 ≤ a) → mi' a = mi a := by
  obtain ⟨m1', hm1⟩ : ∃ y, y = zu (zu mi b 2 (nI f)) b 3 (nI m) := ⟨_, rfl⟩
  have Fr : ∀ a, a ≠ b → m1' a = mi a := fun a q => by rw [hm1, zu_a q, zu_a q]
  have hm := h.1.2.1
  obtain ⟨mi', c1, c2, c3⟩ := c_hlp (ml := ml) (n := n) hs hb hb' hd hH m 0 n m1' (by omega) (by omega) ⟨⟨h.1.1, hm, by rw [Fr _ (by omega)]; exact h.1.2.2.1, by rw [Fr _ (by omega)]; exact h.1.2.2.2⟩, fun i hi => by
    obtain ⟨z1, z2⟩ := h.2 i hi
    have := slt_lt f i
    exact ⟨WR_cong z1 (fun a q1 q2 => Fr a (by omega)), by rw [Fr _ (by omega)]; exact z2⟩⟩ (by rw [hm1, zu_k (by decide), zu_s]) (by rw [hm1, zu_s]) (fun i hi => absurd hi (by omega))
  refine ⟨mi', ?_, c2, fun a ha => by rw [c3 a ha, Fr a (by omega)]⟩
  rw [← c1]
  have e3 : zu mi b 2 (nI f) b' 3 = nI m := by rw [zu_a (by omega)]; exact h.1.2.2.2
  unfold f_X2_copyFrom
  simp only [li]
  rw [q_gI hb'.1.1, h.1.2.2.1, q_pI hb.1.1, q_gI hb'.1.1, e3, q_pI hb.1.1, ← hm1]
/-- the plain form lays its history aside -/
theorem r_o27 (hs : Sy g) : ∀ (r t f : Nat), t + r = 3072 → r < f → zlp2 (fb_X12_orders_27 n) f 422 (nI t) (g, zrw mi 436 (cpT (mi 436) (mi 435) 0 t), ml) = fb_X12_orders_52 n 422 (g, zrw mi 436 (cpT (mi 436) (mi 435) 0 3072), ml)
  | r, t, 0, _, h => absurd h (by omega)
  | 0, t, f + 1, h1, _ => by
    have : t = 3072 := by omega
    subst this
    show fb_X12_orders_27 n (zlp2 (fb_X12_orders_27 n) f) 422 (nI 3072) _ = _
    generalize zlp2 (fb_X12_orders_27 n) f = K
    unfold fb_X12_orders_27
    simp only [li]
    rw [iLe1 (by omega) (by omega) (by omega)]
  | r + 1, t, f + 1, h1, h2 => by
    have ih := r_o27 hs r (t + 1) f (by omega) (by omega)
    rw [← ih]
    show fb_X12_orders_27 n (zlp2 (fb_X12_orders_27 n) f) 422 (nI t) _ = _
    generalize zlp2 (fb_X12_orders_27 n) f = K
    have e := cpT_u (A := mi 435) (R := mi 436) (o := 0) (t := t) (x := mi 435 t) rfl
    rw [Nat.zero_add] at e
    unfold fb_X12_orders_27
    simp only [li]
    rw [iLe0 (by omega) (by omega) (by omega), S_gR422_30 hs, S_gR422_29 hs, S_aI435 hs (by omega), zrw_a (by decide), S_eI436 hs (by omega), ur_s, nI_add, e]
theorem r_o123 (hs : Sy g) {l1 l3 : Int32} : ∀ (r t f : Nat), t + r = 3072 → r < f → zlp4 (fb_X12_orders_123 n) f 422 l1 l3 (nI t) (g, zrw mi 435 (cpT (mi 435) (mi 436) 0 t), ml) = fb_X12_orders_151 n 422 l1 l3 (g, zrw mi 435 (cpT (mi 435) (mi 436) 0 3072), ml)
  | r, t, 0, _, h => absurd h (by omega)
  | 0, t, f + 1, h1, _ => by
    have : t = 3072 := by omega
    subst this
    show fb_X12_orders_123 n (zlp4 (fb_X12_orders_123 n) f) 422 l1 l3 (nI 3072) _ = _
    generalize zlp4 (fb_X12_orders_123 n) f = K
    unfold fb_X12_orders_123
    simp only [li]
    rw [iLe1 (by omega) (by omega) (by omega)]
  | r + 1, t, f + 1, h1, h2 => by
    have ih := r_o123 hs (l1 := l1) (l3 := l3) r (t + 1) f (by omega) (by omega)
    rw [← ih]
    show fb_X12_orders_123 n (zlp4 (fb_X12_orders_123 n) f) 422 l1 l3 (nI t) _ = _
    generalize zlp4 (fb_X12_orders_123 n) f = K
    have e := cpT_u (A := mi 436) (R := mi 435) (o := 0) (t := t) (x := mi 436 t) rfl
    rw [Nat.zero_add] at e
    unfold fb_X12_orders_123
    simp only [li]
    rw [iLe0 (by omega) (by omega) (by omega), S_gR422_29 hs, S_gR422_30 hs, S_aI436 hs (by omega), zrw_a (by decide), S_eI435 hs (by omega), ur_s, nI_add, e]
end
