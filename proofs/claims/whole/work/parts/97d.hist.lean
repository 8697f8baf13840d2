/-! worlds are copied; what is kept to be undone -/
theorem WR_cp {mi mi' : Nat → Nat → Int32} {u w : Nat} {v : Nat → Int32} (h : WR mi w v) (E : ∀ d k, d < 10 → k < 24 → (d = 0 → 3 ≤ k ∧ k ≤ 9) → (d = 1 → 6 ≤ k ∧ k ≤ 8) → ((d = 8 ∨ d = 9) → k < 8) → mi' (u + d) k = mi (w + d) k) : WR mi' u v := by
  obtain ⟨h1, ⟨h2, h3⟩, h4, h5, h6⟩ := h
  refine ⟨fun a k i hp => ?_, ⟨fun j hj hh => ?_, fun j hj hh => ?_⟩, ?_, ?_, ?_⟩
  · obtain ⟨d, d1, d2, d3, d4, d5⟩ := hp
    subst d4
    have hok : (d = 0 → 6 ≤ k ∧ k ≤ 9) ∧ (d = 1 → 6 ≤ k ∧ k ≤ 8) ∧ ((d = 8 ∨ d = 9) → k < 8) := by
      unfold okd at d3
      refine ⟨fun q => ?_, fun q => ?_, fun q => ?_⟩
      · subst q
        simpa using d3
      · subst q
        simpa using d3
      · rcases q with q | q <;> subst q <;> simp at d3 <;> omega
    rw [E d k d1 d2 (fun q => by have := hok.1 q; omega) hok.2.1 hok.2.2]
    exact h1 _ _ _ ⟨d, d1, d2, d3, rfl, d5⟩
  · rw [E 6 j (by omega) hj (by omega) (by omega) (by omega)]; exact h2 j hj hh
  · rw [E 7 j (by omega) hj (by omega) (by omega) (by omega)]; exact h3 j hj hh
  · have := E 0 3 (by omega) (by omega) (by omega) (by omega) (by omega)
    rw [Nat.add_zero, Nat.add_zero] at this
    rw [this]; exact h4
  · have := E 0 4 (by omega) (by omega) (by omega) (by omega) (by omega)
    rw [Nat.add_zero, Nat.add_zero] at this
    rw [this]; exact h5
  · have := E 0 5 (by omega) (by omega) (by omega) (by omega) (by omega)
    rw [Nat.add_zero, Nat.add_zero] at this
    rw [this]; exact h6
section
variable {g : zS} {mi : Nat → Nat → Int32} {v : Nat → Int32} {ml : Nat → Nat → Int64} {n u w : Nat}
theorem c_copyC (hs : Sy g) (hu : zWL.contains u = true) (hw : zWL.contains w = true) (hd : u + 10 ≤ w ∨ w + 10 ≤ u) : ∃ mi', f_X0_copyFrom n (u + 1) (w + 1) (g, mi, ml) = some ((), (g, mi', ml)) ∧ (∀ a, (a < u + 1 ∨ u + 8 ≤ a) → mi' a = mi a) ∧ (∀ d k, 2 ≤ d → d < 8 → k < 24 → mi' (u + d) k = mi (w + d) k) ∧ mi' (u + 1) 6 = mi (w + 1) 6 ∧ mi' (u + 1) 7 = mi (w + 1) 7 ∧ mi' (u + 1) 8 = mi (w + 1) 8 := by
  obtain ⟨c1, hc1⟩ : ∃ m, m = zrw mi (u + 2) (va_cpy (mi (w + 2)) (mi (u + 2)) 0 0 24) := ⟨_, rfl⟩
  obtain ⟨c2, hc2⟩ : ∃ m, m = zrw c1 (u + 3) (va_cpy (c1 (w + 3)) (c1 (u + 3)) 0 0 24) := ⟨_, rfl⟩
  obtain ⟨c3, hc3⟩ : ∃ m, m = zrw c2 (u + 4) (va_cpy (c2 (w + 4)) (c2 (u + 4)) 0 0 24) := ⟨_, rfl⟩
  obtain ⟨c4, hc4⟩ : ∃ m, m = zrw c3 (u + 5) (va_cpy (c3 (w + 5)) (c3 (u + 5)) 0 0 24) := ⟨_, rfl⟩
  obtain ⟨c5, hc5⟩ : ∃ m, m = zrw c4 (u + 6) (va_cpy (c4 (w + 6)) (c4 (u + 6)) 0 0 24) := ⟨_, rfl⟩
  obtain ⟨c6, hc6⟩ : ∃ m, m = zrw c5 (u + 7) (va_cpy (c5 (w + 7)) (c5 (u + 7)) 0 0 24) := ⟨_, rfl⟩
  obtain ⟨c7, hc7⟩ : ∃ m, m = zu c6 (u + 1) 6 (c6 (w + 1) 6) := ⟨_, rfl⟩
  obtain ⟨c8, hc8⟩ : ∃ m, m = zu c7 (u + 1) 7 (c7 (w + 1) 7) := ⟨_, rfl⟩
  obtain ⟨c9, hc9⟩ : ∃ m, m = zu c8 (u + 1) 8 (c8 (w + 1) 8) := ⟨_, rfl⟩
  refine ⟨c9, ?_, ?_, ?_, ?_, ?_, ?_⟩
  · unfold f_X0_copyFrom
    simp only [li]
    rw [C_gR0 hs hw, C_gR0 hs hu, A_cp2 hs hw hu, ← hc1, C_gR1 hs hw, C_gR1 hs hu, A_cp3 hs hw hu, ← hc2, C_gR2 hs hw, C_gR2 hs hu, A_cp4 hs hw hu, ← hc3, C_gR3 hs hw, C_gR3 hs hu, A_cp5 hs hw hu, ← hc4, C_gR4 hs hw, C_gR4 hs hu, A_cp6 hs hw hu, ← hc5, C_gR5 hs hw, C_gR5 hs hu, A_cp7 hs hw hu, ← hc6, C_gI hs hw, C_pI hs hu, ← hc7, C_gI hs hw, C_pI hs hu, ← hc8, C_gI hs hw, C_pI hs hu, ← hc9]
  · intro a ha
    simp (disch := omega) only [hc9, hc8, hc7, hc6, hc5, hc4, hc3, hc2, hc1, zu_a, zrw_a]
  · intro d k h1 h2 h3
    have : d = 2 ∨ d = 3 ∨ d = 4 ∨ d = 5 ∨ d = 6 ∨ d = 7 := by omega
    rcases this with e | e | e | e | e | e <;> subst e <;> simp (disch := omega) only [hc9, hc8, hc7, hc6, hc5, hc4, hc3, hc2, hc1, zu_a, zrw_a, zrw_eq, pk_cpy_in, Nat.zero_add, Nat.sub_zero]
  · simp (disch := omega) only [hc9, hc8, hc7, hc6, hc5, hc4, hc3, hc2, hc1, zu_a, zu_k, zu_s, zrw_a]
  · simp (disch := omega) only [hc9, hc8, hc7, hc6, hc5, hc4, hc3, hc2, hc1, zu_a, zu_k, zu_s, zrw_a]
  · simp (disch := omega) only [hc9, hc8, hc7, hc6, hc5, hc4, hc3, hc2, hc1, zu_a, zu_k, zu_s, zrw_a]
theorem c_copy (hs : Sy g) (hu : zWL.contains u = true) (hw : zWL.contains w = true) (hd : u + 10 ≤ w ∨ w + 10 ≤ u) (hR : WR mi w v) (hI : v 129 = nI 0 ∨ v 129 = nI 1) : ∃ mi', f_X10_copyFrom n u w (g, mi, ml) = some ((), (g, mi', ml)) ∧ WR mi' u v ∧ Fw u mi mi' := by
  obtain ⟨m1', a1, a2, a3, a4, a5, a6⟩ := c_copyC (mi := mi) (ml := ml) (n := n) hs hu hw hd
  have hr : mi w 6 = v 129 := rd_runs hR
  have hz : ∀ x : Int32, x = mi w 6 → x = nI 0 ∨ x = nI 1 := fun x hx => by rw [hx, hr]; exact hI
  have key : ∃ mi', f_X10_copyFrom n u w (g, mi, ml) = some ((), (g, mi', ml)) ∧ (∀ a, (a < u ∨ u + 10 ≤ a) → mi' a = m1' a) ∧ (∀ d, 1 ≤ d → d < 8 → mi' (u + d) = m1' (u + d)) ∧ (∀ d k, (d = 8 ∨ d = 9) → k < 8 → mi' (u + d) k = mi (w + d) k) ∧ ∀ k, 3 ≤ k → k ≤ 9 → mi' u k = mi w k := by
    obtain ⟨d1, hd1⟩ : ∃ m, m = zrw m1' (u + 8) (va_cpy (m1' (w + 8)) (m1' (u + 8)) 0 0 8) := ⟨_, rfl⟩
    obtain ⟨d2, hd2⟩ : ∃ m, m = zrw d1 (u + 9) (va_cpy (d1 (w + 9)) (d1 (u + 9)) 0 0 8) := ⟨_, rfl⟩
    obtain ⟨d3, hd3⟩ : ∃ m, m = zu d2 u 3 (d2 w 3) := ⟨_, rfl⟩
    obtain ⟨d4, hd4⟩ : ∃ m, m = zu d3 u 4 (d3 w 4) := ⟨_, rfl⟩
    obtain ⟨d5, hd5⟩ : ∃ m, m = zu d4 u 5 (d4 w 5) := ⟨_, rfl⟩
    obtain ⟨d6, hd6⟩ : ∃ m, m = zu d5 u 6 (d5 w 6) := ⟨_, rfl⟩
    obtain ⟨d7, hd7⟩ : ∃ m, m = zu d6 u 7 (d6 w 7) := ⟨_, rfl⟩
    obtain ⟨d8, hd8⟩ : ∃ m, m = zu d7 u 8 (d7 w 8) := ⟨_, rfl⟩
    obtain ⟨d9, hd9⟩ : ∃ m, m = zu d8 u 9 (d8 w 9) := ⟨_, rfl⟩
    have hz6 : d5 w 6 = nI 0 ∨ d5 w 6 = nI 1 := hz _ (by simp (disch := omega) only [hd5, hd4, hd3, hd2, hd1, zu_a, zrw_a, a2])
    refine ⟨d9, ?_, ?_, ?_, ?_, ?_⟩
    · unfold f_X10_copyFrom
      simp only [li]
      rw [W_gR0 hs hu, W_gR0 hs hw, C_ck hs hu, a1, zb_s, W_gR1 hs hw, W_gR1 hs hu, A_cp8 hs hw hu, ← hd1, W_gR2 hs hw, W_gR2 hs hu, A_cp9 hs hw hu, ← hd2, W_gI hs hw, W_pI hs hu, ← hd3, W_gI hs hw, W_pI hs hu, ← hd4, W_gI hs hw, W_pI hs hu, ← hd5, W_gI hs hw, W_pZ hs hu hz6, ← hd6, W_gI hs hw, W_pI hs hu, ← hd7, W_gI hs hw, W_pI hs hu, ← hd8, W_gI hs hw, W_pI hs hu, ← hd9]
    · intro a ha
      simp (disch := omega) only [hd9, hd8, hd7, hd6, hd5, hd4, hd3, hd2, hd1, zu_a, zrw_a]
    · intro d h1 h2
      simp (disch := omega) only [hd9, hd8, hd7, hd6, hd5, hd4, hd3, hd2, hd1, zu_a, zrw_a]
    · intro d k h1 h2
      rcases h1 with e | e <;> subst e <;> simp (disch := omega) only [hd9, hd8, hd7, hd6, hd5, hd4, hd3, hd2, hd1, zu_a, zrw_a, zrw_eq, pk_cpy_in, Nat.zero_add, Nat.sub_zero, a2]
    · intro k h1 h2
      have : k = 3 ∨ k = 4 ∨ k = 5 ∨ k = 6 ∨ k = 7 ∨ k = 8 ∨ k = 9 := by omega
      rcases this with e | e | e | e | e | e | e <;> subst e <;> simp (disch := omega) only [hd9, hd8, hd7, hd6, hd5, hd4, hd3, hd2, hd1, zu_a, zu_k, zu_s, zrw_a, a2]
  obtain ⟨mi', b1, b2, b3, b4, b5⟩ := key
  refine ⟨mi', b1, WR_cp hR (fun d k h1 h2 h3 h4 h5 => ?_), fun a ha => by rw [b2 a ha, a2 a (by omega)]⟩
  by_cases q0 : d = 0
  · subst q0
    exact b5 k (h3 rfl).1 (h3 rfl).2
  by_cases q1 : d = 1
  · subst q1
    rw [b3 1 (by omega) (by omega)]
    have := h4 rfl
    have : k = 6 ∨ k = 7 ∨ k = 8 := by omega
    rcases this with e | e | e <;> subst e
    · exact a4
    · exact a5
    · exact a6
  by_cases q2 : d < 8
  · rw [b3 d (by omega) q2]
    exact a3 d k (by omega) q2 h2
  · exact b4 d k (by omega) (h5 (by omega))
end
