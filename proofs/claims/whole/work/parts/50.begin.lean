/-! a grace begins -/
theorem cpy_u {f g : Nat → Int32} {sp dp i : Nat} : upd (va_cpy f g sp dp i) (dp + i) (f (sp + i)) = va_cpy f g sp dp (i + 1) := by
  funext k
  by_cases h : k = dp + i
  · have e : sp + (k - dp) = sp + i := by omega
    rw [pk_cpy_in (by omega) (by omega), e, h, upd_eq]
  · rw [upd_ne h]
    by_cases h2 : dp ≤ k ∧ k < dp + i
    · rw [pk_cpy_in h2.1 h2.2, pk_cpy_in h2.1 (by omega)]
    · rw [pk_cpy_out (by omega), pk_cpy_out (by omega)]
theorem cpy_0 {f g : Nat → Int32} {sp dp : Nat} : va_cpy f g sp dp 0 = g := by
  funext k
  exact pk_cpy_out (by omega)
def fil (v : Nat → Int32) (x : Int32) (lo n : Nat) : Nat → Int32 := fun k => if lo ≤ k ∧ k < lo + n then x else v k
theorem fil_in {v : Nat → Int32} {x : Int32} {lo n k : Nat} (h : lo ≤ k) (h2 : k < lo + n) : fil v x lo n k = x := if_pos ⟨h, h2⟩
theorem fil_out {v : Nat → Int32} {x : Int32} {lo n k : Nat} (h : k < lo ∨ lo + n ≤ k) : fil v x lo n k = v k := if_neg (by omega)
theorem fil_u {v : Nat → Int32} {x : Int32} {lo n : Nat} : upd (fil v x lo n) (lo + n) x = fil v x lo (n + 1) := by
  funext k
  by_cases h : k = lo + n
  · rw [fil_in (by omega) (by omega), h, upd_eq]
  · rw [upd_ne h]
    by_cases h2 : lo ≤ k ∧ k < lo + n
    · rw [fil_in h2.1 h2.2, fil_in h2.1 (by omega)]
    · rw [fil_out (by omega), fil_out (by omega)]
theorem fil_0 {v : Nat → Int32} {x : Int32} {lo : Nat} : fil v x lo 0 = v := by
  funext k
  exact if_neg (by omega)
def vB (v : Nat → Int32) (a : Nat) : Nat → Int32 := fun k => if 121 ≤ k ∧ k < 129 then v (k - 8) else if k = 129 then nI 1 else if k = 130 then v 130 + nI 1 else if 132 ≤ k ∧ k < 139 then nI 3 else if k = 139 then nI 0 else if k = 164 then v 139 else if 165 ≤ k ∧ k < 165 + a then v (k - 25) else v k
section
variable {g : zS} {mi M : Nat → Nat → Int32} {v : Nat → Int32} {ml : Nat → Nat → Int64} {n w : Nat} {m0 : Nat → Nat → Int32}
theorem r_beg113 (hs : Sy g) : ∀ (k i f : Nat), i + k = 8 → k < f → zlp2 (fb_X12_begins_113 n) f 422 (nI i) (g, zrw M 424 (va_cpy v v 113 121 i), ml) = some ((), (g, zrw M 424 (va_cpy v v 113 121 8), ml))
  | k, i, 0, _, h => absurd h (by omega)
  | 0, i, f + 1, h1, _ => by
    show fb_X12_begins_113 n (zlp2 (fb_X12_begins_113 n) f) 422 (nI i) _ = _
    have : i = 8 := by omega
    subst this
    rfl
  | k + 1, i, f + 1, h1, h2 => by
    show fb_X12_begins_113 n (zlp2 (fb_X12_begins_113 n) f) 422 (nI i) _ = _
    have e : va_cpy v v 113 121 i (113 + i) = v (113 + i) := pk_cpy_out (by omega)
    have ih := r_beg113 hs k (i + 1) f (by omega) (by omega)
    generalize zlp2 (fb_X12_begins_113 n) f = kk at ih ⊢
    unfold fb_X12_begins_113
    simp (disch := omega) only [lit, nLe, if_neg, S_gR422_2 hs, R_a hs, R_e hs, nI_add, e, cpy_u]
    exact ih
theorem r_beg88 (hs : Sy g) : ∀ (k i f : Nat), i + k = 7 → k < f → zlp2 (fb_X12_begins_88 n) f 422 (nI (1 + i)) (g, zrw M 424 (fil v (nI 3) 132 i), ml) = fb_X12_begins_111 n 422 (g, zrw M 424 (fil v (nI 3) 132 7), ml)
  | k, i, 0, _, h => absurd h (by omega)
  | 0, i, f + 1, h1, _ => by
    show fb_X12_begins_88 n (zlp2 (fb_X12_begins_88 n) f) 422 (nI (1 + i)) _ = _
    have : i = 7 := by omega
    subst this
    rfl
  | k + 1, i, f + 1, h1, h2 => by
    show fb_X12_begins_88 n (zlp2 (fb_X12_begins_88 n) f) 422 (nI (1 + i)) _ = _
    have ih := r_beg88 hs k (i + 1) f (by omega) (by omega)
    generalize zlp2 (fb_X12_begins_88 n) f = kk at ih ⊢
    unfold fb_X12_begins_88
    have e2 : 131 + (1 + i) = 132 + i := by omega
    simp (disch := omega) only [lit, nLt, if_neg, S_gR422_2 hs, R_a hs, R_e hs, nI_add, e2, fil_u, Nat.add_assoc]
    exact ih
theorem r_beg39 (hs : Sy g) {a : Nat} (ha : a ≤ 24) (hv : v 139 = nI a) : ∀ (k i f : Nat), i + k = a → k < f → zlp2 (fb_X12_begins_39 n) f 422 (nI i) (g, zrw M 424 (va_cpy v v 140 165 i), ml) = fb_X12_begins_77 n 422 (g, zrw M 424 (va_cpy v v 140 165 a), ml)
  | k, i, 0, _, h => absurd h (by omega)
  | 0, i, f + 1, h1, _ => by
    show fb_X12_begins_39 n (zlp2 (fb_X12_begins_39 n) f) 422 (nI i) _ = _
    have : i = a := by omega
    subst this
    have e : va_cpy v v 140 165 i 139 = nI i := by rw [pk_cpy_out (by omega), hv]
    generalize zlp2 (fb_X12_begins_39 n) f = kk
    unfold fb_X12_begins_39
    simp (disch := omega) only [lit, S_gR422_2 hs, R_a hs, e, nLe, if_pos]
  | k + 1, i, f + 1, h1, h2 => by
    show fb_X12_begins_39 n (zlp2 (fb_X12_begins_39 n) f) 422 (nI i) _ = _
    have e : va_cpy v v 140 165 i 139 = nI a := by rw [pk_cpy_out (by omega), hv]
    have e2 : va_cpy v v 140 165 i (140 + i) = v (140 + i) := pk_cpy_out (by omega)
    have ih := r_beg39 hs ha hv k (i + 1) f (by omega) (by omega)
    generalize zlp2 (fb_X12_begins_39 n) f = kk at ih ⊢
    unfold fb_X12_begins_39
    simp (disch := omega) only [lit, S_gR422_2 hs, R_a hs, R_e hs, e, e2, nLe, if_neg, nI_add, cpy_u]
    exact ih
theorem r_begins (hs : Sy g) (hn : 24 < n) {a : Nat} (ha : a ≤ 24) (hv : v 139 = nI a) : f_X12_begins n 422 (g, zrw M 424 v, ml) = some ((), (g, zrw M 424 (vB v a), ml)) := by
  have hv2 : upd (upd (upd v 129 (nI 1)) 130 (v 130 + nI 1)) 164 (nI a) 139 = nI a := by rw [upd_ne (by decide), upd_ne (by decide), upd_ne (by decide), hv]
  have h1 := r_beg39 (n := n) (M := M) (ml := ml) (v := upd (upd (upd v 129 (nI 1)) 130 (v 130 + nI 1)) 164 (nI a)) hs ha hv2 a 0 n (by omega) (by omega)
  rw [cpy_0] at h1
  have h2 := fun u : Nat → Int32 => r_beg88 (n := n) (M := M) (ml := ml) (v := u) hs 7 0 n (by omega) (by omega)
  have h3 := fun u : Nat → Int32 => r_beg113 (n := n) (M := M) (ml := ml) (v := u) hs 8 0 n (by omega) (by omega)
  unfold f_X12_begins
  simp (disch := omega) only [lit, S_gR422_2 hs, R_a hs, R_e hs, upd_ne, hv, h1]
  unfold fb_X12_begins_77
  simp (disch := omega) only [lit, S_gR422_2 hs, R_e hs]
  have h2' := h2 (upd (va_cpy (upd (upd (upd v 129 (nI 1)) 130 (v 130 + nI 1)) 164 (nI a)) (upd (upd (upd v 129 (nI 1)) 130 (v 130 + nI 1)) 164 (nI a)) 140 165 a) 139 (nI 0))
  rw [fil_0] at h2'
  refine h2'.trans ?_
  unfold fb_X12_begins_111
  have h3' := h3 (fil (upd (va_cpy (upd (upd (upd v 129 (nI 1)) 130 (v 130 + nI 1)) 164 (nI a)) (upd (upd (upd v 129 (nI 1)) 130 (v 130 + nI 1)) 164 (nI a)) 140 165 a) 139 (nI 0)) (nI 3) 132 7)
  rw [cpy_0] at h3'
  refine h3'.trans ?_
  have e : va_cpy (fil (upd (va_cpy (upd (upd (upd v 129 (nI 1)) 130 (v 130 + nI 1)) 164 (nI a)) (upd (upd (upd v 129 (nI 1)) 130 (v 130 + nI 1)) 164 (nI a)) 140 165 a) 139 (nI 0)) (nI 3) 132 7) (fil (upd (va_cpy (upd (upd (upd v 129 (nI 1)) 130 (v 130 + nI 1)) 164 (nI a)) (upd (upd (upd v 129 (nI 1)) 130 (v 130 + nI 1)) 164 (nI a)) 140 165 a) 139 (nI 0)) (nI 3) 132 7) 113 121 8 = vB v a := by
    funext k
    unfold vB
    by_cases q1 : 121 ≤ k ∧ k < 129
    · have e : 113 + (k - 121) = k - 8 := by omega
      rw [pk_cpy_in (by omega) (by omega), if_pos q1, e, fil_out (by omega), upd_ne (by omega), pk_cpy_out (by omega), upd_ne (by omega), upd_ne (by omega), upd_ne (by omega)]
    · rw [pk_cpy_out (by omega), if_neg q1]
      by_cases q2 : 132 ≤ k ∧ k < 139
      · rw [fil_in (by omega) (by omega), if_neg (by omega), if_neg (by omega), if_pos q2]
      · rw [fil_out (by omega), if_neg q2]
        by_cases q3 : k = 139
        · rw [q3, upd_eq, if_neg (by omega), if_neg (by omega), if_pos rfl]
        · rw [upd_ne q3, if_neg q3]
          by_cases q4 : 165 ≤ k ∧ k < 165 + a
          · have e : 140 + (k - 165) = k - 25 := by omega
            rw [pk_cpy_in q4.1 q4.2, e, upd_ne (by omega), upd_ne (by omega), upd_ne (by omega), if_neg (by omega), if_neg (by omega), if_neg (by omega), if_pos q4]
          · rw [pk_cpy_out (by omega), if_neg q4]
            by_cases q5 : k = 164
            · rw [q5, upd_eq, if_neg (by omega), if_neg (by omega), if_pos rfl, hv]
            · rw [upd_ne q5, if_neg q5]
              by_cases q6 : k = 130
              · rw [q6, upd_eq, if_neg (by omega), if_pos rfl]
              · rw [upd_ne q6, if_neg q6]
                by_cases q7 : k = 129
                · rw [q7, upd_eq, if_pos rfl]
                · rw [upd_ne q7, if_neg q7]
  rw [e]
end
