/-! a grace begins: the Java side -/
section
variable {g : zS} {mi M : Nat → Nat → Int32} {v : Nat → Int32} {ml : Nat → Nat → Int64} {n w : Nat} {m0 : Nat → Nat → Int32}
theorem c_fill_ {b L : Nat} {x : Int32} {F : Nat → Int32} (h1 : g.1 b = 21) (h2 : g.2.1 b = L) (hL : L < 2147483648) : ∀ (k i f : Nat), i + k = L → k < f → zlp4 (fb_J7_fill_53178_5 n) f b x (nI i) (nI L) (g, zrw mi b (fil F x 0 i), ml) = some ((), (g, zrw mi b (fil F x 0 L), ml))
  | k, i, 0, _, h => absurd h (by omega)
  | 0, i, f + 1, e1, _ => by
    show fb_J7_fill_53178_5 n (zlp4 (fb_J7_fill_53178_5 n) f) b x (nI i) (nI L) _ = _
    have : i = L := by omega
    subst this
    generalize zlp4 (fb_J7_fill_53178_5 n) f = kk
    unfold fb_J7_fill_53178_5
    simp (disch := omega) only [nLe, if_pos]
  | k + 1, i, f + 1, e1, e2 => by
    show fb_J7_fill_53178_5 n (zlp4 (fb_J7_fill_53178_5 n) f) b x (nI i) (nI L) _ = _
    have ih := c_fill_ (F := F) (x := x) h1 h2 hL k (i + 1) f (by omega) (by omega)
    generalize zlp4 (fb_J7_fill_53178_5 n) f = kk at ih ⊢
    have e : upd (fil F x 0 i) i x = fil F x 0 (i + 1) := by
      have := fil_u (v := F) (x := x) (lo := 0) (n := i)
      rw [Nat.zero_add] at this
      exact this
    unfold fb_J7_fill_53178_5
    simp (disch := omega) only [lit, nLe, if_neg, q_eI h1 h2 hL, u_ru, e, nI_add]
    exact ih
theorem c_fill {b L : Nat} {x : Int32} (h1 : g.1 b = 21) (h2 : g.2.1 b = L) (hL : L < 2147483648) (hn : L < n) : f_J7_fill_53178 n b x (g, mi, ml) = some ((), (g, zrw mi b (fil (mi b) x 0 L), ml)) := by
  have h := c_fill_ (n := n) (mi := mi) (ml := ml) (x := x) (F := mi b) h1 h2 hL L 0 n (by omega) hn
  rw [fil_0, u_self] at h
  unfold f_J7_fill_53178
  rw [q_ln h1 h2]
  exact h
theorem L_fill (h : WR mi w v) : WR (zrw mi (w + 9) (fil (mi (w + 9)) (nI 3) 0 8)) w (fil v (nI 3) 132 7) := by
  obtain ⟨g1, ⟨c1, c2⟩, e1, e2, e3⟩ := h
  refine ⟨fun a k i hp => ?_, ⟨fun j hj hh => ?_, fun j hj hh => ?_⟩, ?_, ?_, ?_⟩
  · by_cases q : a = w + 9
    · obtain ⟨d, h1, h2, h3, h4, h5⟩ := hp
      have hd : d = 9 := by omega
      subst hd
      have h6 : 0 < k ∧ k < 8 := by
        simp [okd] at h3
        exact h3
      have h7 : i = 131 + k := h5
      rw [q, zrw_eq, fil_in (by omega) (by omega), fil_in (by omega) (by omega)]
    · have h9 := g1 a k i hp
      have hi : i < 132 ∨ 139 ≤ i := by
        by_cases z : 132 ≤ i ∧ i < 139
        · have hp2 : PL w (w + 9) (i - 131) i := ⟨9, by decide, by omega, by simp [okd]; omega, rfl, by show i = 131 + (i - 131); omega⟩
          exact absurd ((PL_i hp hp2).mp rfl).1 q
        · omega
      rw [zrw_a q, fil_out (by omega), h9]
  · rw [fil_out (by omega)] at hh ⊢
    rw [zrw_a (by omega), c1 j hj hh]
  · rw [fil_out (by omega)] at hh ⊢
    rw [zrw_a (by omega), c2 j hj hh]
  · rw [zrw_a (by omega)]
    exact Bt_cong e1 (fun p hp => fil_out (by omega))
  · rw [zrw_a (by omega)]
    exact Bt_cong e2 (fun p hp => fil_out (by omega))
  · rw [zrw_a (by omega)]
    exact Bt_cong e3 (fun p hp => fil_out (by omega))
theorem L_wbc {a : Nat} (h : WR mi w v) (ha : a ≤ 24) (hv : v 139 = nI a) : WR (zu (zu (zrw mi (w + 7) (va_cpy (mi (w + 6)) (mi (w + 7)) 0 0 a)) (w + 1) 8 (nI a)) (w + 1) 7 (nI 0)) w (upd (upd (va_cpy v v 140 165 a) 164 (nI a)) 139 (nI 0)) := by
  obtain ⟨g1, ⟨c1, c2⟩, e1, e2, e3⟩ := h
  have p1 : PL w (w + 1) 7 139 := pl_wc
  have p2 : PL w (w + 1) 8 164 := pl_cc
  refine ⟨fun b k i hp => ?_, ⟨fun j hj hh => ?_, fun j hj hh => ?_⟩, ?_, ?_, ?_⟩
  · have n0 := PL_n hp
    have n1 := (PL_r hp).2.2
    by_cases q : i = 139
    · obtain ⟨q1, q2⟩ := (PL_i hp p1).mp q
      rw [q, q1, q2, zu_s, upd_eq]
    · rw [upd_ne q, zu_e (fun z => q ((PL_i hp p1).mpr z))]
      by_cases y : i = 164
      · obtain ⟨q1, q2⟩ := (PL_i hp p2).mp y
        rw [y, q1, q2, zu_s, upd_eq]
      · rw [upd_ne y, zu_e (fun z => y ((PL_i hp p2).mpr z)), zrw_a n0.2.2.1, pk_cpy_out (by omega), g1 b k i hp]
  · rw [upd_eq, nLt (by omega) (by omega)] at hh
    omega
  · rw [upd_ne (by omega), upd_eq, nLt (by omega) (by omega)] at hh
    have e : 140 + (165 + j - 165) = 140 + j := by omega
    rw [upd_ne (by omega), upd_ne (by omega), pk_cpy_in (by omega) (by omega), zu_a (by omega), zu_a (by omega), zrw_eq, pk_cpy_in (by omega) (by omega), e]
    have e2 : 0 + (j - 0) = j := by omega
    rw [e2]
    exact c1 j hj (by rw [hv, nLt (by omega) (by omega)]; exact hh)
  · rw [zu_e (by omega), zu_e (by omega), zrw_a (by omega)]
    exact Bt_cong e1 (fun p hp => by rw [upd_ne (by omega), upd_ne (by omega), pk_cpy_out (by omega)])
  · rw [zu_e (by omega), zu_e (by omega), zrw_a (by omega)]
    exact Bt_cong e2 (fun p hp => by rw [upd_ne (by omega), upd_ne (by omega), pk_cpy_out (by omega)])
  · rw [zu_e (by omega), zu_e (by omega), zrw_a (by omega)]
    exact Bt_cong e3 (fun p hp => by rw [upd_ne (by omega), upd_ne (by omega), pk_cpy_out (by omega)])
theorem c_wbc_ (hs : Sy g) (hw : zWL.contains w = true) {a : Nat} (ha : a ≤ 24) (hm : mi (w + 1) 7 = nI a) : ∀ (k i f : Nat), i + k = a → k < f → zlp2 (fb_X0_waitingBecomeCurrent_2 n) f (w + 1) (nI i) (g, zrw mi (w + 7) (va_cpy (mi (w + 6)) (mi (w + 7)) 0 0 i), ml) = some ((), (g, zu (zu (zrw mi (w + 7) (va_cpy (mi (w + 6)) (mi (w + 7)) 0 0 a)) (w + 1) 8 (nI a)) (w + 1) 7 (nI 0), ml))
  | k, i, 0, _, h => absurd h (by omega)
  | 0, i, f + 1, e1, _ => by
    show fb_X0_waitingBecomeCurrent_2 n (zlp2 (fb_X0_waitingBecomeCurrent_2 n) f) (w + 1) (nI i) _ = _
    have : i = a := by omega
    subst this
    generalize zlp2 (fb_X0_waitingBecomeCurrent_2 n) f = kk
    unfold fb_X0_waitingBecomeCurrent_2 fb_X0_waitingBecomeCurrent_34
    simp (disch := omega) only [lit, C_gI hs hw, zrw_a, hm, nLe, if_pos, C_pI hs hw]
  | k + 1, i, f + 1, e1, e2 => by
    show fb_X0_waitingBecomeCurrent_2 n (zlp2 (fb_X0_waitingBecomeCurrent_2 n) f) (w + 1) (nI i) _ = _
    have ih := c_wbc_ hs hw ha hm k (i + 1) f (by omega) (by omega)
    generalize zlp2 (fb_X0_waitingBecomeCurrent_2 n) f = kk at ih ⊢
    have e : upd (va_cpy (mi (w + 6)) (mi (w + 7)) 0 0 i) i (mi (w + 6) i) = va_cpy (mi (w + 6)) (mi (w + 7)) 0 0 (i + 1) := by
      have := cpy_u (f := mi (w + 6)) (g := mi (w + 7)) (sp := 0) (dp := 0) (i := i)
      rw [Nat.zero_add] at this
      exact this
    unfold fb_X0_waitingBecomeCurrent_2
    simp (disch := omega) only [lit, C_gI hs hw, zrw_a, hm, nLe, if_neg, C_gR5 hs hw, C_gR4 hs hw, A_aI6 hs hw, A_eI7 hs hw, u_ru, e, nI_add]
    exact ih
theorem c_wbc (hs : Sy g) (hw : zWL.contains w = true) (hn : 24 < n) {a : Nat} (ha : a ≤ 24) (hm : mi (w + 1) 7 = nI a) : f_X0_waitingBecomeCurrent n (w + 1) (g, mi, ml) = some ((), (g, zu (zu (zrw mi (w + 7) (va_cpy (mi (w + 6)) (mi (w + 7)) 0 0 a)) (w + 1) 8 (nI a)) (w + 1) 7 (nI 0), ml)) := by
  have h := c_wbc_ (n := n) (ml := ml) hs hw ha hm a 0 n (by omega) (by omega)
  have e : va_cpy (mi (w + 6)) (mi (w + 7)) 0 0 0 = mi (w + 7) := cpy_0
  rw [e, u_self] at h
  unfold f_X0_waitingBecomeCurrent
  exact h
theorem c_startGrace (hs : Sy g) (hw : zWL.contains w = true) (hn : 24 < n) (hR : WR mi w v) {a : Nat} (ha : a ≤ 24) (h0 : 0 < a) (hv : v 139 = nI a) (hr : v 129 = nI 0) : ∃ mi', f_X10_startGrace n w (g, mi, ml) = some (v 130 + nI 1, (g, mi', ml)) ∧ WR mi' w (vB v a) ∧ Fw w mi mi' := by
  have k1 := L_pl (x := nI 1) hR (pl_runs (w := w)) (by decide) (by decide)
  have k2 := L_pl (x := v 130 + nI 1) k1 (pl_begun (w := w)) (by decide) (by decide)
  have k3 := L_wbc k2 ha (by rw [upd_ne (by decide), upd_ne (by decide), hv])
  have k4 := L_fill k3
  have e1 : ∀ k, ¬ (121 ≤ k ∧ k < 129) → vB v a k = fil (upd (upd (va_cpy (upd (upd v 129 (nI 1)) 130 (v 130 + nI 1)) (upd (upd v 129 (nI 1)) 130 (v 130 + nI 1)) 140 165 a) 164 (nI a)) 139 (nI 0)) (nI 3) 132 7 k := by
    intro k q1
    unfold vB
    rw [if_neg q1]
    by_cases q2 : 132 ≤ k ∧ k < 139
    · rw [fil_in (by omega) (by omega), if_neg (by omega), if_neg (by omega), if_pos q2]
    · rw [fil_out (by omega), if_neg q2]
      by_cases q3 : k = 139
      · rw [q3, upd_eq, if_neg (by omega), if_neg (by omega), if_pos rfl]
      · rw [upd_ne q3, if_neg q3]
        by_cases q5 : k = 164
        · rw [q5, upd_eq, if_neg (by omega), if_neg (by omega), if_pos rfl, hv]
        · rw [upd_ne q5, if_neg q5]
          by_cases q4 : 165 ≤ k ∧ k < 165 + a
          · have e : 140 + (k - 165) = k - 25 := by omega
            rw [pk_cpy_in q4.1 q4.2, e, upd_ne (by omega), upd_ne (by omega), if_neg (by omega), if_neg (by omega), if_pos q4]
          · rw [pk_cpy_out (by omega), if_neg q4]
            by_cases q6 : k = 130
            · rw [q6, upd_eq, if_neg (by omega), if_pos rfl]
            · rw [upd_ne q6, if_neg q6]
              by_cases q7 : k = 129
              · rw [q7, upd_eq, if_pos rfl]
              · rw [upd_ne q7, if_neg q7]
  have b0 : Bt (mi w 4) (vB v a) 121 := by
    obtain ⟨b, y1, y2, y3⟩ := hR.2.2.2.1
    refine ⟨b, y1, y2, fun p hp => ?_⟩
    rw [← y3 p hp]
    unfold vB
    rw [if_pos (by omega)]
    congr 1
    omega
  have k5 := L_he (v' := vB v a) k4 b0 (fun k _ h2 => e1 k h2)
  refine ⟨_, ?_, k5, ?_⟩
  · unfold f_X10_startGrace
    have f1 : g.1 (w + 9) = 21 := Sy_w (q := (0, w + 9, 0, 21)) hs hw (by simp [zWl])
    have f2 : g.2.1 (w + 9) = 8 := Sy_w (q := (1, w + 9, 0, 8)) hs hw (by simp [zWl])
    have hmw : zu (zu mi w 6 (nI 1)) w 7 (v 130 + nI 1) (w + 1) 7 = nI a := by
      rw [zu_a (by omega), zu_a (by omega), rd_wc hR, hv]
    have hw1 : (nI 1 = nI 0 ∨ nI 1 = nI 1) := Or.inr rfl
    simp (disch := omega) only [lit, ng3, W_gI hs hw, rd_runs hR, hr, if_T, W_gR0 hs hw, C_gI hs hw, rd_wc hR, hv, nEq, if_neg, W_pZ hs hw hw1, W_pI hs hw, C_ck hs hw, c_wbc hs hw hn ha hmw, zb_s, W_gR2 hs hw, c_fill f1 f2 (by decide) (show 8 < n by omega), zu_a, zu_k, zu_s, zrw_a, rd_begun hR]
  · refine Fw_t (Fw_t (Fw_t (Fw_t (Fw_t (Fw_t (Fw_zu (by omega) (by omega)) (Fw_zu (by omega) (by omega))) (fun b hb => zrw_a (by omega))) (Fw_zu (by omega) (by omega))) (Fw_zu (by omega) (by omega))) (fun b hb => zrw_a (by omega))) (Fw_zu (by omega) (by omega))
end
