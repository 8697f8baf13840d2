/-! orders: the words -/
def vk (v : Nat → Int32) (l : List Nat) (k : Nat) : Int32 := match l.find? (fun c => decide (v (24 + c) = nI k)) with
  | none => m1
  | some c => v (48 + c)
def oe (v : Nat → Int32) (d lt : Int32) (l : List Nat) : Nat → Int32 := fun k => if k = 0 then v 190 else if k = 1 then d else if k = 2 then lt else if k = 3 then v 139 else if k = 4 then v 130 else if k < 13 then (if v (97 + (k - 5)) = nI 0 then m1 else v (105 + (k - 5))) else vk v l (k - 13)
theorem oe_5 {v : Nat → Int32} {d lt : Int32} {l : List Nat} {p : Nat} (hp : p < 8) : oe v d lt l (5 + p) = if v (97 + p) = nI 0 then m1 else v (105 + p) := by
  unfold oe
  rw [if_neg (by omega), if_neg (by omega), if_neg (by omega), if_neg (by omega), if_neg (by omega), if_pos (by omega), Nat.add_sub_cancel_left]
theorem oe_13 {v : Nat → Int32} {d lt : Int32} {l : List Nat} {k : Nat} : oe v d lt l (13 + k) = vk v l k := by
  unfold oe
  rw [if_neg (by omega), if_neg (by omega), if_neg (by omega), if_neg (by omega), if_neg (by omega), if_neg (by omega), Nat.add_sub_cancel_left]
section
variable {g : zS} {mi : Nat → Nat → Int32} {ml : Nat → Nat → Int64} {n : Nat} {v : Nat → Int32}
theorem c_w57 (hs : Sy g) (hR : WR mi 2 v) : ∀ (r t f : Nat) (F : Nat → Int32), t + r = 8 → r < f → ∃ F', zlp3 (fb_X11_tellOrderWords_57 n) f 1 23 (nI t) (g, zrw mi 23 F, ml) = fb_X11_tellOrderWords_82 n 1 23 (g, zrw mi 23 F', ml) ∧ (∀ p, t ≤ p → p < 8 → F' (5 + p) = if v (97 + p) = nI 0 then m1 else v (105 + p)) ∧ ∀ j, (j < 5 + t ∨ 13 ≤ j) → F' j = F j
  | r, t, 0, F, _, h => absurd h (by omega)
  | 0, t, f + 1, F, h1, _ => by
    refine ⟨F, ?_, fun p q1 q2 => absurd q2 (by omega), fun _ _ => rfl⟩
    show fb_X11_tellOrderWords_57 n (zlp3 (fb_X11_tellOrderWords_57 n) f) 1 23 (nI t) _ = _
    generalize zlp3 (fb_X11_tellOrderWords_57 n) f = K
    unfold fb_X11_tellOrderWords_57
    simp only [li]
    rw [iLe1 (by omega) (by omega) (by omega)]
  | r + 1, t, f + 1, F, h1, h2 => by
    obtain ⟨F', a1, a2, a3⟩ := c_w57 hs hR r (t + 1) f (upd F (5 + t) (if v (97 + t) = nI 0 then m1 else v (105 + t))) (by omega) (by omega)
    refine ⟨F', ?_, fun p q1 q2 => ?_, fun j hj => by rw [a3 j (by omega), upd_ne (by omega)]⟩
    · rw [← a1]
      show fb_X11_tellOrderWords_57 n (zlp3 (fb_X11_tellOrderWords_57 n) f) 1 23 (nI t) _ = _
      generalize zlp3 (fb_X11_tellOrderWords_57 n) f = K
      unfold fb_X11_tellOrderWords_57
      simp only [li]
      rw [iLe0 (by omega) (by omega) (by omega), S_gR1_0 hs, W_ck hs w2c, c_cellOf hs w2c (FC_23w (Or.inl rfl) hR) (by omega), zb_s, nI_add, S_eI23 hs (by omega), ur_s, nI_add]
    · by_cases z : p = t
      · subst z
        rw [a3 _ (by omega), upd_eq]
      · exact a2 p (by omega) q2
theorem c_w16 (hs : Sy g) : ∀ (r t f : Nat) (F : Nat → Int32), t + r = 100 → r < f → ∃ F', zlp4 (fb_X0_tellValues_16 n) f 3 23 (nI 13) (nI t) (g, zrw mi 23 F, ml) = fb_X0_tellValues_34 n 3 23 (nI 13) (g, zrw mi 23 F', ml) ∧ (∀ k, t ≤ k → k < 100 → F' (13 + k) = m1) ∧ ∀ j, j < 13 + t → F' j = F j
  | r, t, 0, F, _, h => absurd h (by omega)
  | 0, t, f + 1, F, h1, _ => by
    refine ⟨F, ?_, fun p q1 q2 => absurd q2 (by omega), fun _ _ => rfl⟩
    show fb_X0_tellValues_16 n (zlp4 (fb_X0_tellValues_16 n) f) 3 23 (nI 13) (nI t) _ = _
    generalize zlp4 (fb_X0_tellValues_16 n) f = K
    unfold fb_X0_tellValues_16
    simp only [li, ng1]
    rw [iLe1 (by omega) (by omega) (by omega)]
  | r + 1, t, f + 1, F, h1, h2 => by
    obtain ⟨F', a1, a2, a3⟩ := c_w16 hs r (t + 1) f (upd F (13 + t) m1) (by omega) (by omega)
    refine ⟨F', ?_, fun p q1 q2 => ?_, fun j hj => by rw [a3 j (by omega), upd_ne (by omega)]⟩
    · rw [← a1]
      show fb_X0_tellValues_16 n (zlp4 (fb_X0_tellValues_16 n) f) 3 23 (nI 13) (nI t) _ = _
      generalize zlp4 (fb_X0_tellValues_16 n) f = K
      unfold fb_X0_tellValues_16
      simp only [li, ng1]
      rw [iLe0 (by omega) (by omega) (by omega), nI_add, S_eI23 hs (by omega), ur_s, nI_add]
    · by_cases z : p = t
      · subst z
        rw [a3 _ (by omega), upd_eq]
      · exact a2 p (by omega) q2
theorem c_w42 (hs : Sy g) (hR : WR mi 2 v) (hk : ∀ c, c < 24 → ∃ k, k < 100 ∧ v (24 + c) = nI k) : ∀ (l : List Nat) (x : Int32) (t f : Nat) (F : Nat → Int32), Lk v x l → l.Pairwise (fun a b => v (24 + a) < v (24 + b)) → t + l.length ≤ 24 → l.length < f → ∃ F', zlp5 (fb_X0_tellValues_42 n) f 3 23 (nI 13) x (nI t) (g, zrw mi 23 F, ml) = some ((), (g, zrw mi 23 F', ml)) ∧ (∀ k, k < 100 → F' (13 + k) = match l.find? (fun c => decide (v (24 + c) = nI k)) with | none => F (13 + k) | some c => v (48 + c)) ∧ ∀ j, j < 13 → F' j = F j
  | l, x, t, 0, F, _, _, _, h => absurd h (by omega)
  | [], x, t, f + 1, F, h1, _, h3, _ => by
    have h1 : x = m1 := h1
    subst h1
    refine ⟨F, ?_, fun k _ => rfl, fun _ _ => rfl⟩
    show fb_X0_tellValues_42 n (zlp5 (fb_X0_tellValues_42 n) f) 3 23 (nI 13) m1 (nI t) _ = _
    generalize zlp5 (fb_X0_tellValues_42 n) f = K
    unfold fb_X0_tellValues_42
    simp only [li]
    by_cases q : 24 ≤ t
    · rw [iLe1 (by omega) (by simp at h3; omega) q]
    · rw [iLe0 (by omega) (by omega) (by omega), c_isCellN, zb_s, iP rfl]
  | c :: l, x, t, f + 1, F, h1, h2, h3, h4 => by
    obtain ⟨e1, hc, e2⟩ := h1
    subst e1
    have hl : (c :: l).length = l.length + 1 := rfl
    rw [hl] at h3 h4
    obtain ⟨kc, hkc, ekc⟩ := hk c hc
    rw [List.pairwise_cons] at h2
    obtain ⟨F', a1, a2, a3⟩ := c_w42 hs hR hk l (v (72 + c)) (t + 1) f (upd F (13 + kc) (v (48 + c))) e2 h2.2 (by omega) (by omega)
    refine ⟨F', ?_, fun k hk' => ?_, fun j hj => by rw [a3 j hj, upd_ne (by omega)]⟩
    · rw [← a1]
      show fb_X0_tellValues_42 n (zlp5 (fb_X0_tellValues_42 n) f) 3 23 (nI 13) (nI c) (nI t) _ = _
      generalize zlp5 (fb_X0_tellValues_42 n) f = K
      have hR' : WR (zrw mi 23 F) 2 v := FC_23w (Or.inl rfl) hR
      have hR2 : WR (zrw mi 23 (upd F (13 + kc) (v (48 + c)))) 2 v := FC_23w (Or.inl rfl) hR
      unfold fb_X0_tellValues_42 fb_X0_tellValues_92
      simp only [li]
      rw [iLe0 (by omega) (by omega) (by omega), c_isCell hc, zb_s, iN n01.symm, C_gR1 (w := 2) hs w2c, A_aI3 (w := 2) hs w2c hc, rd_key hR' hc, ekc, iLt0 (by omega) (by omega) (by omega), C_gR1 (w := 2) hs w2c, A_aI3 (w := 2) hs w2c hc, rd_key hR' hc, ekc, iLe0 (by omega) (by omega) (by omega), C_gR1 (w := 2) hs w2c, A_aI3 (w := 2) hs w2c hc, rd_key hR' hc, ekc, C_gR2 (w := 2) hs w2c, A_aI4 (w := 2) hs w2c hc, rd_val hR' hc, nI_add, S_eI23 hs (by omega), ur_s, C_gR3 (w := 2) hs w2c, A_aI5 (w := 2) hs w2c hc, rd_next hR2 hc, nI_add]
    · rw [a2 k hk', List.find?_cons]
      by_cases z : k = kc
      · subst z
        have hn : l.find? (fun c => decide (v (24 + c) = nI k)) = none := fnd_n (fun d hd q => by
          have := h2.1 d hd
          rw [q, ekc] at this
          exact absurd this (by rw [nLt (by omega) (by omega)]; omega))
        rw [hn]
        simp only [ekc, decide_true]
        rw [upd_eq]
      · have hne : ¬ v (24 + c) = nI k := by
          rw [ekc, nEq (by omega) (by omega)]
          exact fun q => z q.symm
        simp only [hne, decide_false]
        cases l.find? (fun c => decide (v (24 + c) = nI k)) with
        | none => exact upd_ne (by omega)
        | some d => rfl
theorem c_tow (hs : Sy g) (hn : 3000 < n) (hR : WR mi 2 v) {l lw lc : List Nat} (hC : CIr v l lw lc) : ∃ F, f_X11_tellOrderWords n 1 (g, mi, ml) = some ((), (g, zrw mi 23 F, ml)) ∧ ∀ k, k < 113 → F k = oe v (mi 1 17) (mi 1 18) l k := by
  obtain ⟨F0, hF0⟩ : ∃ F, F = upd (upd (upd (upd (upd (mi 23) 0 (v 190)) 1 (mi 1 17)) 2 (mi 1 18)) 3 (v 139)) 4 (v 130) := ⟨_, rfl⟩
  obtain ⟨F1, a1, a2, a3⟩ := c_w57 (ml := ml) (n := n) hs hR 8 0 n F0 rfl (by omega)
  obtain ⟨F2, b1, b2, b3⟩ := c_w16 (mi := mi) (ml := ml) (n := n) hs 100 0 n F1 rfl (by omega)
  have hll := Lk_len hC.1.1
  obtain ⟨F3, c1, c2, c3⟩ := c_w42 (ml := ml) (n := n) hs hR hC.2.1.2.2.2 l (v 96) 0 n F2 hC.1.1 hC.1.2 (by omega) (by omega)
  have hW : ∀ F, WR (zrw mi 23 F) 2 v := fun F => FC_23w (Or.inl rfl) hR
  refine ⟨F3, ?_, fun k hk => ?_⟩
  · have u : f_X11_tellOrderWords n 1 (g, mi, ml) = f_X11_tellOrderWords n 1 (g, zrw mi 23 (mi 23), ml) := by rw [u_self]
    rw [u]
    unfold f_X11_tellOrderWords
    simp only [li]
    rw [S_gR1_2 hs, S_gR22_0 hs, S_gR1_0 hs, W_gI hs w2c, rd_time (hW _), S_eI23 hs (by decide), ur_s, S_gI1 hs, zrw_a (by decide), S_eI23 hs (by decide), ur_s, S_gI1 hs, zrw_a (by decide), S_eI23 hs (by decide), ur_s, S_gR1_0 hs, W_gR0 hs w2c, C_gI hs w2c, rd_wc (hW _), S_eI23 hs (by decide), ur_s, S_gR1_0 hs, W_gI hs w2c, rd_begun (hW _), S_eI23 hs (by decide), ur_s, ← hF0]
    refine a1.trans ?_
    unfold fb_X11_tellOrderWords_82 f_X0_tellValues
    simp only [li]
    rw [S_gR1_0 hs, W_gR0 hs w2c, C_ck hs w2c, iLt0 (by omega) (by omega) (by omega), S_ln23 hs, nI_add, iLe1 (by omega) (by omega) (by omega)]
    have e16 : zlp4 (fb_X0_tellValues_16 n) n 3 23 (nI 13) (nI 0) (g, zrw mi 23 F1, ml) = some ((), (g, zrw mi 23 F3, ml)) := by
      rw [b1]
      unfold fb_X0_tellValues_34
      simp only [li]
      have e := rd_head (hW F2)
      rw [show ((zgI ((g, zrw mi 23 F2, ml) : zH) 1 3 6 fun v1 => zlp5 (fb_X0_tellValues_42 n) n 3 23 (nI 13) v1 (nI 0) (g, zrw mi 23 F2, ml)) : Option (Unit × zH)) = zlp5 (fb_X0_tellValues_42 n) n 3 23 (nI 13) (zrw mi 23 F2 3 6) (nI 0) (g, zrw mi 23 F2, ml) from C_gI (w := 2) hs w2c, show zrw mi 23 F2 3 6 = v 96 from e, c1]
    rw [e16, zb_s]
  · unfold oe
    by_cases q13 : 13 ≤ k
    · rw [if_neg (by omega), if_neg (by omega), if_neg (by omega), if_neg (by omega), if_neg (by omega), if_neg (by omega)]
      obtain ⟨j, rfl⟩ : ∃ j, k = 13 + j := ⟨k - 13, by omega⟩
      rw [c2 j (by omega), Nat.add_sub_cancel_left]
      unfold vk
      cases l.find? (fun c => decide (v (24 + c) = nI j)) with
      | none => exact b2 j (by omega) (by omega)
      | some d => rfl
    · rw [c3 k (by omega), b3 k (by omega)]
      by_cases q5 : 5 ≤ k
      · rw [if_neg (by omega), if_neg (by omega), if_neg (by omega), if_neg (by omega), if_neg (by omega), if_pos (by omega)]
        obtain ⟨p, rfl⟩ : ∃ p, k = 5 + p := ⟨k - 5, by omega⟩
        rw [a2 p (by omega) (by omega), Nat.add_sub_cancel_left]
      · rw [a3 k (by omega), hF0]
        have : k = 0 ∨ k = 1 ∨ k = 2 ∨ k = 3 ∨ k = 4 := by omega
        rcases this with q | q | q | q | q <;> subst q <;> rfl
theorem r_ov (hs : Sy g) (hn : 3000 < n) {M : Nat → Nat → Int32} {l lw lc : List Nat} (hC : CIr v l lw lc) (hP : PIr v) {F : Nat → Int32} {d lt : Int32} (h25 : M 422 25 = nI 1) (h27 : M 422 27 = d) (h28 : M 422 28 = lt) (hF : ∀ k, k < 113 → F k = oe v d lt l k) : EO true n g M v F := by
  unfold EO
  rw [if_pos rfl]
  refine ⟨h25, fun x b ml => ⟨fun d' k h1 h2 => ?_, fun k hk => ?_, fun k hk => ?_⟩⟩
  · have : d' = 13 ∨ d' = 14 ∨ d' = 15 ∨ d' = 16 ∨ d' = 17 := by omega
    rcases this with q | q | q | q | q <;> subst q <;> unfold f_X12_orderValue <;> simp only [li, zswl]
    · rw [if_T, S_gR422_2 hs, R_a hs (by decide), hF _ (by decide)]; rfl
    · rw [iEq0 (by decide) (by decide) (by decide), if_T, S_gI422 hs, zrw_a (by decide), Mg_k (by decide) (by decide), h27, hF _ (by decide)]; rfl
    · rw [iEq0 (by decide) (by decide) (by decide), iEq0 (by decide) (by decide) (by decide), if_T, S_gI422 hs, zrw_a (by decide), Mg_k (by decide) (by decide), h28, hF _ (by decide)]; rfl
    · rw [iEq0 (by decide) (by decide) (by decide), iEq0 (by decide) (by decide) (by decide), iEq0 (by decide) (by decide) (by decide), if_T, S_gR422_2 hs, R_a hs (by decide), hF _ (by decide)]; rfl
    · rw [iEq0 (by decide) (by decide) (by decide), iEq0 (by decide) (by decide) (by decide), iEq0 (by decide) (by decide) (by decide), iEq0 (by decide) (by decide) (by decide), if_T, S_gR422_2 hs, R_a hs (by decide), hF _ (by decide)]; rfl
  · unfold f_X12_orderValue
    simp only [li, zswl]
    rw [iEq0 (by decide) (by decide) (by decide), iEq0 (by decide) (by decide) (by decide), iEq0 (by decide) (by decide) (by decide), iEq0 (by decide) (by decide) (by decide), iEq0 (by decide) (by decide) (by decide), if_T, S_ck422 hs, r_cellOf hs (by omega), zb_s, hF _ (by omega), oe_5 (by omega)]
    rcases (hP k (by omega)).1.1 with q | q
    · rw [q, if_neg (by decide), if_pos rfl]
    · rw [q, if_pos rfl, if_neg (by decide)]
  · unfold f_X12_orderValue f_X12_valueOf0
    simp only [li, zswl, ng1]
    rw [iEq0 (by decide) (by decide) (by decide), iEq0 (by decide) (by decide) (by decide), iEq0 (by decide) (by decide) (by decide), iEq0 (by decide) (by decide) (by decide), iEq0 (by decide) (by decide) (by decide), iEq0 (by decide) (by decide) (by decide), S_ck422 hs, S_ck422 hs, r_cellWith hs hn hC.1.1, zb_s, hF _ (by omega), oe_13]
    unfold vk
    cases hf : l.find? (fun c => decide (v (24 + c) = nI k)) with
    | none => rw [iP rfl, zb_s]
    | some c =>
      have hc : c < 24 := Lk_lt hC.1.1 c (List.mem_of_find?_eq_some hf)
      rw [iN (show ¬ nI c = m1 from nI_nm (by omega)), S_gR422_2 hs, nI_add, R_a hs (by omega), zb_s]
end
