/-! leave, tick, hurry on both sides -/
theorem nab_t : ∀ u, u < 256 → ∀ p, p < 8 → (nI u ^^^ m1) &&& (nI 1 <<< (nI p &&& nI 31)) = if Nat.testBit u p then nI 0 else nI 1 <<< (nI p &&& nI 31) := by decide +kernel
theorem sh_ne : ∀ p, p < 8 → nI 1 <<< (nI p &&& nI 31) ≠ nI 0 := by decide
theorem Bt_nn {x y : Int32} {v : Nat → Int32} {k k' p : Nat} (h : Bt x v k) (h' : Bt y v k') (hp : p < 8) : ((x &&& (y ^^^ m1)) &&& (nI 1 <<< (nI p &&& nI 31)) = nI 0) = (v (k + p) = nI 0 ∨ v (k' + p) = nI 1) := by
  obtain ⟨b, h1, h2, h3⟩ := h
  obtain ⟨b', h1', h2', h3'⟩ := h'
  have e : (x &&& (y ^^^ m1)) &&& (nI 1 <<< (nI p &&& nI 31)) = (x &&& (nI 1 <<< (nI p &&& nI 31))) &&& ((y ^^^ m1) &&& (nI 1 <<< (nI p &&& nI 31))) := by
    rw [Int32.and_assoc, Int32.and_assoc, Int32.and_comm (nI 1 <<< (nI p &&& nI 31)), Int32.and_assoc, Int32.and_self]
  rw [e, h2, h2', h3 p hp, h3' p hp, bI_0, bI_1, anb_t b h1 p hp, nab_t b' h1' p hp]
  cases q : Nat.testBit b p <;> cases q' : Nat.testBit b' p
  · simp; exact Int32.zero_and
  · simp
  · simp [sh_ne p hp]
  · simp; exact Int32.and_zero
section
variable {g : zS} {n w : Nat} {m0 : Nat → Nat → Int32} {u0 v : Nat → Int32} {KO : (Nat → Int32) → Nat → Nat → Int32} {BO : (Nat → Int32) → Nat → Bool}
theorem tick_cases (hs : Sy g) (hw : zWL.contains w = true) (hw2 : w = 2 ∨ w = 12) (hn : 24 < n) (HC : HCo g n m0 u0 w KO BO) (HR : HRo g n u0 KO BO) (hu : ∀ k, 191 ≤ k → v k = u0 k) (hI : WI v) {p : Nat} (hp : p < 8) : ((∀ M ml, f_X12_canTick n 422 (nI p) (g, zrw M 424 v, ml) = some (nI 0, (g, zrw M 424 v, ml))) ∧ ∀ mi ml, WR mi w v → f_X10_beQuiet n w (nI p) 25 (g, mi, ml) = some (m3, (g, mi, ml))) ∨ ((∀ M ml, f_X12_canTick n 422 (nI p) (g, zrw M 424 v, ml) = some (nI 1, (g, zrw M 424 v, ml))) ∧ (((∀ M ml, f_X12_hasReported n 422 (nI p) (g, zrw M 424 v, ml) = some (nI 1, (g, zrw M 424 v, ml))) ∧ ∀ mi ml, WR mi w v → f_X10_beQuiet n w (nI p) 25 (g, mi, ml) = some (nI 0, (g, mi, ml))) ∨ ((∀ M ml, f_X12_hasReported n 422 (nI p) (g, zrw M 424 v, ml) = some (nI 0, (g, zrw M 424 v, ml))) ∧ SimN g w m0 v (f_X10_beQuiet n w (nI p) 25) (f_X12_ticks n 422 (nI p))))) := by
  have hI' := hI
  obtain ⟨l, lw, lc, hC, hP, hG⟩ := hI
  obtain ⟨⟨p1, p2, p3⟩, p4, p5, p6⟩ := hP p hp
  obtain ⟨N, hN⟩ := GIr_N hG
  obtain ⟨u1, u2⟩ := un_b (fun s h1 h2 => (hN.1 s h1 h2).1)
  have u2 := u2 p hp
  by_cases z : v (97 + p) = nI 0 ∨ v (113 + p) = nI 1
  · refine Or.inr ?_
    have hT : ∀ M ml, f_X12_canTick n 422 (nI p) (g, zrw M 424 v, ml) = some (nI 1, (g, zrw M 424 v, ml)) := by
      intro M ml
      unfold f_X12_canTick f_X12_isOn f_X12_isParked
      simp (disch := omega) only [lit, S_ck422 hs, S_gR422_2 hs, R_a hs, nI_add]
      rcases p1 with q | q
      · simp (disch := omega) only [q, nEq, if_neg, zb_s, if_T]
      · rcases z with y | y
        · exact absurd (y.symm.trans q) n01
        · simp (disch := omega) only [q, y, nEq, if_neg, zb_s, if_T, S_ck422 hs, S_gR422_2 hs, R_a hs]
    have hX : ∀ mi ml, WR mi w v → f_X10_beQuiet n w (nI p) 25 (g, mi, ml) = if Nat.testBit (N (4 + p / 2)) (p % 2) = true then f_X10_report n w (nI (4 + p / 2)) (nI (p % 2)) 25 (g, mi, ml) else some (nI 0, (g, mi, ml)) := by
      intro mi ml hR
      unfold f_X10_beQuiet f_X10_leafOf
      simp (disch := omega) only [lit, ng1, ng3, c_isP hp, zb_s, nEq, if_neg, q_let, W_gI hs hw, Bt_nn hR.2.2.1 hR.2.2.2.1 hp, z, if_T, W_ck hs hw, c_unreported hs hw hR hN, anb_t (un N) u1 p hp, u2, leaf_t p hp, (rem_t p hp).2.1, zb_id]
      by_cases y : Nat.testBit (N (4 + p / 2)) (p % 2) = true
      · simp only [y, if_T, sh_ne p hp, if_F]
      · simp only [y, Bool.false_eq_true, if_F, if_T]
    refine ⟨hT, ?_⟩
    by_cases y : Nat.testBit (N (4 + p / 2)) (p % 2) = true
    · have hr : v 129 = nI 1 := by
        rcases hN.2 with ⟨a, b⟩ | a
        · rw [b _ (by omega) (by omega), Nat.zero_testBit] at y
          exact absurd y (by decide)
        · exact a
      have hH : ∀ M ml, f_X12_hasReported n 422 (nI p) (g, zrw M 424 v, ml) = some (nI 0, (g, zrw M 424 v, ml)) := fun M ml => by rw [r_hasReported hs hN hp, if_pos y]
      refine Or.inr ⟨hH, ?_⟩
      refine SimN_s (up_leaf (q := 4 + p / 2) (c := p % 2) hs hw hw2 hn HC HR (by omega) (by omega) (by omega) hu hI' hr) (fun _ _ => rfl) (fun mi ml hF hR => ⟨mi, ml, by rw [hX mi ml hR, if_pos y], hR, fun _ _ _ => rfl⟩) (fun M ml => ⟨M, ?_, FM_r M⟩)
      unfold f_X12_ticks f_X12_leafOf
      simp (disch := omega) only [lit, ng1, ng3, r_isP hp, zb_s, nEq, if_neg, S_ck422 hs, hT, hH, if_T, leaf_t p hp, (rem_t p hp).1]
      obtain ⟨M', e1, e2⟩ := r_reports (M := M) (ml := ml) hs HR hu (q := 4 + p / 2) (c := p % 2) (by omega) (by omega) (by omega) (hN.1 _ (by omega) (by omega)).1 (hN.1 _ (by omega) (by omega)).2
      simp (disch := omega) only [e1, zb_s, S_ck422 hs, zb_id]
    · have hH : ∀ M ml, f_X12_hasReported n 422 (nI p) (g, zrw M 424 v, ml) = some (nI 1, (g, zrw M 424 v, ml)) := fun M ml => by rw [r_hasReported hs hN hp, if_neg y]
      exact Or.inl ⟨hH, fun mi ml hR => by rw [hX mi ml hR, if_neg y]⟩
  · refine Or.inl ⟨fun M ml => ?_, fun mi ml hR => ?_⟩
    · unfold f_X12_canTick f_X12_isOn f_X12_isParked
      have q1 : v (97 + p) = nI 1 := by
        rcases p1 with q | q
        · exact absurd (Or.inl q) z
        · exact q
      have q2 : v (113 + p) = nI 0 := by
        rcases p2 with q | q
        · exact q
        · exact absurd (Or.inr q) z
      simp (disch := omega) only [lit, S_ck422 hs, S_gR422_2 hs, R_a hs, nI_add, q1, q2, nEq, if_neg, zb_s, if_T]
    · unfold f_X10_beQuiet
      simp (disch := omega) only [lit, ng1, ng3, c_isP hp, zb_s, nEq, if_neg, q_let, W_gI hs hw, Bt_nn hR.2.2.1 hR.2.2.2.1 hp, z, if_F]
theorem tick_sim (hs : Sy g) (hw : zWL.contains w = true) (hw2 : w = 2 ∨ w = 12) (hn : 24 < n) (HC : HCo g n m0 u0 w KO BO) (HR : HRo g n u0 KO BO) (hu : ∀ k, 191 ≤ k → v k = u0 k) (hI : WI v) (a : Int32) : Sim g w m0 v (f_X10_beQuiet n w a 25) (f_X12_ticks n 422 a) := by
  rcases pk_ix a (n := 8) (by decide) with ha | ha | ⟨p, hp, ha⟩
  · refine Sim_c m1 hI (fun mi ml _ => ?_) (fun M ml => ?_)
    · unfold f_X10_beQuiet
      simp only [lit, ng1, c_isP0 ha, zb_s, if_T]
    · unfold f_X12_ticks
      simp only [lit, ng1, r_isP0 ha, zb_s, if_T]
  · refine Sim_c m1 hI (fun mi ml _ => ?_) (fun M ml => ?_)
    · unfold f_X10_beQuiet
      simp only [lit, ng1, c_isP1 ha, zb_s, if_T]
    · unfold f_X12_ticks
      simp only [lit, ng1, r_isP1 ha, zb_s, if_T]
  subst ha
  rcases tick_cases hs hw hw2 hn HC HR hu hI hp with ⟨a1, a2⟩ | ⟨a1, ⟨b1, b2⟩ | ⟨b1, b2⟩⟩
  · refine Sim_c m3 hI (fun mi ml hR => a2 mi ml hR) (fun M ml => ?_)
    unfold f_X12_ticks
    simp (disch := omega) only [lit, ng1, ng3, r_isP hp, zb_s, nEq, if_neg, S_ck422 hs, a1, if_T]
  · refine Sim_c (nI 0) hI (fun mi ml hR => b2 mi ml hR) (fun M ml => ?_)
    unfold f_X12_ticks
    simp (disch := omega) only [lit, ng1, ng3, r_isP hp, zb_s, nEq, if_neg, S_ck422 hs, a1, b1, if_T]
  · exact SimN_S b2
theorem leave_sim (hs : Sy g) (hw : zWL.contains w = true) (hw2 : w = 2 ∨ w = 12) (hn : 24 < n) (HC : HCo g n m0 u0 w KO BO) (HR : HRo g n u0 KO BO) (hu : ∀ k, 191 ≤ k → v k = u0 k) (hI : WI v) (a : Int32) : Sim g w m0 v (f_X10_goOut n w a 25) (f_X12_leaves0 n 422 a) := by
  classical
  rcases pk_ix a (n := 8) (by decide) with ha | ha | ⟨p, hp, ha⟩
  · refine Sim_c m1 hI (fun mi ml _ => ?_) (fun M ml => ?_)
    · unfold f_X10_goOut
      simp only [lit, ng1, c_isP0 ha, zb_s, if_T]
    · unfold f_X12_leaves0
      simp only [lit, ng1, r_isP0 ha, zb_s, if_T]
  · refine Sim_c m1 hI (fun mi ml _ => ?_) (fun M ml => ?_)
    · unfold f_X10_goOut
      simp only [lit, ng1, c_isP1 ha, zb_s, if_T]
    · unfold f_X12_leaves0
      simp only [lit, ng1, r_isP1 ha, zb_s, if_T]
  subst ha
  have hI' := hI
  obtain ⟨l, lw, lc, hC, hP, hG⟩ := hI
  obtain ⟨⟨p1, p2, p3⟩, p4, p5, p6⟩ := hP p hp
  rcases p1 with q | q
  · refine Sim_c m3 hI' (fun mi ml hR => ?_) (fun M ml => ?_)
    · unfold f_X10_goOut
      simp (disch := omega) only [lit, ng1, ng3, c_isP hp, zb_s, nEq, if_neg, q_let, W_gI hs hw, Bt_c hR.2.2.1 hp, q, if_T]
    · unfold f_X12_leaves0 f_X12_isOn
      simp (disch := omega) only [lit, ng1, ng3, r_isP hp, zb_s, nEq, if_neg, S_ck422 hs, S_gR422_2 hs, R_a hs, nI_add, q, if_T]
  have hlo : ∀ j, j ≠ 97 + p → j ≠ 113 + p → j ≠ 121 + p → upd (upd (upd v (97 + p) (nI 0)) (113 + p) (nI 0)) (121 + p) (nI 0) j = v j := fun j a b c => by rw [upd_ne c, upd_ne b, upd_ne a]
  have z97 : upd (upd (upd v (97 + p) (nI 0)) (113 + p) (nI 0)) (121 + p) (nI 0) (97 + p) = nI 0 := by rw [upd_ne (by omega), upd_ne (by omega), upd_eq]
  have z113 : upd (upd (upd v (97 + p) (nI 0)) (113 + p) (nI 0)) (121 + p) (nI 0) (113 + p) = nI 0 := by rw [upd_ne (by omega), upd_eq]
  have z121 : upd (upd (upd v (97 + p) (nI 0)) (113 + p) (nI 0)) (121 + p) (nI 0) (121 + p) = nI 0 := upd_eq
  have hh0 : ∀ r, r < 8 → v (121 + r) = nI 0 → upd (upd (upd v (97 + p) (nI 0)) (113 + p) (nI 0)) (121 + p) (nI 0) (121 + r) = nI 0 := fun r hr h => by
    by_cases e : r = p
    · rw [e]; exact z121
    · rw [hlo _ (by omega) (by omega) (by omega)]; exact h
  generalize hv1 : upd (upd (upd v (97 + p) (nI 0)) (113 + p) (nI 0)) (121 + p) (nI 0) = v1 at hlo z97 z113 z121 hh0
  have hP1 : PIr v1 := by
    intro r hr
    obtain ⟨⟨r0, r1, r1'⟩, r2, r3, r4⟩ := hP r hr
    by_cases e : r = p
    · subst e
      rw [z97, z113, z121]
      exact ⟨⟨Or.inl rfl, Or.inl rfl, Or.inl rfl⟩, fun h => h, fun h => h, fun h => absurd h n01⟩
    · rw [hlo (97 + r) (by omega) (by omega) (by omega), hlo (113 + r) (by omega) (by omega) (by omega), hlo (121 + r) (by omega) (by omega) (by omega), hlo (105 + r) (by omega) (by omega) (by omega)]
      refine ⟨⟨r0, r1, r1'⟩, r2, r3, fun y => ?_⟩
      obtain ⟨l', hl'⟩ := r4 y
      exact ⟨l', Lk_only hl' (fun j hj => hlo _ (by omega) (by omega) (by omega))⟩
  have hWI : WI v1 := by
    refine ⟨l, lw, lc, CIr_cong hC (fun j hj => hlo j (by omega) (by omega) (by omega)), hP1, ?_⟩
    obtain ⟨N, g1, g2⟩ := hG
    refine ⟨N, fun s h1 h2 => ⟨(g1 s h1 h2).1, by rw [hlo _ (by omega) (by omega) (by omega)]; exact (g1 s h1 h2).2⟩, ?_⟩
    rcases g2 with ⟨a, b, c, d⟩ | ⟨a, b⟩
    · exact Or.inl ⟨by rw [hlo _ (by omega) (by omega) (by omega)]; exact a, b, c, fun s hs => hh0 s hs (d s hs)⟩
    · refine Or.inr ⟨by rw [hlo _ (by omega) (by omega) (by omega)]; exact a, fun s h1 h2 h3 => ?_⟩
      obtain ⟨b1, b2⟩ := b s h1 h2 h3
      refine ⟨b1, fun h4 => ?_⟩
      obtain ⟨c1, c2⟩ := b2 h4
      exact ⟨hh0 _ (by omega) c1, hh0 _ (by omega) c2⟩
  have hX : ∀ mi ml, WR mi w v → ∃ mi1, f_X10_goOut n w (nI p) 25 (g, mi, ml) = (if v (121 + p) = nI 0 then some (nI 0, (g, mi1, ml)) else if QT v1 (4 + p / 2) then f_X10_report n w (nI ((4 + p / 2) / 2)) (nI ((4 + p / 2) % 2)) 25 (g, mi1, ml) else some (nI 0, (g, mi1, ml))) ∧ WR mi1 w v1 ∧ Fw w mi mi1 := by
    intro mi ml hR
    have k1 := L_in hR (Bt_clr hR.2.2.1 hp) (fun j h1 h2 => upd_ne (by omega))
    have k2 := L_pa k1 (Bt_clr k1.2.2.2.1 hp) (fun j h1 h2 => upd_ne (by omega))
    have k3 := L_he k2 (Bt_clr k2.2.2.2.2 hp) (fun j h1 h2 => upd_ne (by omega))
    rw [hv1] at k3
    refine ⟨_, ?_, k3, Fw_t (Fw_t (Fw_zu (by omega) (by omega)) (Fw_zu (by omega) (by omega))) (Fw_zu (by omega) (by omega))⟩
    have hq2 := c_isQuiet (ml := ml) (n := n) hs hw k3 (q := 4 + p / 2) (by omega) (by omega)
    unfold f_X10_goOut fb_X10_goOut_39 f_X10_leafOf
    simp (disch := omega) only [lit, ng1, ng3, c_isP hp, zb_s, nEq, if_neg, q_let, W_gI hs hw, W_pI hs hw, Bt_c hR.2.2.1 hp, Bt_c hR.2.2.2.2 hp, q, if_F, leaf_t p hp, W_ck hs hw, hq2, (nq_t (4 + p / 2) (by omega)).1, (nq_t (4 + p / 2) (by omega)).2.1, zb_id]
    by_cases y : v (121 + p) = nI 0
    · simp only [y, if_T]
    · simp (disch := omega) only [y, if_F, nEq, if_neg]
      by_cases x : QT v1 (4 + p / 2)
      · simp (disch := omega) only [x, if_T, nEq, if_neg]
      · simp (disch := omega) only [x, if_F, if_T]
  have hY : ∀ M ml, f_X12_leaves0 n 422 (nI p) (g, zrw M 424 v, ml) = if v (121 + p) = nI 0 then some (nI 0, (g, zrw M 424 v1, ml)) else f_X12_looksAt n 422 (nI (4 + p / 2)) (g, zrw M 424 v1, ml) := by
    intro M ml
    unfold f_X12_leaves0 f_X12_isOn f_X12_leafOf
    simp (disch := omega) only [lit, ng1, ng3, r_isP hp, zb_s, nEq, if_neg, S_ck422 hs, S_gR422_2 hs, R_a hs, R_e hs, nI_add, q, if_T, r_isHeld hs hp, hv1, leaf_t p hp, zb_id]
    rcases p3 with y | y
    · simp (disch := omega) only [y, nEq, if_neg, if_T]
    · simp (disch := omega) only [y, nEq, if_neg, if_T]
  have e191 : ∀ k, (191 ≤ k ∨ k = 129 ∨ k = 130 ∨ k = 190) → v1 k = v k := fun k hk => hlo k (by omega) (by omega) (by omega)
  by_cases y : v (121 + p) = nI 0
  · refine ⟨nI 0, v1, Ra_0 (fun k hk => e191 k (by omega)) (Or.inr (Or.inr (Or.inr ⟨0, by decide, rfl⟩))), hWI, fun k hk => e191 k (Or.inl hk), fun M ml => ⟨M, by rw [hY, if_pos y], FM_r M⟩, fun mi ml hF hR => ?_⟩
    obtain ⟨mi1, a1, a2, a3⟩ := hX mi ml hR
    exact ⟨mi1, ml, by rw [a1, if_pos y], a2, FC_w a3⟩
  by_cases x : QT v1 (4 + p / 2)
  · have hr : v1 129 = nI 1 := by
      obtain ⟨N, g1, g2⟩ := hG
      rw [hlo _ (by omega) (by omega) (by omega)]
      rcases g2 with ⟨a, b, c, d⟩ | ⟨a, b⟩
      · exact absurd (d p hp) y
      · exact a
    obtain ⟨n, rfl⟩ : ∃ n', n = n' + 1 := ⟨n - 1, by omega⟩
    have ih := up_in hs hw hw2 hn HC HR 3 ((4 + p / 2) / 2) ((4 + p / 2) % 2) (n + 1) n v1 (by omega) (by omega) (by omega) (by omega) (by omega) (by omega) (fun k hk => (e191 k (Or.inl hk)).trans (hu k hk)) hWI hr (by
      have e : 2 * ((4 + p / 2) / 2) + (4 + p / 2) % 2 = 4 + p / 2 := by omega
      rw [e]; exact x)
    refine Sim_s (SimN_S ih) e191 (fun mi ml hF hR => ?_) (fun M ml => ⟨M, ?_, FM_r M⟩)
    · obtain ⟨mi1, a1, a2, a3⟩ := hX mi ml hR
      exact ⟨mi1, ml, by rw [a1, if_neg y, if_pos x]; rfl, a2, FC_w a3⟩
    · rw [hY, if_neg y, r_looksAt hs hP1 (by omega) (by omega), if_pos x]
      show fb_X12_looksAt_41 (n + 1) (zlp2 (fb_X12_looksAt_41 (n + 1)) n) 422 (nI (4 + p / 2)) _ = _
      unfold fb_X12_looksAt_41
      simp (disch := omega) only [lit, nLe, if_neg, if_T, S_gR422_2 hs, R_a hs, nI_add, x.1, S_ck422 hs, (nq_t (4 + p / 2) (by omega)).1, (nq_t (4 + p / 2) (by omega)).2.2, q_let]
  · refine ⟨nI 0, v1, Ra_0 (fun k hk => e191 k (by omega)) (Or.inr (Or.inr (Or.inr ⟨0, by decide, rfl⟩))), hWI, fun k hk => e191 k (Or.inl hk), fun M ml => ⟨M, by rw [hY, if_neg y, r_looksAt hs hP1 (by omega) (by omega), if_neg x], FM_r M⟩, fun mi ml hF hR => ?_⟩
    obtain ⟨mi1, a1, a2, a3⟩ := hX mi ml hR
    exact ⟨mi1, ml, by rw [a1, if_neg y, if_neg x], a2, FC_w a3⟩
def RaH (t : Nat) (v v' : Nat → Int32) (r : Int32) : Prop := Gw t v v' ∧ ∃ j, j ≤ 192 ∧ r = nI j
theorem RaH_0 {t p : Nat} {v : Nat → Int32} {acc : Int32} (hp : p ≤ 8) (h : ∃ a, a ≤ 24 * p ∧ acc = nI a) : RaH t v v acc := ⟨Gw_0 (fun _ _ => rfl), by
  obtain ⟨a, h1, h2⟩ := h
  exact ⟨a, by omega, h2⟩⟩
theorem hur_ (hs : Sy g) (hw : zWL.contains w = true) (hw2 : w = 2 ∨ w = 12) (hn : 24 < n) (HC : HCo g n m0 u0 w KO BO) (HR : HRo g n u0 KO BO) (B : Int32) : ∀ (t p f : Nat) (acc : Int32) (v : Nat → Int32), p + t = 8 → t < f → (∀ k, 191 ≤ k → v k = u0 k) → WI v → (∃ a, a ≤ 24 * p ∧ acc = nI a) → SimG (RaH t v) g w m0 v (zlp5 (fb_X10_hurryGrace_20 n) f w 25 B acc (nI p)) (zlp4 (fb_X12_hurries_23 n) f 422 B acc (nI p))
  | t, p, 0, acc, v, _, h, _, _, _ => absurd h (by omega)
  | 0, p, f + 1, acc, v, h1, _, hu, hI, hA => by
    refine SimG_c acc (RaH_0 (by omega) hA) hI (fun mi ml hR => ?_) (fun M ml => ?_)
    · show fb_X10_hurryGrace_20 n (zlp5 (fb_X10_hurryGrace_20 n) f) w 25 B acc (nI p) (g, mi, ml) = _
      unfold fb_X10_hurryGrace_20
      simp (disch := omega) only [lit, nLe, if_pos]
    · show fb_X12_hurries_23 n (zlp4 (fb_X12_hurries_23 n) f) 422 B acc (nI p) _ = _
      unfold fb_X12_hurries_23
      simp (disch := omega) only [lit, nLe, if_pos]
  | t + 1, p, f + 1, acc, v, h1, h2, hu, hI, hA => by
    obtain ⟨l, lw, lc, hC, hP, N, g1, g2⟩ := id hI
    have hz : v 129 = nI 0 ∨ v 129 = nI 1 := by
      rcases g2 with ⟨a, -⟩ | ⟨a, -⟩
      · exact Or.inl a
      · exact Or.inr a
    have a0 : acc + nI 0 = acc := Int32.add_zero acc
    rcases hz with z | z
    · refine SimG_c acc (RaH_0 (by omega) hA) hI (fun mi ml hR => ?_) (fun M ml => ?_)
      · show fb_X10_hurryGrace_20 n (zlp5 (fb_X10_hurryGrace_20 n) f) w 25 B acc (nI p) (g, mi, ml) = _
        unfold fb_X10_hurryGrace_20
        simp (disch := omega) only [lit, nLe, if_neg, W_gI hs hw, rd_runs hR, z, if_T]
      · show fb_X12_hurries_23 n (zlp4 (fb_X12_hurries_23 n) f) 422 B acc (nI p) _ = _
        unfold fb_X12_hurries_23 f_X12_runs0
        simp (disch := omega) only [lit, nLe, if_neg, S_ck422 hs, S_gR422_2 hs, R_a hs, z, nEq, zb_s, if_T]
    by_cases y : v 130 = B
    · rcases tick_cases hs hw hw2 hn HC HR hu hI (p := p) (by omega) with ⟨a1, a2⟩ | ⟨a1, ⟨b1, b2⟩ | ⟨b1, r, v', b2, b3, b4, b5, b6⟩⟩
      · have ih := hur_ hs hw hw2 hn HC HR B t (p + 1) f acc v (by omega) (by omega) hu hI (by obtain ⟨a, x1, x2⟩ := hA; exact ⟨a, by omega, x2⟩)
        refine SimG_s ih (fun _ _ q => ⟨Gw_w q.1 (by omega), q.2⟩) (fun _ _ => rfl) (fun mi ml hF hR => ⟨mi, ml, ?_, hR, fun _ _ _ => rfl⟩) (fun M ml => ⟨M, ?_, FM_r M⟩)
        · show fb_X10_hurryGrace_20 n (zlp5 (fb_X10_hurryGrace_20 n) f) w 25 B acc (nI p) (g, mi, ml) = _
          unfold fb_X10_hurryGrace_20 f_J9_max_7cf53
          have e3 : m3 < nI 0 := by decide
          simp (disch := omega) only [lit, nLe, if_neg, W_gI hs hw, rd_runs hR, rd_begun hR, z, y, nEq, if_T, W_ck hs hw, a2 mi ml hR, zb_s, e3, q_let, a0, nI_add]
        · show fb_X12_hurries_23 n (zlp4 (fb_X12_hurries_23 n) f) 422 B acc (nI p) _ = _
          unfold fb_X12_hurries_23 f_X12_runs0 fb_X12_hurries_72
          simp (disch := omega) only [lit, nLe, if_neg, S_ck422 hs, S_gR422_2 hs, R_a hs, z, y, nEq, zb_s, if_T, a1, nI_add]
      · have ih := hur_ hs hw hw2 hn HC HR B t (p + 1) f acc v (by omega) (by omega) hu hI (by obtain ⟨a, x1, x2⟩ := hA; exact ⟨a, by omega, x2⟩)
        refine SimG_s ih (fun _ _ q => ⟨Gw_w q.1 (by omega), q.2⟩) (fun _ _ => rfl) (fun mi ml hF hR => ⟨mi, ml, ?_, hR, fun _ _ _ => rfl⟩) (fun M ml => ⟨M, ?_, FM_r M⟩)
        · show fb_X10_hurryGrace_20 n (zlp5 (fb_X10_hurryGrace_20 n) f) w 25 B acc (nI p) (g, mi, ml) = _
          unfold fb_X10_hurryGrace_20 f_J9_max_7cf53
          simp (disch := omega) only [lit, nLe, nLt, if_neg, W_gI hs hw, rd_runs hR, rd_begun hR, z, y, nEq, if_T, W_ck hs hw, b2 mi ml hR, zb_s, q_let, a0, nI_add]
        · show fb_X12_hurries_23 n (zlp4 (fb_X12_hurries_23 n) f) 422 B acc (nI p) _ = _
          unfold fb_X12_hurries_23 f_X12_runs0 fb_X12_hurries_72
          simp (disch := omega) only [lit, nLe, if_neg, S_ck422 hs, S_gR422_2 hs, R_a hs, z, y, nEq, zb_s, if_T, a1, b1, nI_add]
      · obtain ⟨b2g, j0, b2j, b2e⟩ := b2
        have b2 : ¬ r < nI 0 := by rw [b2e, nLt (by omega) (by omega)]; omega
        have ih := hur_ hs hw hw2 hn HC HR B t (p + 1) f (acc + r) v' (by omega) (by omega) (fun k hk => (b4 k hk).trans (hu k hk)) b3 (by obtain ⟨a, x1, x2⟩ := hA; exact ⟨a + j0, by omega, by rw [x2, b2e, nI_add]⟩)
        refine SimG_s ih (fun _ _ q => ⟨Gw_w (Gw_t b2g q.1) (by omega), q.2⟩) b4 (fun mi ml hF hR => ?_) (fun M ml => ?_)
        · obtain ⟨mi1, ml1, c1, c2, c3⟩ := b6 mi ml hF hR
          refine ⟨mi1, ml1, ?_, c2, c3⟩
          show fb_X10_hurryGrace_20 n (zlp5 (fb_X10_hurryGrace_20 n) f) w 25 B acc (nI p) (g, mi, ml) = _
          unfold fb_X10_hurryGrace_20 f_J9_max_7cf53
          simp (disch := omega) only [lit, nLe, if_neg, W_gI hs hw, rd_runs hR, rd_begun hR, z, y, nEq, if_T, W_ck hs hw, c1, zb_s, b2, if_F, q_let, nI_add]
        · obtain ⟨M1, c1, c2⟩ := b5 M ml
          refine ⟨M1, ?_, c2⟩
          show fb_X12_hurries_23 n (zlp4 (fb_X12_hurries_23 n) f) 422 B acc (nI p) _ = _
          unfold fb_X12_hurries_23 f_X12_runs0 fb_X12_hurries_72
          simp (disch := omega) only [lit, nLe, if_neg, S_ck422 hs, S_gR422_2 hs, R_a hs, z, y, nEq, zb_s, if_T, a1, b1, c1, q_let, nI_add]
    · refine SimG_c acc (RaH_0 (by omega) hA) hI (fun mi ml hR => ?_) (fun M ml => ?_)
      · show fb_X10_hurryGrace_20 n (zlp5 (fb_X10_hurryGrace_20 n) f) w 25 B acc (nI p) (g, mi, ml) = _
        unfold fb_X10_hurryGrace_20
        simp (disch := omega) only [lit, nLe, if_neg, W_gI hs hw, rd_runs hR, rd_begun hR, z, y, nEq, if_F]
      · show fb_X12_hurries_23 n (zlp4 (fb_X12_hurries_23 n) f) 422 B acc (nI p) _ = _
        unfold fb_X12_hurries_23 f_X12_runs0
        simp (disch := omega) only [lit, nLe, if_neg, S_ck422 hs, S_gR422_2 hs, R_a hs, z, y, nEq, zb_s, if_T, if_F]
theorem hurry_sim (hs : Sy g) (hw : zWL.contains w = true) (hw2 : w = 2 ∨ w = 12) (hn : 24 < n) (HC : HCo g n m0 u0 w KO BO) (HR : HRo g n u0 KO BO) (hu : ∀ k, 191 ≤ k → v k = u0 k) (hI : WI v) : Sim g w m0 v (f_X10_hurryGrace n w 25) (f_X12_hurries n 422) := by
  obtain ⟨l, lw, lc, hC, hP, N, g1, g2⟩ := id hI
  have hz : v 129 = nI 0 ∨ v 129 = nI 1 := by
    rcases g2 with ⟨a, -⟩ | ⟨a, -⟩
    · exact Or.inl a
    · exact Or.inr a
  rcases hz with z | z
  · refine Sim_c m3 hI (fun mi ml hR => ?_) (fun M ml => ?_)
    · unfold f_X10_hurryGrace
      simp (disch := omega) only [lit, ng3, W_gI hs hw, rd_runs hR, z, if_T]
    · unfold f_X12_hurries f_X12_runs0
      simp (disch := omega) only [lit, ng3, if_neg, S_ck422 hs, S_gR422_2 hs, R_a hs, z, nEq, zb_s, if_T]
  · refine SimG_s (hur_ hs hw hw2 hn HC HR (v 130) 8 0 n (nI 0) v (by omega) (by omega) hu hI ⟨0, by decide, rfl⟩) (fun _ _ q => ⟨Gw_w q.1 (by decide), by obtain ⟨j, q1, q2⟩ := q.2; exact Or.inr (Or.inr (Or.inr (Or.inl ⟨j, by omega, q2⟩)))⟩) (fun _ _ => rfl) (fun mi ml hF hR => ⟨mi, ml, ?_, hR, fun _ _ _ => rfl⟩) (fun M ml => ⟨M, ?_, FM_r M⟩)
    · unfold f_X10_hurryGrace
      simp (disch := omega) only [lit, ng3, W_gI hs hw, rd_runs hR, rd_begun hR, z, nEq, if_neg]
    · unfold f_X12_hurries f_X12_runs0
      simp (disch := omega) only [lit, ng3, if_neg, S_ck422 hs, S_gR422_2 hs, R_a hs, z, nEq, zb_s, if_T]
/-- the eight acts that orders know -/
theorem act_sim (hs : Sy g) (hw : zWL.contains w = true) (hw2 : w = 2 ∨ w = 12) (hn : 24 < n) (HC : HCo g n m0 u0 w KO BO) (HR : HRo g n u0 KO BO) (hu : ∀ k, 191 ≤ k → v k = u0 k) (hI : WI v) {k : Nat} (hk : k < 8) (a b : Int32) : Sim g w m0 v (f_X10_act n w (nI k) a b 25) (f_X12_acts n 422 (nI k) a b) := by
  have key : ∀ (X Y X' Y' : zH → Option (Int32 × zH)), Sim g w m0 v X' Y' → (∀ mi ml, X (g, mi, ml) = X' (g, mi, ml)) → (∀ M ml, Y (g, zrw M 424 v, ml) = Y' (g, zrw M 424 v, ml)) → Sim g w m0 v X Y := fun X Y X' Y' h h1 h2 => Sim_s h (fun _ _ => rfl) (fun mi ml _ hR => ⟨mi, ml, h1 mi ml, hR, fun _ _ _ => rfl⟩) (fun M ml => ⟨M, h2 M ml, FM_r M⟩)
  have hX : ∀ mi ml Z, zck (g, mi, ml) 11 w (zb Z fun r h => some (r, h)) = (Z : Option (Int32 × zH)) := fun mi ml Z => by rw [W_ck hs hw, zb_id]
  have hY : ∀ M ml Z, zck (g, zrw M 424 v, ml) 13 422 (zb Z fun r h => some (r, h)) = (Z : Option (Int32 × zH)) := fun M ml Z => by rw [S_ck422 hs, zb_id]
  have : k = 0 ∨ k = 1 ∨ k = 2 ∨ k = 3 ∨ k = 4 ∨ k = 5 ∨ k = 6 ∨ k = 7 := by omega
  rcases this with e | e | e | e | e | e | e | e <;> subst e
  · exact key _ _ _ _ (put_sim hs hw hw2 hn HC HR hu hI a b) (fun mi ml => hX mi ml _) (fun M ml => hY M ml _)
  · exact key _ _ _ _ (drop_sim hs hw hn hI a) (fun mi ml => hX mi ml _) (fun M ml => hY M ml _)
  · exact key _ _ _ _ (enter_sim hs hw hI a) (fun mi ml => hX mi ml _) (fun M ml => hY M ml _)
  · exact key _ _ _ _ (step_sim hs hw hI a) (fun mi ml => hX mi ml _) (fun M ml => hY M ml _)
  · exact key _ _ _ _ (park_sim hs hw hI a) (fun mi ml => hX mi ml _) (fun M ml => hY M ml _)
  · exact key _ _ _ _ (leave_sim hs hw hw2 hn HC HR hu hI a) (fun mi ml => hX mi ml _) (fun M ml => hY M ml _)
  · exact key _ _ _ _ (tick_sim hs hw hw2 hn HC HR hu hI a) (fun mi ml => hX mi ml _) (fun M ml => hY M ml _)
  · exact key _ _ _ _ (begin_sim hs hw hn hI) (fun mi ml => hX mi ml _) (fun M ml => hY M ml _)
end
