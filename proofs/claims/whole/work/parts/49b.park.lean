/-! park -/
section
variable {g : zS} {mi M : Nat → Nat → Int32} {v : Nat → Int32} {ml : Nat → Nat → Int64} {n w : Nat} {m0 : Nat → Nat → Int32} {N : Nat → Nat}
theorem or0 (x : Int32) : x ||| nI 0 = x := Int32.or_zero
theorem park_sim (hs : Sy g) (hw : zWL.contains w = true) (hI : WI v) (a : Int32) : Sim g w m0 v (f_X10_standStill n w a) (f_X12_parks n 422 a) := by
  rcases pk_ix a (n := 8) (by decide) with ha | ha | ⟨p, hp, ha⟩
  · refine Sim_c m1 hI (fun mi ml _ => ?_) (fun M ml => ?_)
    · unfold f_X10_standStill
      simp only [lit, ng1, c_isP0 ha, zb_s, if_T]
    · unfold f_X12_parks
      simp only [lit, ng1, r_isP0 ha, zb_s, if_T]
  · refine Sim_c m1 hI (fun mi ml _ => ?_) (fun M ml => ?_)
    · unfold f_X10_standStill
      simp only [lit, ng1, c_isP1 ha, zb_s, if_T]
    · unfold f_X12_parks
      simp only [lit, ng1, r_isP1 ha, zb_s, if_T]
  subst ha
  have hI' := hI
  obtain ⟨l, lw, lc, hC, hP, hG⟩ := hI
  obtain ⟨⟨p1, p2, p3⟩, p4, p5, p6⟩ := hP p hp
  rcases p1 with q | q
  · refine Sim_c m3 hI' (fun mi ml hR => ?_) (fun M ml => ?_)
    · unfold f_X10_standStill
      simp (disch := omega) only [lit, ng1, ng3, c_isP hp, zb_s, nEq, if_neg, q_let, W_gI hs hw, Bt_c hR.2.2.1 hp, q, if_T]
    · unfold f_X12_parks f_X12_isOn
      simp (disch := omega) only [lit, ng1, ng3, r_isP hp, zb_s, nEq, if_neg, S_ck422 hs, S_gR422_2 hs, R_a hs, nI_add, q, if_T]
  rcases p2.symm with z | z
  · refine Sim_c m3 hI' (fun mi ml hR => ?_) (fun M ml => ?_)
    · unfold f_X10_standStill
      simp (disch := omega) only [lit, ng1, ng3, c_isP hp, zb_s, nEq, if_neg, q_let, W_gI hs hw, Bt_c hR.2.2.1 hp, Bt_c hR.2.2.2.1 hp, q, z]
    · unfold f_X12_parks f_X12_isOn f_X12_isParked
      simp (disch := omega) only [lit, ng1, ng3, r_isP hp, zb_s, nEq, if_neg, S_ck422 hs, S_gR422_2 hs, R_a hs, nI_add, q, z, if_T]
  have k2 : v (121 + p) = nI 0 := by
    rcases p3 with y | y
    · exact y
    · exact absurd (z.symm.trans (p5 y)) n01
  obtain ⟨N, g1, g2⟩ := hG
  have hN : GN v N := ⟨g1, by
    rcases g2 with ⟨a, b, c, d⟩ | ⟨a, b⟩
    · exact Or.inl ⟨a, c⟩
    · exact Or.inr a⟩
  have hN2 : ∀ x, GN (upd v (113 + p) x) N := fun x => ⟨fun s h1 h2 => ⟨(g1 s h1 h2).1, by rw [upd_ne (by omega)]; exact (g1 s h1 h2).2⟩, by rw [upd_ne (by omega)]; exact hN.2⟩
  obtain ⟨u1, u2⟩ := un_b (fun s h1 h2 => (g1 s h1 h2).1)
  have hlo : ∀ x j, j ≠ 113 + p → j ≠ 121 + p → upd (upd v (113 + p) (nI 1)) (121 + p) x j = v j := fun x j a b => by rw [upd_ne b, upd_ne a]
  have hWI : ∀ x, (x = nI 0 ∨ x = nI 1) → (x = nI 1 → Nat.testBit (N (4 + p / 2)) (p % 2) = true) → WI (upd (upd v (113 + p) (nI 1)) (121 + p) x) := by
    intro x hx hx2
    refine ⟨l, lw, lc, CIr_cong hC (fun j hj => hlo x j (by omega) (by omega)), fun r hr => ?_, N, fun s h1 h2 => ⟨(g1 s h1 h2).1, by rw [hlo x _ (by omega) (by omega)]; exact (g1 s h1 h2).2⟩, ?_⟩
    · obtain ⟨⟨r0, r1, r1'⟩, r2, r3, r4⟩ := hP r hr
      have hf : v (97 + r) = nI 1 → ∃ l', Lk (upd (upd v (113 + p) (nI 1)) (121 + p) x) (v (105 + r)) l' := fun y => by
        obtain ⟨l', hl'⟩ := r4 y
        exact ⟨l', Lk_only hl' (fun j hj => hlo x _ (by omega) (by omega))⟩
      by_cases e : r = p
      · subst e
        rw [upd_eq, hlo x (97 + r) (by omega) (by omega), hlo x (105 + r) (by omega) (by omega)]
        have s1 : upd (upd v (113 + r) (nI 1)) (121 + r) x (113 + r) = nI 1 := by rw [upd_ne (by omega), upd_eq]
        rw [s1]
        exact ⟨⟨r0, Or.inr rfl, hx⟩, fun _ => q, fun _ => rfl, hf⟩
      · rw [hlo x (97 + r) (by omega) (by omega), hlo x (113 + r) (by omega) (by omega), hlo x (121 + r) (by omega) (by omega), hlo x (105 + r) (by omega) (by omega)]
        exact ⟨⟨r0, r1, r1'⟩, r2, r3, hf⟩
    · rcases g2 with ⟨a, b, c, d⟩ | ⟨a, b⟩
      · refine Or.inl ⟨by rw [hlo x _ (by omega) (by omega)]; exact a, b, c, fun s hs => ?_⟩
        by_cases e : s = p
        · subst e
          rw [upd_eq]
          rcases hx with y | y
          · exact y
          · have := hx2 y
            rw [c (4 + s / 2) (by omega) (by omega), Nat.zero_testBit] at this
            exact absurd this (by decide)
        · rw [hlo x _ (by omega) (by omega)]; exact d s hs
      · refine Or.inr ⟨by rw [hlo x _ (by omega) (by omega)]; exact a, fun s h1 h2 h3 => ?_⟩
        obtain ⟨b1, b2⟩ := b s h1 h2 h3
        refine ⟨b1, fun h4 => ?_⟩
        obtain ⟨c1, c2⟩ := b2 h4
        have hne : ∀ t, t < 2 → 121 + (2 * (s - 4) + t) = 121 + p → x = nI 0 := fun t ht e => by
          rcases hx with y | y
          · exact y
          · have h5 := hx2 y
            have : 4 + p / 2 = s := by omega
            rw [this, b1, Nat.zero_testBit] at h5
            exact absurd h5 (by decide)
        constructor
        · by_cases e : 121 + 2 * (s - 4) = 121 + p
          · rw [e, upd_eq]; exact hne 0 (by decide) e
          · rw [upd_ne e, upd_ne (by omega)]; exact c1
        · by_cases e : 121 + (2 * (s - 4) + 1) = 121 + p
          · rw [e, upd_eq]; exact hne 1 (by decide) e
          · rw [upd_ne e, upd_ne (by omega)]; exact c2
  have hb : Nat.testBit (un N) p = Nat.testBit (N (4 + p / 2)) (p % 2) := u2 p hp
  have hX : ∀ x, (x = if Nat.testBit (N (4 + p / 2)) (p % 2) = true then nI 1 else nI 0) → ∀ mi ml, WR mi w v → ∃ mi', f_X10_standStill n w (nI p) (g, mi, ml) = some (upd (upd v (113 + p) (nI 1)) (121 + p) x (113 + 2 * (p / 2)) + upd (upd v (113 + p) (nI 1)) (121 + p) x (113 + (2 * (p / 2) + 1)), (g, mi', ml)) ∧ WR mi' w (upd (upd v (113 + p) (nI 1)) (121 + p) x) ∧ Fw w mi mi' := by
    intro x hx mi ml hR
    have b1 := hR.2.2.2.1
    have b2 := hR.2.2.2.2
    have h1 := L_pa hR (Bt_set b1 hp) (fun j h1 h2 => upd_ne (by omega))
    have b3 : Bt (mi w 5 ||| (nI (un N) &&& (nI 1 <<< (nI p &&& nI 31)))) (upd (upd v (113 + p) (nI 1)) (121 + p) x) 121 := by
      rw [anb_t (un N) u1 p hp, hb]
      by_cases y : Nat.testBit (N (4 + p / 2)) (p % 2) = true
      · rw [if_pos y] at hx ⊢
        rw [hx]
        exact Bt_cong (Bt_set b2 hp) (fun s hs => by
          by_cases e : s = p
          · rw [e, upd_eq, upd_eq]
          · rw [upd_ne (by omega), upd_ne (by omega), upd_ne (by omega)])
      · rw [if_neg y] at hx ⊢
        rw [or0, hx]
        exact Bt_cong b2 (fun s hs => by
          by_cases e : s = p
          · rw [e, upd_eq, k2]
          · rw [upd_ne (by omega), upd_ne (by omega)])
    have h2 := L_he h1 b3 (fun j h1 h2 => upd_ne (by omega))
    refine ⟨_, ?_, h2, Fw_t (Fw_zu (by omega) (by omega)) (Fw_zu (by omega) (by omega))⟩
    obtain ⟨b, y1, y2, y3⟩ := h2.2.2.2.1
    rw [y3 (2 * (p / 2)) (by omega), y3 (2 * (p / 2) + 1) (by omega), ← bc_pair b y1 p hp, ← y2]
    unfold f_X10_standStill f_X10_leafOf f_X10_processorsOf
    simp (disch := omega) only [lit, ng1, ng3, c_isP hp, zb_s, nEq, if_neg, q_let, W_gI hs hw, Bt_c hR.2.2.1 hp, Bt_c b1 hp, q, z, if_T, W_pI hs hw, W_ck hs hw, c_unreported hs hw h1 (hN2 (nI 1)), bcE_e, leaf_t p hp, zu_k]
  have hY : ∀ x, (x = if Nat.testBit (N (4 + p / 2)) (p % 2) = true then nI 1 else nI 0) → ∀ M ml, f_X12_parks n 422 (nI p) (g, zrw M 424 v, ml) = some (upd (upd v (113 + p) (nI 1)) (121 + p) x (113 + 2 * (p / 2)) + upd (upd v (113 + p) (nI 1)) (121 + p) x (113 + (2 * (p / 2) + 1)), (g, zrw M 424 (upd (upd v (113 + p) (nI 1)) (121 + p) x), ml)) := by
    intro x hx M ml
    unfold f_X12_parks f_X12_isOn f_X12_isParked fb_X12_parks_59
    simp (disch := omega) only [lit, ng1, ng3, r_isP hp, zb_s, nEq, if_neg, S_ck422 hs, S_gR422_2 hs, R_a hs, R_e hs, nI_add, q, z, if_T, if_F, r_hasReported hs (hN2 (nI 1)) hp, q_let, (rem_t p hp).2.2.1]
    by_cases y : Nat.testBit (N (4 + p / 2)) (p % 2) = true
    · rw [if_pos y] at hx
      simp (disch := omega) only [y, if_T, hx, Nat.add_assoc]
    · rw [if_neg y] at hx
      simp (disch := omega) only [y, Bool.false_eq_true, if_F, hx, nEq, if_neg, Nat.add_assoc]
  have hr : ∀ x, (x = nI 0 ∨ x = nI 1) → (x = nI 1 → Nat.testBit (N (4 + p / 2)) (p % 2) = true) → Ra v (upd (upd v (113 + p) (nI 1)) (121 + p) x) (upd (upd v (113 + p) (nI 1)) (121 + p) x (113 + 2 * (p / 2)) + upd (upd v (113 + p) (nI 1)) (121 + p) x (113 + (2 * (p / 2) + 1))) := by
    intro x hx hx2
    obtain ⟨_, _, _, _, hP2, _⟩ := hWI x hx hx2
    have t1 := (hP2 (2 * (p / 2)) (by omega)).1.2.1
    have t2 := (hP2 (2 * (p / 2) + 1) (by omega)).1.2.1
    refine Ra_0 (fun j hj => hlo x j (by omega) (by omega)) (Or.inr (Or.inr (Or.inr ?_)))
    rcases t1 with t1 | t1 <;> rcases t2 with t2 | t2 <;> rw [t1, t2, nI_add]
    · exact ⟨_, by decide, rfl⟩
    · exact ⟨_, by decide, rfl⟩
    · exact ⟨_, by decide, rfl⟩
    · exact ⟨_, by decide, rfl⟩
  by_cases y : Nat.testBit (N (4 + p / 2)) (p % 2) = true
  · refine ⟨_, _, hr (nI 1) (Or.inr rfl) (fun _ => y), hWI (nI 1) (Or.inr rfl) (fun _ => y), fun j hj => hlo _ j (by omega) (by omega), fun M ml => ⟨M, hY (nI 1) (by rw [if_pos y]) M ml, FM_r M⟩, fun mi ml hF hR => ?_⟩
    obtain ⟨mi', a1, a2, a3⟩ := hX (nI 1) (by rw [if_pos y]) mi ml hR
    exact ⟨mi', ml, a1, a2, FC_w a3⟩
  · refine ⟨_, _, hr (nI 0) (Or.inl rfl) (fun e => absurd e n01), hWI (nI 0) (Or.inl rfl) (fun e => absurd e n01), fun j hj => hlo _ j (by omega) (by omega), fun M ml => ⟨M, hY (nI 0) (by rw [if_neg y]) M ml, FM_r M⟩, fun mi ml hF hR => ?_⟩
    obtain ⟨mi', a1, a2, a3⟩ := hX (nI 0) (by rw [if_neg y]) mi ml hR
    exact ⟨mi', ml, a1, a2, FC_w a3⟩
end
