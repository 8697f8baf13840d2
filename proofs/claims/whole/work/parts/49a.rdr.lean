/-! readers: step, park -/
section
variable {g : zS} {mi M : Nat → Nat → Int32} {v : Nat → Int32} {ml : Nat → Nat → Int64} {n w : Nat} {m0 : Nat → Nat → Int32} {N : Nat → Nat}
theorem c_cellOf (hs : Sy g) (hw : zWL.contains w = true) (hR : WR mi w v) {p : Nat} (hp : p < 8) : f_X10_cellOf n w (nI p) (g, mi, ml) = some (if v (97 + p) = nI 0 then m1 else v (105 + p), (g, mi, ml)) := by
  unfold f_X10_cellOf fb_X10_cellOf_22 fb_X10_cellOf_23
  simp (disch := omega) only [lit, ng1, c_isP hp, zb_s, nEq, if_neg, W_gI hs hw, Bt_c hR.2.2.1 hp]
  by_cases q : v (97 + p) = nI 0
  · simp only [q, if_T]
  · simp (disch := omega) only [q, if_F, W_gR1 hs hw, A_aI8 hs hw, rd_at hR]
theorem r_cellOf (hs : Sy g) {p : Nat} (hp : p < 8) : f_X12_cellOf n 422 (nI p) (g, zrw M 424 v, ml) = some (if v (97 + p) = nI 1 then v (105 + p) else m1, (g, zrw M 424 v, ml)) := by
  unfold f_X12_cellOf f_X12_isOn
  simp (disch := omega) only [lit, ng1, S_ck422 hs, S_gR422_2 hs, R_a hs, nI_add]
  by_cases q : v (97 + p) = nI 1
  · simp (disch := omega) only [q, if_T, zb_s, nEq, if_neg, S_gR422_2 hs, R_a hs]
  · simp (disch := omega) only [q, if_F, zb_s, if_T]
theorem step_sim (hs : Sy g) (hw : zWL.contains w = true) (hI : WI v) (a : Int32) : Sim g w m0 v (f_X10_goOn n w a) (f_X12_steps n 422 a) := by
  rcases pk_ix a (n := 8) (by decide) with ha | ha | ⟨p, hp, ha⟩
  · refine Sim_c m1 hI (fun mi ml _ => ?_) (fun M ml => ?_)
    · unfold f_X10_goOn
      simp only [lit, ng1, c_isP0 ha, zb_s, if_T]
    · unfold f_X12_steps
      simp only [lit, ng1, r_isP0 ha, zb_s, if_T]
  · refine Sim_c m1 hI (fun mi ml _ => ?_) (fun M ml => ?_)
    · unfold f_X10_goOn
      simp only [lit, ng1, c_isP1 ha, zb_s, if_T]
    · unfold f_X12_steps
      simp only [lit, ng1, r_isP1 ha, zb_s, if_T]
  subst ha
  have hI' := hI
  obtain ⟨l, lw, lc, hC, hP, hG⟩ := hI
  obtain ⟨⟨p1, p2, p3⟩, p4, p5, p6⟩ := hP p hp
  rcases p1 with q | q
  · have k1 : v (113 + p) = nI 0 := by
      rcases p2 with z | z
      · exact z
      · exact absurd (q.symm.trans (p4 z)) n01
    refine Sim_c m3 hI' (fun mi ml hR => ?_) (fun M ml => ?_)
    · unfold f_X10_goOn
      simp (disch := omega) only [lit, ng1, ng3, c_isP hp, zb_s, nEq, if_neg, W_ck hs hw, c_cellOf hs hw hR hp, q, if_T, c_isCellN]
    · unfold f_X12_steps f_X12_isParked
      simp (disch := omega) only [lit, ng1, ng3, r_isP hp, zb_s, nEq, if_neg, S_ck422 hs, S_gR422_2 hs, R_a hs, nI_add, k1, r_cellOf hs hp, q, if_T, if_F]
  obtain ⟨lp, hlp⟩ := p6 q
  cases lp with
  | nil =>
    have k2 : v (105 + p) = m1 := hlp
    refine Sim_c m3 hI' (fun mi ml hR => ?_) (fun M ml => ?_)
    · unfold f_X10_goOn
      simp (disch := omega) only [lit, ng1, ng3, c_isP hp, zb_s, nEq, if_neg, W_ck hs hw, c_cellOf hs hw hR hp, q, if_T, k2, c_isCellN]
    · unfold f_X12_steps f_X12_isParked
      simp (disch := omega) only [lit, ng1, ng3, r_isP hp, zb_s, nEq, if_neg, S_ck422 hs, S_gR422_2 hs, R_a hs, nI_add, r_cellOf hs hp, q, k2, if_T, if_F]
      rcases p2 with z | z
      · simp (disch := omega) only [z, nEq, if_neg, zb_s, if_T, S_ck422 hs, r_cellOf hs hp, q, k2]
      · simp (disch := omega) only [z, nEq, if_neg, zb_s, if_T]
  | cons c lp =>
    have k2 : v (105 + p) = nI c := hlp.1
    have hc : c < 24 := hlp.2.1
    rcases p2 with z | z
    · have hlo : ∀ j, j ≠ 105 + p → upd v (105 + p) (v (72 + c)) j = v j := fun j a => upd_ne a
      refine ⟨nI 1 + v (72 + c), upd v (105 + p) (v (72 + c)), Ra_0 (fun j hj => hlo j (by omega)) (Or.inr (Or.inr (Or.inr (Lk_r hlp.2.2)))), ⟨l, lw, lc, CIr_cong hC (fun j hj => hlo j (by omega)), fun r hr => ?_, GIr_cong hG (fun j h1 h2 => hlo j (by omega))⟩, fun j hj => hlo j (by omega), fun M ml => ⟨M, ?_, FM_r M⟩, fun mi ml hF hR => ?_⟩
      · obtain ⟨r1, r2, r3, r4⟩ := hP r hr
        rw [hlo (97 + r) (by omega), hlo (113 + r) (by omega), hlo (121 + r) (by omega)]
        refine ⟨r1, r2, r3, fun y => ?_⟩
        by_cases e : r = p
        · subst e
          rw [upd_eq]
          exact ⟨lp, Lk_only hlp.2.2 (fun j hj => hlo _ (by omega))⟩
        · rw [hlo (105 + r) (by omega)]
          obtain ⟨l', hl'⟩ := r4 y
          exact ⟨l', Lk_only hl' (fun j hj => hlo _ (by omega))⟩
      · unfold f_X12_steps f_X12_isParked
        simp (disch := omega) only [lit, ng1, ng3, r_isP hp, zb_s, nEq, if_neg, S_ck422 hs, S_gR422_2 hs, R_a hs, R_e hs, nI_add, r_cellOf hs hp, q, k2, z, if_T, if_F, nm1, upd_eq]
      · have h1 := L_pl (x := v (72 + c)) hR (pl_at (w := w) hp) (by omega) (by omega)
        refine ⟨_, ml, ?_, h1, FC_w (Fw_zu (by omega) (by omega))⟩
        unfold f_X10_goOn
        simp (disch := omega) only [lit, ng1, ng3, c_isP hp, zb_s, nEq, if_neg, W_ck hs hw, c_cellOf hs hw hR hp, q, k2, c_isCell hc, W_gI hs hw, Bt_c hR.2.2.2.1 hp, z, if_T, W_gR0 hs hw, W_gR1 hs hw, C_gR3 hs hw, A_aI5 hs hw, A_eI8 hs hw, A_aI8 hs hw, rd_next hR, zu_s]
    · refine Sim_c m3 hI' (fun mi ml hR => ?_) (fun M ml => ?_)
      · unfold f_X10_goOn
        simp (disch := omega) only [lit, ng1, ng3, c_isP hp, zb_s, nEq, if_neg, W_ck hs hw, c_cellOf hs hw hR hp, q, k2, c_isCell hc, W_gI hs hw, Bt_c hR.2.2.2.1 hp, z]
      · unfold f_X12_steps f_X12_isParked
        simp (disch := omega) only [lit, ng1, ng3, r_isP hp, zb_s, nEq, if_neg, S_ck422 hs, S_gR422_2 hs, R_a hs, nI_add, z, if_T, if_F]
end
