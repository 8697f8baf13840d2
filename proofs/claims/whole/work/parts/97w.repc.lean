/-! orders: the Java side, one repetition of a clause -/
/-- what the Java side does behind the sums -/
def oRest (n : Nat) (k18 : Nat → Nat → Int32 → Int32 → Int32 → Int32 → zH → Option (Int32 × zH)) (i tm kd t a b : Int32) (h : zH) : Option (Int32 × zH) :=
  zck h 3 30 (zb (f_X2_prepare n 30 2 h) fun _ h29 => zgR h29 12 1 0 fun v30 => zgR h29 12 1 3 fun v31 => zck h29 11 v30 (zb (f_X10_act n v30 kd a b v31 h29) fun r32 h33 => if 0 ≤ r32 then zgR h33 12 1 5 fun v34 => zck h33 3 v34 (zb (f_X2_commit n v34 kd h33) fun _ h36 => zgI h36 12 1 17 fun v37 => zpI h36 12 1 17 (v37 + 1) fun h38 => zpI h38 12 1 18 r32 fun h39 => fb_X11_runClause_180 n k18 1 411 i tm kd t h39) else some (0, h33)))
section
variable {g : zS} {mi : Nat → Nat → Int32} {ml : Nat → Nat → Int64} {n ln T : Nat} {D V : Nat → Nat} {L : List Ci} {v : Nat → Int32}
theorem c_rep0 (hs : Sy g) (hn : 3000 < n) (hx : LWx g mi 411 412 413 414 ln true D V T L) {l1 l2 : List Ci} {x : Ci} (e : L = l1 ++ x :: l2) (hR : WR mi 2 v) {l lw lc : List Nat} (hC : CIr v l lw lc) {t tm : Nat} (ht : t < tm) (htm : tm ≤ 20) {k18 : Nat → Nat → Int32 → Int32 → Int32 → Int32 → zH → Option (Int32 × zH)} {kd : Int32} : ∃ F, (∀ k, k < 113 → F k = oe v (mi 1 17) (mi 1 18) l k) ∧ ((tsq F x.2.2.2.2 = false ∧ ∃ ml', fb_X11_runClause_18 n k18 1 411 (nI l1.length) (nI tm) kd (nI t) (g, mi, ml) = k18 1 411 (nI l1.length) (nI tm) kd (nI (t + 1)) (g, zrw mi 23 F, ml')) ∨ (tsq F x.2.2.2.2 = true ∧ (sOk F x.2.1 && sOk F x.2.2.1) = false ∧ ∃ ml', fb_X11_runClause_18 n k18 1 411 (nI l1.length) (nI tm) kd (nI t) (g, mi, ml) = some (nI 0, (g, zrw mi 23 F, ml'))) ∨ (tsq F x.2.2.2.2 = true ∧ (sOk F x.2.1 && sOk F x.2.2.1) = true ∧ ∃ y1 y2 ml', (∀ f, x.2.1 = some f → f.2 F = some y1) ∧ (∀ f, x.2.2.1 = some f → f.2 F = some y2) ∧ fb_X11_runClause_18 n k18 1 411 (nI l1.length) (nI tm) kd (nI t) (g, mi, ml) = oRest n k18 (nI l1.length) (nI tm) kd (nI t) (Int64.toInt32 y1) (Int64.toInt32 y2) (g, zrw mi 23 F, ml'))) := by
  obtain ⟨F, e1, e2⟩ := c_tow (ml := ml) (n := n) hs hn hR hC
  refine ⟨F, e2, ?_⟩
  obtain ⟨m0, hm0⟩ : ∃ y, y = zrw mi 23 F := ⟨_, rfl⟩
  rw [← hm0] at e1 ⊢
  have hx' : LWx g m0 411 412 413 414 ln true D V T L := by rw [hm0]; exact LWx_23 hx (by decide) (by decide) (by decide) (by decide)
  have hF : m0 23 = F := by rw [hm0, zrw_eq]
  obtain ⟨h0, h1, h2, h3, h4, h5⟩ := en_at hx' e
  have hr := rk_all (n := n) hs hx' x (by rw [e]; simp)
  have hl := hx'.2.2.1.2
  obtain ⟨r, ml1, q1, q2⟩ := c_rt (ml := ml) hs hn hx'.1 hr
  rw [tst_q, hF] at q2
  have u180 : ∀ (h : zH), fb_X11_runClause_180 n k18 1 411 (nI l1.length) (nI tm) kd (nI t) h = k18 1 411 (nI l1.length) (nI tm) kd (nI (t + 1)) h := fun h => by
    unfold fb_X11_runClause_180
    simp only [li]
    rw [nI_add]
  rcases q2 with ⟨a1, a2, a3⟩ | ⟨a1, a2⟩
  · obtain ⟨ml2, b⟩ := run_o (ml := ml1) hs hn hx'.1 (q := x.2.1) hr.1
    rw [hF] at b
    have U : ∀ ml2 r2, f_X4_runs n 22 411 (oL x.2.1) (g, m0, ml1) = some (r2, (g, m0, ml2)) → r2 = nI 0 → fb_X11_runClause_18 n k18 1 411 (nI l1.length) (nI tm) kd (nI t) (g, mi, ml) = some (nI 0, (g, m0, ml2)) := by
      intro ml2 r2 q3 q4
      unfold fb_X11_runClause_18
      simp only [li]
      rw [iLe0 (by omega) (by omega) ht, S_ck1 hs, e1, zb_s, S_gR1_2 hs, S_ck411 hs, c_entry hx' h0 (by decide), zb_s, h5, S_ck22 hs, q1, zb_s, a2, iN n01.symm, S_gR1_2 hs, S_gL22 hs, iN (by rw [cmp0]; exact a3), S_gR1_2 hs, S_ck411 hs, c_entry hx' h0 (by decide), zb_s, h2, S_ck22 hs, q3, zb_s, iP q4]
    rcases b with ⟨b1, b2, b3⟩ | ⟨b1, b2⟩
    · obtain ⟨ml3, c⟩ := run_o (ml := ml2) hs hn hx'.1 (q := x.2.2.1) hr.2.1
      rw [hF] at c
      have U2 : ∀ ml3 r3, f_X4_runs n 22 411 (oL x.2.2.1) (g, m0, ml2) = some (r3, (g, m0, ml3)) → (r3 = nI 0 → fb_X11_runClause_18 n k18 1 411 (nI l1.length) (nI tm) kd (nI t) (g, mi, ml) = some (nI 0, (g, m0, ml3))) ∧ (r3 = nI 1 → fb_X11_runClause_18 n k18 1 411 (nI l1.length) (nI tm) kd (nI t) (g, mi, ml) = oRest n k18 (nI l1.length) (nI tm) kd (nI t) (Int64.toInt32 (ml2 22 2)) (Int64.toInt32 (ml3 22 2)) (g, m0, ml3)) := by
        intro ml3 r3 q3
        refine ⟨fun q4 => ?_, fun q4 => ?_⟩
        · unfold fb_X11_runClause_18
          simp only [li]
          rw [iLe0 (by omega) (by omega) ht, S_ck1 hs, e1, zb_s, S_gR1_2 hs, S_ck411 hs, c_entry hx' h0 (by decide), zb_s, h5, S_ck22 hs, q1, zb_s, a2, iN n01.symm, S_gR1_2 hs, S_gL22 hs, iN (by rw [cmp0]; exact a3), S_gR1_2 hs, S_ck411 hs, c_entry hx' h0 (by decide), zb_s, h2, S_ck22 hs, b2, zb_s, iN n01.symm, S_gR1_2 hs, S_gL22 hs, q_let, S_gR1_2 hs, S_ck411 hs, c_entry hx' h0 (by decide), zb_s, h3, S_ck22 hs, q3, zb_s, iP q4]
        · unfold fb_X11_runClause_18 oRest
          simp only [li]
          rw [iLe0 (by omega) (by omega) ht, S_ck1 hs, e1, zb_s, S_gR1_2 hs, S_ck411 hs, c_entry hx' h0 (by decide), zb_s, h5, S_ck22 hs, q1, zb_s, a2, iN n01.symm, S_gR1_2 hs, S_gL22 hs, iN (by rw [cmp0]; exact a3), S_gR1_2 hs, S_ck411 hs, c_entry hx' h0 (by decide), zb_s, h2, S_ck22 hs, b2, zb_s, iN n01.symm, S_gR1_2 hs, S_gL22 hs, q_let, S_gR1_2 hs, S_ck411 hs, c_entry hx' h0 (by decide), zb_s, h3, S_ck22 hs, q3, zb_s, q4, iN n01.symm, S_gR1_2 hs, S_gL22 hs, q_let, S_gR1_5 hs, S_gR1_0 hs]
      rcases c with ⟨c1, c2, c3⟩ | ⟨c1, c2⟩
      · exact Or.inr (Or.inr ⟨a1, by rw [b1, c1]; rfl, ml2 22 2, ml3 22 2, ml3, b3, c3, (U2 _ _ c2).2 rfl⟩)
      · exact Or.inr (Or.inl ⟨a1, by rw [c1, Bool.and_false], ml3, (U2 _ _ c2).1 rfl⟩)
    · exact Or.inr (Or.inl ⟨a1, by rw [b1]; rfl, ml2, U _ _ b2 rfl⟩)
  · refine Or.inl ⟨a1, ml1, ?_⟩
    unfold fb_X11_runClause_18
    simp only [li]
    rw [iLe0 (by omega) (by omega) ht, S_ck1 hs, e1, zb_s, S_gR1_2 hs, S_ck411 hs, c_entry hx' h0 (by decide), zb_s, h5, S_ck22 hs, q1, zb_s]
    rcases a2 with a2 | ⟨a2, a3⟩
    · rw [a2, iP rfl, u180]
    · rw [a2, iN n01.symm, S_gR1_2 hs, S_gL22 hs, iP (by rw [cmp0]; exact a3), u180]
end
