/-! the nine acts; undo -/
section
variable {n : Nat}
theorem Sim_y {g : zS} {m0 : Nat → Nat → Int32} {v : Nat → Int32} {X Y Y' : zH → Option (Int32 × zH)} (h : Sim g 2 m0 v X Y') (e : ∀ M ml, Y (g, zrw M 424 v, ml) = Y' (g, zrw M 424 v, ml)) : Sim g 2 m0 v X Y := Sim_s h (fun _ _ => rfl) (fun mi ml _ hR => ⟨mi, ml, rfl, hR, fun _ _ _ => rfl⟩) (fun M ml => ⟨M, e M ml, FM_r M⟩)
theorem ck_id {g : zS} {mi : Nat → Nat → Int32} {ml : Nat → Nat → Int64} (hs : Sy g) (Z : Option (Int32 × zH)) : zck ((g, mi, ml) : zH) 13 422 (zb Z fun r h => some (r, h)) = Z := by rw [S_ck422 hs, zb_id]
theorem cl_put (hn : 6000 < n) (a b : Int32) : CALL (f_X11_put n 1 a b) (f_X12_put n 422 a b) := by
  refine CALL_act (Xc := f_X10_putKey n 2 a b 25) (k := 0) (a := a) (b := b) hn (by decide) (fun g mi ml mi1 ml1 r mi2 ml2 r' h' hs h1 h2 h3 => ?_) (fun g mi ml r mi1 ml1 hs h1 => ?_) (fun g m0 u0 v KO BO hs hC hR hu hI => Sim_y (put_sim hs w2c (Or.inl rfl) (by omega) hC hR hu hI a b) (fun M ml => ck_id hs _))
  · unfold f_X11_put
    simp only [li]
    rw [S_gR1_5 hs, S_gR1_0 hs, S_ck30 hs, h1, zb_s, S_gR1_0 hs, S_gR1_3 hs, W_ck hs w2c, h2, zb_s, S_ck1 hs, h3]
    rfl
  · unfold f_X12_put
    simp only [li]
    rw [S_ck422 hs, h1, zb_s, ck_id hs]
theorem cl_drop (hn : 6000 < n) (a : Int32) : CALL (f_X11_drop n 1 a) (f_X12_drop n 422 a) := by
  refine CALL_act (Xc := f_X10_dropKey n 2 a) (k := 1) (a := a) (b := nI 0) hn (by decide) (fun g mi ml mi1 ml1 r mi2 ml2 r' h' hs h1 h2 h3 => ?_) (fun g mi ml r mi1 ml1 hs h1 => ?_) (fun g m0 u0 v KO BO hs hC hR hu hI => Sim_y (drop_sim hs w2c (by omega) hI a) (fun M ml => ck_id hs _))
  · unfold f_X11_drop
    simp only [li]
    rw [S_gR1_5 hs, S_gR1_0 hs, S_ck30 hs, h1, zb_s, S_gR1_0 hs, W_ck hs w2c, h2, zb_s, S_ck1 hs, h3]
    rfl
  · unfold f_X12_drop
    simp only [li]
    rw [S_ck422 hs, h1, zb_s, ck_id hs]
theorem cl_enter (hn : 6000 < n) (a : Int32) : CALL (f_X11_enter n 1 a) (f_X12_enter n 422 a) := by
  refine CALL_act (Xc := f_X10_goIn n 2 a) (k := 2) (a := a) (b := nI 0) hn (by decide) (fun g mi ml mi1 ml1 r mi2 ml2 r' h' hs h1 h2 h3 => ?_) (fun g mi ml r mi1 ml1 hs h1 => ?_) (fun g m0 u0 v KO BO hs hC hR hu hI => Sim_y (enter_sim hs w2c hI a) (fun M ml => ck_id hs _))
  · unfold f_X11_enter
    simp only [li]
    rw [S_gR1_5 hs, S_gR1_0 hs, S_ck30 hs, h1, zb_s, S_gR1_0 hs, W_ck hs w2c, h2, zb_s, S_ck1 hs, h3]
    rfl
  · unfold f_X12_enter
    simp only [li]
    rw [S_ck422 hs, h1, zb_s, ck_id hs]
theorem cl_step (hn : 6000 < n) (a : Int32) : CALL (f_X11_step n 1 a) (f_X12_step n 422 a) := by
  refine CALL_act (Xc := f_X10_goOn n 2 a) (k := 3) (a := a) (b := nI 0) hn (by decide) (fun g mi ml mi1 ml1 r mi2 ml2 r' h' hs h1 h2 h3 => ?_) (fun g mi ml r mi1 ml1 hs h1 => ?_) (fun g m0 u0 v KO BO hs hC hR hu hI => Sim_y (step_sim hs w2c hI a) (fun M ml => ck_id hs _))
  · unfold f_X11_step
    simp only [li]
    rw [S_gR1_5 hs, S_gR1_0 hs, S_ck30 hs, h1, zb_s, S_gR1_0 hs, W_ck hs w2c, h2, zb_s, S_ck1 hs, h3]
    rfl
  · unfold f_X12_step
    simp only [li]
    rw [S_ck422 hs, h1, zb_s, ck_id hs]
theorem cl_park (hn : 6000 < n) (a : Int32) : CALL (f_X11_park n 1 a) (f_X12_park n 422 a) := by
  refine CALL_act (Xc := f_X10_standStill n 2 a) (k := 4) (a := a) (b := nI 0) hn (by decide) (fun g mi ml mi1 ml1 r mi2 ml2 r' h' hs h1 h2 h3 => ?_) (fun g mi ml r mi1 ml1 hs h1 => ?_) (fun g m0 u0 v KO BO hs hC hR hu hI => Sim_y (park_sim hs w2c hI a) (fun M ml => ck_id hs _))
  · unfold f_X11_park
    simp only [li]
    rw [S_gR1_5 hs, S_gR1_0 hs, S_ck30 hs, h1, zb_s, S_gR1_0 hs, W_ck hs w2c, h2, zb_s, S_ck1 hs, h3]
    rfl
  · unfold f_X12_park
    simp only [li]
    rw [S_ck422 hs, h1, zb_s, ck_id hs]
theorem cl_leave (hn : 6000 < n) (a : Int32) : CALL (f_X11_leave n 1 a) (f_X12_leave n 422 a) := by
  refine CALL_act (Xc := f_X10_goOut n 2 a 25) (k := 5) (a := a) (b := nI 0) hn (by decide) (fun g mi ml mi1 ml1 r mi2 ml2 r' h' hs h1 h2 h3 => ?_) (fun g mi ml r mi1 ml1 hs h1 => ?_) (fun g m0 u0 v KO BO hs hC hR hu hI => Sim_y (leave_sim hs w2c (Or.inl rfl) (by omega) hC hR hu hI a) (fun M ml => ck_id hs _))
  · unfold f_X11_leave
    simp only [li]
    rw [S_gR1_5 hs, S_gR1_0 hs, S_ck30 hs, h1, zb_s, S_gR1_0 hs, S_gR1_3 hs, W_ck hs w2c, h2, zb_s, S_ck1 hs, h3]
    rfl
  · unfold f_X12_leave
    simp only [li]
    rw [S_ck422 hs, h1, zb_s, ck_id hs]
theorem cl_tick (hn : 6000 < n) (a : Int32) : CALL (f_X11_tick n 1 a) (f_X12_tick n 422 a) := by
  refine CALL_act (Xc := f_X10_beQuiet n 2 a 25) (k := 6) (a := a) (b := nI 0) hn (by decide) (fun g mi ml mi1 ml1 r mi2 ml2 r' h' hs h1 h2 h3 => ?_) (fun g mi ml r mi1 ml1 hs h1 => ?_) (fun g m0 u0 v KO BO hs hC hR hu hI => Sim_y (tick_sim hs w2c (Or.inl rfl) (by omega) hC hR hu hI a) (fun M ml => ck_id hs _))
  · unfold f_X11_tick
    simp only [li]
    rw [S_gR1_5 hs, S_gR1_0 hs, S_ck30 hs, h1, zb_s, S_gR1_0 hs, S_gR1_3 hs, W_ck hs w2c, h2, zb_s, S_ck1 hs, h3]
    rfl
  · unfold f_X12_tick
    simp only [li]
    rw [S_ck422 hs, h1, zb_s, ck_id hs]
theorem cl_begin (hn : 6000 < n) : CALL (f_X11_begin n 1) (f_X12_begin n 422) := by
  refine CALL_act (Xc := f_X10_startGrace n 2) (k := 7) (a := nI 0) (b := nI 0) hn (by decide) (fun g mi ml mi1 ml1 r mi2 ml2 r' h' hs h1 h2 h3 => ?_) (fun g mi ml r mi1 ml1 hs h1 => ?_) (fun g m0 u0 v KO BO hs hC hR hu hI => Sim_y (begin_sim hs w2c (by omega) hI) (fun M ml => ck_id hs _))
  · unfold f_X11_begin
    simp only [li]
    rw [S_gR1_5 hs, S_gR1_0 hs, S_ck30 hs, h1, zb_s, S_gR1_0 hs, W_ck hs w2c, h2, zb_s, S_ck1 hs, h3]
    rfl
  · unfold f_X12_begin
    simp only [li]
    rw [S_ck422 hs, h1, zb_s, ck_id hs]
theorem cl_hurry (hn : 6000 < n) : CALL (f_X11_hurry n 1) (f_X12_hurry n 422) := by
  refine CALL_act (Xc := f_X10_hurryGrace n 2 25) (k := 8) (a := nI 0) (b := nI 0) hn (by decide) (fun g mi ml mi1 ml1 r mi2 ml2 r' h' hs h1 h2 h3 => ?_) (fun g mi ml r mi1 ml1 hs h1 => ?_) (fun g m0 u0 v KO BO hs hC hR hu hI => Sim_y (hurry_sim hs w2c (Or.inl rfl) (by omega) hC hR hu hI) (fun M ml => ck_id hs _))
  · unfold f_X11_hurry
    simp only [li]
    rw [S_gR1_5 hs, S_gR1_0 hs, S_ck30 hs, h1, zb_s, S_gR1_0 hs, S_gR1_3 hs, W_ck hs w2c, h2, zb_s, S_ck1 hs, h3]
    rfl
  · unfold f_X12_hurry
    simp only [li]
    rw [S_ck422 hs, h1, zb_s, ck_id hs]
theorem r_und {g : zS} {mi : Nat → Nat → Int32} {ml : Nat → Nat → Int64} (hs : Sy g) {o : Nat} (ho : o + 192 ≤ 3072) : ∀ (r t f : Nat), t + r = 191 → r < f → zlp3 (fb_X12_undo_35 n) f 422 (nI o) (nI t) (g, zrw mi 424 (cpT (mi 424) (fun i => mi 435 (o + i)) 0 t), ml) = fb_X12_undo_62 n 422 (nI o) (g, zrw mi 424 (cpT (mi 424) (fun i => mi 435 (o + i)) 0 191), ml)
  | r, t, 0, _, h => absurd h (by omega)
  | 0, t, f + 1, h1, _ => by
    have : t = 191 := by omega
    subst this
    show fb_X12_undo_35 n (zlp3 (fb_X12_undo_35 n) f) 422 (nI o) (nI 191) _ = _
    generalize zlp3 (fb_X12_undo_35 n) f = K
    unfold fb_X12_undo_35
    simp only [li]
    rw [iLe1 (by omega) (by omega) (by omega)]
  | r + 1, t, f + 1, h1, h2 => by
    have ih := r_und (mi := mi) (ml := ml) hs ho r (t + 1) f (by omega) (by omega)
    rw [← ih]
    show fb_X12_undo_35 n (zlp3 (fb_X12_undo_35 n) f) 422 (nI o) (nI t) _ = _
    generalize zlp3 (fb_X12_undo_35 n) f = K
    unfold fb_X12_undo_35
    simp only [li]
    rw [iLe0 (by omega) (by omega) (by omega), S_gR422_2 hs, S_gR422_29 hs, nI_add, S_aI435 hs (by omega), zrw_a (by decide), S_eI424 hs (by omega), ur_s, nI_add]
    have e := cpT_u (A := fun i => mi 435 (o + i)) (R := mi 424) (o := 0) (t := t) (x := mi 435 (o + t)) rfl
    rw [Nat.zero_add] at e
    rw [e]
theorem cl_undo (hn : 6000 < n) : CALL (f_X11_undo n 1) (f_X12_undo n 422) := by
  intro c g mi ml hc hI
  have hs := hI.1.1
  obtain ⟨hR, hWI, e, he1, he2⟩ := hI.2.1
  obtain ⟨f, m, ⟨h1, h2, h3, h4⟩, h5, h6⟩ := hI.2.2.2.2.1
  by_cases q : m = 0
  · subst q
    refine F_call hI isF3 ?_ ?_
    · unfold f_X11_undo f_X2_takeBack
      simp only [li, ng3]
      rw [S_gR1_5 hs, S_gR1_0 hs, S_ck30 hs, S_gI30 hs, h4, iP rfl, zb_s, S_ck1 hs, told_F hs isF3, zb_s]
    · unfold f_X12_undo
      simp only [li, ng3]
      rw [S_gI422 hs, tF_a (by decide) (by decide), h5, iP rfl, S_ck422 hs, ref_F hs isF3, zb_s]
  · obtain ⟨p, rfl⟩ : ∃ p, m = p + 1 := ⟨m - 1, by omega⟩
    obtain ⟨⟨a1, a2, e', a3, a4⟩, a5, k, a6, a7⟩ := h6 p (by omega)
    have hsl := slt_lt f p
    have hR0 : WR (zu mi 30 3 (nI p)) (33 + 10 * slt f p) (hrow mi p) := WR_cong a1 (fun x x1 x2 => zu_a (by omega))
    obtain ⟨m1', b1, b2, b3⟩ := c_copy (u := 2) (w := 33 + 10 * slt f p) (ml := ml) (n := n) hs w2c (hw_t _ hsl).2.1 (by omega) hR0 (WI_r a2)
    have F1' : ∀ x, 11 < x → x ≠ 30 → m1' x = mi x := fun x x1 x2 => by rw [b3 x (by omega), zu_a x2]
    have F11 : m1' 1 = mi 1 := by rw [b3 1 (by omega), zu_a (by decide)]
    have F30 : m1' 30 = zu mi 30 3 (nI p) 30 := by rw [b3 30 (by omega)]
    have e303 : m1' 30 3 = nI p := by rw [F30, zu_s]
    have e302 : m1' 30 2 = nI f := by rw [F30, zu_k (by decide)]; exact h3
    have hX : f_X11_undo n 1 (g, mi, ml) = some (nI k, (g, tG m1', ml)) := by
      have e0 : zu mi 30 3 (nI p) 30 3 = nI p := zu_s _ _ _ _
      have e02 : zu mi 30 3 (nI p) 30 2 = nI f := by rw [zu_k (by decide)]; exact h3
      unfold f_X11_undo f_X2_takeBack
      simp only [li, ng3]
      rw [S_gR1_5 hs, S_gR1_0 hs, S_ck30 hs, S_gI30 hs, h4, iEq0 (by omega) (by omega) (by omega), S_gI30 hs, h4, nI_sub (by omega), Nat.add_sub_cancel, S_pI30 hs, S_gR30_0 hs, S_gI30 hs, e0, S_ck30 hs, c_slot hs h1 (by omega) e02, zb_s, h_ref hs hsl, W_ck hs w2c, b1, zb_s, S_gR30_1 hs, S_gI30 hs, e303, S_ck30 hs, c_slot hs h1 (by omega) e302, zb_s, S_aI32 hs hsl, F1' 32 (by decide) (by decide), a5, a7, zb_s, S_ck1 hs, told_G hs ⟨k, by omega, rfl⟩, zb_s]
    have T : ∀ x, x ≠ 1 → 11 < x → x ≠ 30 → tG m1' x = mi x := fun x x1 x2 x3 => by rw [tG_a x1, F1' x x2 x3]
    have eu := r_und (mi := zu (tG m1') 422 31 (nI p)) (ml := ml) (n := n) (o := 192 * p) hs (by omega) 191 0 n rfl (by omega)
    have ez : cpT (zu (tG m1') 422 31 (nI p) 424) (fun i => zu (tG m1') 422 31 (nI p) 435 (192 * p + i)) 0 0 = zu (tG m1') 422 31 (nI p) 424 := cpT_0
    rw [ez, u_self] at eu
    generalize hQ : zrw (zu (tG m1') 422 31 (nI p)) 424 (cpT (zu (tG m1') 422 31 (nI p) 424) (fun i => zu (tG m1') 422 31 (nI p) 435 (192 * p + i)) 0 191) = Q at eu
    have Q4 : ∀ t, t < 191 → Q 424 t = hrow mi p t := fun t ht => by
      have := cpT_in (R := zu (tG m1') 422 31 (nI p) 424) (A := fun i => zu (tG m1') 422 31 (nI p) 435 (192 * p + i)) (o := 0) (t := 191) ht
      rw [Nat.zero_add] at this
      rw [← hQ, zrw_eq, this, zu_a (by decide), T 435 (by decide) (by decide) (by decide)]
      rfl
    have Q4' : ∀ t, 191 ≤ t → Q 424 t = mi 424 t := fun t ht => by
      rw [← hQ, zrw_eq, cpT_out (by omega), zu_a (by decide), T 424 (by decide) (by decide) (by decide)]
    have QF : ∀ x, x ≠ 424 → x ≠ 422 → Q x = tG m1' x := fun x x1 x2 => by rw [← hQ, zrw_a x1, zu_a x2]
    have Q2 : ∀ i, i ≠ 31 → Q 422 i = mi 422 i := fun i hi => by rw [← hQ, zrw_a (by decide), zu_k hi, T 422 (by decide) (by decide) (by decide)]
    have Q31 : Q 422 31 = nI p := by rw [← hQ, zrw_a (by decide), zu_s]
    have hY : f_X12_undo n 422 (g, tG m1', ml) = some (nI k, (g, rG Q, ml)) := by
      unfold f_X12_undo
      simp only [li, ng3]
      rw [S_gI422 hs, T 422 (by decide) (by decide) (by decide), h5, iEq0 (by omega) (by omega) (by omega), S_gI422 hs, T 422 (by decide) (by decide) (by decide), h5, nI_sub (by omega), Nat.add_sub_cancel, S_pI422 hs, S_gI422 hs, zu_s, q_let, pk_mul, eu]
      unfold fb_X12_undo_62
      simp only [li]
      rw [S_gR422_29 hs, nI_add, S_aI435 hs (by omega), QF 435 (by decide) (by decide), T 435 (by decide) (by decide) (by decide), a7, S_ck422 hs, good_e hs, zb_s]
    refine ⟨nI k, g, tG m1', ml, rG Q, ml, hX, hY, ?_⟩
    have Z : ∀ x, x ≠ 424 → x ≠ 422 → rG Q x = tG m1' x := fun x x1 x2 => by rw [rG_a x2, QF x x1 x2]
    refine IV_act hI (fun x x0 x1 x2 x3 x4 x5 x6 x7 x8 x9 x10 => ?_) (fun i hi => ?_) (fun i hi hi0 hi31 => ?_) (fun i hi => ?_) ?_ ?_ ?_
    · rw [Z x x7 x5, T x (by omega) (by omega) x1]
    · rw [Z 1 (by decide) (by decide), tG_1 hi, F11]
    · rw [rG_2 hi0, Q2 i hi31]
    · rw [rG_a (by decide), Q4' i hi]
    · refine ⟨WR_congv (WR_cong b2 (fun x x1 x2 => ?_)) (fun t ht => ?_), WI_c a2 (fun t ht => ?_), e', by omega, Ed_c a4 (fun t ht => ?_)⟩
      · rw [Z x (by omega) (by omega), tG_a (by omega)]
      · rw [rG_a (by decide)]; exact Q4 t ht
      · rw [rG_a (by decide)]; exact Q4 t (by omega)
      · rw [rG_a (by decide)]; exact Q4 t ht
    · refine ⟨f, p, ⟨h1, by omega, by rw [Z 30 (by decide) (by decide), tG_a (by decide)]; exact e302, by rw [Z 30 (by decide) (by decide), tG_a (by decide)]; exact e303⟩, by rw [rG_2 (by decide)]; exact Q31, fun i hi => ?_⟩
      obtain ⟨d1, d2, d3⟩ := h6 i (by omega)
      have := slt_lt f i
      have e435 : rG Q 435 = mi 435 := by rw [Z 435 (by decide) (by decide), T 435 (by decide) (by decide) (by decide)]
      have hr : hrow (rG Q) i = hrow mi i := by unfold hrow; rw [e435]
      rw [hr, e435, Z 32 (by decide) (by decide), T 32 (by decide) (by decide) (by decide)]
      exact ⟨PW_e d1 (by omega) (fun x x1 x2 => by rw [Z x (by omega) (by omega), T x (by omega) (by omega) (by omega)]), d2, d3⟩
    · refine SCa_G hI.2.2.2.2.2.2.2.1 ?_ ?_ ?_
      · rw [QF 1 (by decide) (by decide)]; exact zu_s _ _ _ _
      · rw [QF 419 (by decide) (by decide), T 419 (by decide) (by decide) (by decide)]
      · rw [QF 423 (by decide) (by decide), T 423 (by decide) (by decide) (by decide)]
end
