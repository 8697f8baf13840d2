/-! days -/
def dA (s : Int32) : Int32 := Int64.toInt32 ((((Int32.toInt64 s) * 1103) + 12345) - (((Int32.toInt64 s) * 1103) + 12345) / 1000003 * 1000003)
theorem dA_r {i : Nat} (hi : i ≤ 1000002) : ∃ j, j ≤ 1000002 ∧ dA (nI i) = nI j := by
  have e1 : (1103 : Int64).toInt = 1103 := rfl
  have e2 : (12345 : Int64).toInt = 12345 := rfl
  have e3 : (1000003 : Int64).toInt = 1000003 := rfl
  have a1 : ((Int32.toInt64 (nI i)) * 1103 + 12345).toInt = (i : Int) * 1103 + 12345 := by
    rw [Int64.toInt_add, Int64.toInt_mul, Int32.toInt_toInt64, nI_toInt (by omega), e1, e2]
    rw [Int.bmod_eq_of_le (n := (i : Int) * 1103) (by simp only [Nat.reducePow]; omega) (by simp only [Nat.reducePow]; omega), Int.bmod_eq_of_le (by simp only [Nat.reducePow]; omega) (by simp only [Nat.reducePow]; omega)]
  have a2 : (((Int32.toInt64 (nI i)) * 1103 + 12345) / 1000003).toInt = ((i : Int) * 1103 + 12345) / 1000003 := by
    rw [Int64.toInt_div_of_ne_right _ _ (by decide), a1, e3, Int.tdiv_eq_ediv_of_nonneg (by omega)]
  refine ⟨(i * 1103 + 12345) % 1000003, by omega, ?_⟩
  apply Int32.toInt_inj.mp
  unfold dA
  rw [Int64.toInt_toInt32, Int64.toInt_sub, Int64.toInt_mul, a1, a2, e3, nI_toInt (by omega)]
  rw [Int.bmod_eq_of_le (n := ((i : Int) * 1103 + 12345) / 1000003 * 1000003) (by simp only [Nat.reducePow]; omega) (by simp only [Nat.reducePow]; omega), Int.bmod_eq_of_le (m := 2 ^ 64) (by simp only [Nat.reducePow]; omega) (by simp only [Nat.reducePow]; omega), Int.bmod_eq_of_le (by simp only [Nat.reducePow]; omega) (by simp only [Nat.reducePow]; omega)]
  omega
def FMd (M M' : Nat → Nat → Int32) : Prop := (∀ a, a ≠ 422 → a ≠ 424 → a ≠ 434 → M' a = M a) ∧ ∀ k, (k < 22 ∨ 25 < k) → k ≠ 42 → M' 422 k = M 422 k
theorem w12c : zWL.contains 12 = true := by decide
section
variable {g : zS} {n : Nat} {m0 : Nat → Nat → Int32} {u0 : Nat → Int32} {KO : (Nat → Int32) → Nat → Nat → Int32} {BO : (Nat → Int32) → Nat → Bool}
theorem acts_b {k : Nat} (h0 : 0 < k) (hk : k < 8) (a b b' : Int32) (h : zH) : f_X12_acts n 422 (nI k) a b h = f_X12_acts n 422 (nI k) a b' h := by
  have : k = 1 ∨ k = 2 ∨ k = 3 ∨ k = 4 ∨ k = 5 ∨ k = 6 ∨ k = 7 := by omega
  rcases this with e | e | e | e | e | e | e <;> subst e
  · have w : ∀ z, f_X12_acts n 422 (nI 1) a z h = zck h 13 422 (zb (f_X12_drops n 422 a h) fun r h => some (r, h)) := fun z => rfl
    rw [w b, w b']
  · have w : ∀ z, f_X12_acts n 422 (nI 2) a z h = zck h 13 422 (zb (f_X12_enters n 422 a h) fun r h => some (r, h)) := fun z => rfl
    rw [w b, w b']
  · have w : ∀ z, f_X12_acts n 422 (nI 3) a z h = zck h 13 422 (zb (f_X12_steps n 422 a h) fun r h => some (r, h)) := fun z => rfl
    rw [w b, w b']
  · have w : ∀ z, f_X12_acts n 422 (nI 4) a z h = zck h 13 422 (zb (f_X12_parks n 422 a h) fun r h => some (r, h)) := fun z => rfl
    rw [w b, w b']
  · have w : ∀ z, f_X12_acts n 422 (nI 5) a z h = zck h 13 422 (zb (f_X12_leaves0 n 422 a h) fun r h => some (r, h)) := fun z => rfl
    rw [w b, w b']
  · have w : ∀ z, f_X12_acts n 422 (nI 6) a z h = zck h 13 422 (zb (f_X12_ticks n 422 a h) fun r h => some (r, h)) := fun z => rfl
    rw [w b, w b']
  · have w : ∀ z, f_X12_acts n 422 (nI 7) a z h = zck h 13 422 (zb (f_X12_beginsOr n 422 h) fun r h => some (r, h)) := fun z => rfl
    rw [w b, w b']
theorem day_sim (hs : Sy g) (hn : 24 < n) (HC : HCo g n m0 u0 12 KO BO) (HR : HRo g n u0 KO BO) {v : Nat → Int32} (hu : ∀ k, 191 ≤ k → v k = u0 k) (hI : WI v) {k : Nat} (hk : k < 8) (a b b' : Int32) (hb : k = 0 → b' = b) : Sim g 12 m0 v (f_X10_act n 12 (nI k) a b 25) (f_X12_acts n 422 (nI k) a b') := by
  have h := act_sim hs w12c (Or.inr rfl) hn HC HR hu hI hk a b
  by_cases q : k = 0
  · rw [hb q]; exact h
  · exact Sim_s h (fun _ _ => rfl) (fun mi ml _ hR => ⟨mi, ml, rfl, hR, fun _ _ _ => rfl⟩) (fun M ml => ⟨M, acts_b (by omega) hk _ _ _ _, FM_r M⟩)
theorem r_draws {M : Nat → Nat → Int32} {ml : Nat → Nat → Int64} (hs : Sy g) {s d j : Nat} (h : M 422 42 = nI s) (hj : dA (nI s) = nI j) (hj2 : j ≤ 1000002) (h0 : 0 < d) (hd : d < 100) : f_X12_draws n 422 (nI d) (g, M, ml) = some (nI (j % d), (g, zu M 422 42 (nI j), ml)) := by
  have e : Int64.toInt32 ((((1103 : Int64) * (Int32.toInt64 (nI s))) + 12345) - (((1103 : Int64) * (Int32.toInt64 (nI s))) + 12345) / 1000003 * 1000003) = nI j := by
    rw [Int64.mul_comm 1103]; exact hj
  unfold f_X12_draws
  rw [S_gI422 hs, h, e, S_pI422 hs, S_gI422 hs, zu_s]
  simp only [li]
  rw [iEq0 (by omega) (by omega) (by omega), pk_rem (by omega) h0 (by omega)]
theorem zu_rw {M : Nat → Nat → Int32} {v : Nat → Int32} {k : Nat} {x : Int32} : zu (zrw M 424 v) 422 k x = zrw (zu M 422 k x) 424 v := by
  funext a
  by_cases q : a = 424
  · subst q; rw [zu_a (by decide), zrw_eq, zrw_eq]
  · rw [zrw_a q]
    by_cases q' : a = 422
    · subst q'; funext i
      by_cases qk : i = k
      · subst qk; rw [zu_s, zu_s]
      · rw [zu_k qk, zu_k qk, zrw_a (by decide)]
    · rw [zu_a q', zu_a q', zrw_a q]
theorem r_day {M : Nat → Nat → Int32} {ml : Nat → Nat → Int64} (hs : Sy g) {v v' : Nat → Int32} {s j1 j2 j3 k : Nat} {r : Int32} (h : M 422 42 = nI s) (e1 : dA (nI s) = nI j1) (l1 : j1 ≤ 1000002) (e2 : dA (nI j1) = nI j2) (l2 : j2 ≤ 1000002) (e3 : dA (nI j2) = nI j3) (l3 : j3 ≤ 1000002) (hk : j3 % 9 = k) (hY : ∀ M ml, ∃ M', f_X12_acts n 422 (nI k) (if k < 2 then nI (j2 % 6) else nI (j1 % 8)) (if k = 0 then nI (j1 % 8) else nI 0) (g, zrw M 424 v, ml) = some (r, (g, zrw M' 424 v', ml)) ∧ FM M M') : ∃ M', f_X12_drawnAct n 422 (g, zrw M 424 v, ml) = some ((), (g, zrw M' 424 v', ml)) ∧ M' 422 42 = nI j3 ∧ FMd M M' := by
  obtain ⟨M', a1, a2⟩ := hY (zu (zu (zu M 422 42 (nI j1)) 422 42 (nI j2)) 422 42 (nI j3)) ml
  refine ⟨M', ?_, by rw [a2.2 42 (by decide), zu_s], fun a x1 x2 x3 => by rw [a2.1 a x1 x2 x3, zu_a x1, zu_a x1, zu_a x1], fun i i1 i2 => by rw [a2.2 i i1, zu_k i2, zu_k i2, zu_k i2]⟩
  have h' : zrw M 424 v 422 42 = nI s := by rw [zrw_a (by decide)]; exact h
  unfold f_X12_drawnAct
  simp only [li, zswl]
  rw [S_ck422 hs, r_draws hs h' e1 l1 (by decide) (by decide), zb_s, S_ck422 hs, r_draws hs (zu_s _ _ _ _) e2 l2 (by decide) (by decide), zb_s, S_ck422 hs, r_draws hs (zu_s _ _ _ _) e3 l3 (by decide) (by decide), zb_s, hk, zu_rw, zu_rw, zu_rw]
  by_cases q0 : k = 0
  · subst q0
    rw [if_pos (by decide), if_pos rfl] at a1
    rw [iEq1 rfl, S_ck422 hs, a1, zb_s]
  by_cases q1 : k = 1
  · subst q1
    rw [if_pos (by decide), if_neg (by decide)] at a1
    rw [iEq0 (by decide) (by decide) (by decide), iEq1 rfl, S_ck422 hs, a1, zb_s]
  · rw [if_neg (by omega), if_neg q0] at a1
    rw [iEq0 (by omega) (by omega) q0, iEq0 (by omega) (by omega) q1, S_ck422 hs, a1, zb_s]
theorem c_day {mi mi1 : Nat → Nat → Int32} {ml ml1 : Nat → Nat → Int64} (hs : Sy g) {s j1 j2 j3 k i N f : Nat} {r R : Int32} (hi : i < N) (hN : N ≤ 60) (e1 : dA (nI s) = nI j1) (l1 : j1 ≤ 1000002) (e2 : dA (nI j1) = nI j2) (l2 : j2 ≤ 1000002) (e3 : dA (nI j2) = nI j3) (l3 : j3 ≤ 1000002) (hk : j3 % 9 = k) (hX : (if k = 8 then f_X10_hurryGrace n 12 25 else f_X10_act n 12 (nI k) (if k < 2 then nI (j2 % 6) else nI (j1 % 8)) (nI (j1 % 8)) 25) (g, mi, ml) = some (r, (g, mi1, ml1))) : zlp5 (fb_X11_days_53 n) (f + 1) 1 (nI N) R (nI s) (nI i) (g, mi, ml) = zlp5 (fb_X11_days_53 n) f 1 (nI N) R (nI j3) (nI (i + 1)) (g, mi1, ml1) := by
  show fb_X11_days_53 n (zlp5 (fb_X11_days_53 n) f) 1 (nI N) R (nI s) (nI i) _ = _
  generalize zlp5 (fb_X11_days_53 n) f = K
  have d : ∀ s h, f_X11_drawAfter n s h = some (dA s, h) := fun _ _ => rfl
  unfold fb_X11_days_53 fb_X11_days_112 fb_X11_days_117 fb_X11_days_159 fb_X11_days_169
  simp only [li]
  rw [iLe0 (by omega) (by omega) (by omega), d, zb_s, e1, q_let, d, zb_s, e2, q_let, d, zb_s, e3, q_let, pk_rem (by omega) (by decide) (by decide), pk_rem (by omega) (by decide) (by decide), pk_rem (by omega) (by decide) (by decide), hk]
  by_cases q8 : k = 8
  · rw [if_pos q8] at hX
    subst q8
    rw [iEq0 (by decide) (by decide) (by decide), iEq0 (by decide) (by decide) (by decide), iEq1 rfl, S_gR1_1 hs, S_gR1_3 hs, W_ck hs w12c, hX, zb_s, nI_add]
  rw [if_neg q8] at hX
  by_cases q0 : k = 0
  · subst q0
    rw [if_pos (by decide)] at hX
    rw [iEq1 rfl, iEq0 (by decide) (by decide) (by decide), S_gR1_1 hs, iEq0 (by decide) (by decide) (by decide), S_gR1_3 hs, W_ck hs w12c, hX, zb_s, nI_add]
  by_cases q1 : k = 1
  · subst q1
    rw [if_pos (by decide)] at hX
    rw [iEq0 (by decide) (by decide) (by decide), iEq1 rfl, iEq0 (by decide) (by decide) (by decide), S_gR1_1 hs, iEq0 (by decide) (by decide) (by decide), S_gR1_3 hs, W_ck hs w12c, hX, zb_s, nI_add]
  · rw [if_neg (by omega)] at hX
    rw [iEq0 (by omega) (by omega) q0, iEq0 (by omega) (by omega) q1, iEq0 (by omega) (by omega) q8, S_gR1_1 hs, if_T, S_gR1_3 hs, W_ck hs w12c, hX, zb_s, nI_add]
theorem day_l (hs : Sy g) (hn : 24 < n) (HC : HCo g n m0 u0 12 KO BO) (HR : HRo g n u0 KO BO) {N : Nat} {R : Int32} (hN : N ≤ 60) : ∀ (t i f : Nat) (v : Nat → Int32) (s : Nat), i + t = N → t < f → s ≤ 1000002 → (∀ k, 191 ≤ k → v k = u0 k) → WI v → ∃ v', WI v' ∧ (∀ k, 191 ≤ k → v' k = v k) ∧ Gw (9 * t) v v' ∧ (∀ M ml, M 422 42 = nI s → ∃ M', zlp4 (fb_X12_days_49 n) f 422 (nI N) R (nI i) (g, zrw M 424 v, ml) = fb_X12_days_65 n 422 R (g, zrw M' 424 v', ml) ∧ FMd M M') ∧ ∀ mi ml, FC 12 m0 mi → WR mi 12 v → ∃ mi' ml', zlp5 (fb_X11_days_53 n) f 1 (nI N) R (nI s) (nI i) (g, mi, ml) = fb_X11_days_175 n 1 R (g, mi', ml') ∧ WR mi' 12 v' ∧ FC 12 mi mi'
  | t, i, 0, v, s, _, h, _, _, _ => absurd h (by omega)
  | 0, i, f + 1, v, s, h1, h2, h3, hu, hI => by
    refine ⟨v, hI, fun _ _ => rfl, Gw_0 (fun _ _ => rfl), fun M ml e1 => ⟨M, ?_, ⟨fun _ _ _ _ => rfl, fun _ _ _ => rfl⟩⟩, fun mi ml hF hR => ⟨mi, ml, ?_, hR, fun _ _ _ => rfl⟩⟩
    · show fb_X12_days_49 n (zlp4 (fb_X12_days_49 n) f) 422 (nI N) R (nI i) _ = _
      generalize zlp4 (fb_X12_days_49 n) f = K
      unfold fb_X12_days_49
      rw [iLe1 (by omega) (by omega) (by omega)]
    · show fb_X11_days_53 n (zlp5 (fb_X11_days_53 n) f) 1 (nI N) R (nI s) (nI i) _ = _
      generalize zlp5 (fb_X11_days_53 n) f = K
      unfold fb_X11_days_53
      rw [iLe1 (by omega) (by omega) (by omega)]
  | t + 1, i, f + 1, v, s, h1, h2, h3, hu, hI => by
    obtain ⟨j1, l1, e1⟩ := dA_r h3
    obtain ⟨j2, l2, e2⟩ := dA_r l1
    obtain ⟨j3, l3, e3⟩ := dA_r l2
    obtain ⟨k, hk⟩ : ∃ k, j3 % 9 = k := ⟨_, rfl⟩
    have hS : Sim g 12 m0 v (if k = 8 then f_X10_hurryGrace n 12 25 else f_X10_act n 12 (nI k) (if k < 2 then nI (j2 % 6) else nI (j1 % 8)) (nI (j1 % 8)) 25) (f_X12_acts n 422 (nI k) (if k < 2 then nI (j2 % 6) else nI (j1 % 8)) (if k = 0 then nI (j1 % 8) else nI 0)) := by
      by_cases q : k = 8
      · rw [if_pos q]
        subst q
        exact Sim_s (hurry_sim hs w12c (Or.inr rfl) hn HC HR hu hI) (fun _ _ => rfl) (fun mi ml _ hR => ⟨mi, ml, rfl, hR, fun _ _ _ => rfl⟩) (fun M ml => ⟨M, ck_id hs _, FM_r M⟩)
      · rw [if_neg q]
        exact day_sim hs hn HC HR hu hI (by omega) _ _ _ (fun z => if_pos z)
    obtain ⟨r, v1, s1, s2, s3, s4, s5⟩ := hS
    obtain ⟨v', p1, p2, p3, p4, p5⟩ := day_l hs hn HC HR (R := R) hN t (i + 1) f v1 j3 (by omega) (by omega) l3 (fun k hk => by rw [s3 k hk, hu k hk]) s2
    refine ⟨v', p1, fun k hk => by rw [p2 k hk, s3 k hk], Gw_w (Gw_t s1.1 p3) (by omega), fun M ml q1 => ?_, fun mi ml hF hR => ?_⟩
    · obtain ⟨M1, a1, a2, a3⟩ := r_day (ml := ml) hs q1 e1 l1 e2 l2 e3 l3 hk s4
      obtain ⟨M', b1, b2⟩ := p4 M1 ml a2
      refine ⟨M', ?_, fun a x1 x2 x3 => by rw [b2.1 a x1 x2 x3, a3.1 a x1 x2 x3], fun i i1 i2 => by rw [b2.2 i i1 i2, a3.2 i i1 i2]⟩
      rw [← b1]
      show fb_X12_days_49 n (zlp4 (fb_X12_days_49 n) f) 422 (nI N) R (nI i) _ = _
      generalize zlp4 (fb_X12_days_49 n) f = K
      unfold fb_X12_days_49
      simp only [li]
      rw [iLe0 (by omega) (by omega) (by omega), S_ck422 hs, a1, zb_s, nI_add]
    · obtain ⟨mi1, ml1, a1, a2, a3⟩ := s5 mi ml hF hR
      obtain ⟨mi', ml', b1, b2, b3⟩ := p5 mi1 ml1 (fun a x1 x2 => by rw [a3 a x1 x2, hF a x1 x2]) a2
      refine ⟨mi', ml', ?_, b2, fun a x1 x2 => by rw [b3 a x1 x2, a3 a x1 x2]⟩
      rw [c_day hs (by omega) hN e1 l1 e2 l2 e3 l3 hk a1, b1]
end
section
variable {g : zS} {mi : Nat → Nat → Int32} {v : Nat → Int32} {ml : Nat → Nat → Int64} {n : Nat}
theorem c_ended {w e : Nat} (hs : Sy g) (hw : zWL.contains w = true) (hR : WR mi w v) (he : Ed v e) : f_X10_gracesEnded n w (g, mi, ml) = some (nI e, (g, mi, ml)) := by
  unfold f_X10_gracesEnded
  simp only [li]
  rcases he.1 with ⟨a, b⟩ | ⟨a, b⟩
  · rw [W_gI hs hw, rd_runs hR, a, iEq1 rfl, W_gI hs hw, rd_begun hR, b]
  · rw [W_gI hs hw, rd_runs hR, a, iEq0 (by decide) (by decide) (by decide), W_gI hs hw, rd_begun hR, b, nI_sub (by omega), Nat.add_sub_cancel]
theorem r_ended {e : Nat} (hs : Sy g) (hv : mi 424 = v) (he : Ed v e) : f_X12_endedMany n 422 (g, mi, ml) = some (nI e, (g, mi, ml)) := by
  unfold f_X12_endedMany
  simp only [li]
  rw [S_gR422_2 hs, S_aI424 hs (by decide), S_gR422_2 hs, S_aI424 hs (by decide), hv]
  rcases he.1 with ⟨a, b⟩ | ⟨a, b⟩
  · rw [a, b, nI_sub (by omega)]; rfl
  · rw [a, b, nI_sub (by omega), Nat.add_sub_cancel]
theorem r_d76 (hs : Sy g) {x : Int32} : ∀ (r t f : Nat), t + r = 24 → r < f → zlp3 (fb_X12_days_76 n) f 422 x (nI t) (g, zrw mi 439 (cpT (mi 439) (mi 424) 0 t), ml) = fb_X12_days_105 n 422 x (g, zrw mi 439 (cpT (mi 439) (mi 424) 0 24), ml)
  | r, t, 0, _, h => absurd h (by omega)
  | 0, t, f + 1, h1, _ => by
    have : t = 24 := by omega
    subst this
    show fb_X12_days_76 n (zlp3 (fb_X12_days_76 n) f) 422 x (nI 24) _ = _
    generalize zlp3 (fb_X12_days_76 n) f = K
    unfold fb_X12_days_76
    simp only [li]
    rw [iLe1 (by omega) (by omega) (by omega)]
  | r + 1, t, f + 1, h1, h2 => by
    have ih := r_d76 hs (x := x) r (t + 1) f (by omega) (by omega)
    rw [← ih]
    show fb_X12_days_76 n (zlp3 (fb_X12_days_76 n) f) 422 x (nI t) _ = _
    generalize zlp3 (fb_X12_days_76 n) f = K
    unfold fb_X12_days_76
    simp only [li]
    have e := cpT_u (A := mi 424) (R := mi 439) (o := 0) (t := t) (x := mi 424 t) rfl
    rw [Nat.zero_add] at e
    rw [iLe0 (by omega) (by omega) (by omega), S_gR422_40 hs, S_gR422_2 hs, nI_add, Nat.zero_add, S_aI424 hs (by omega), zrw_a (by decide), S_eI439 hs (by omega), ur_s, nI_add, e]
end
