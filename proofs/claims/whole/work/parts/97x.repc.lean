/-! orders: the Java side, one repetition of a clause, its act -/
def FCo (mi mi' : Nat → Nat → Int32) : Prop := (∀ a, (11 < a ∧ a < 23) ∨ (23 < a ∧ a < 30) ∨ a = 31 ∨ 203 ≤ a → mi' a = mi a) ∧ ∀ k, k ≠ 17 → k ≠ 18 → mi' 1 k = mi 1 k
theorem FCo_r (mi : Nat → Nat → Int32) : FCo mi mi := ⟨fun _ _ => rfl, fun _ _ _ => rfl⟩
theorem FCo_t {m m' m'' : Nat → Nat → Int32} (h : FCo m m') (h' : FCo m' m'') : FCo m m'' := ⟨fun a ha => (h'.1 a ha).trans (h.1 a ha), fun k k1 k2 => (h'.2 k k1 k2).trans (h.2 k k1 k2)⟩
theorem FCo_23 {mi : Nat → Nat → Int32} {F : Nat → Int32} : FCo mi (zrw mi 23 F) := ⟨fun a ha => zrw_a (by omega), fun k _ _ => by rw [zrw_a (by decide)]⟩
/-- the Java side while it runs orders -/
def OC (g : zS) (mi : Nat → Nat → Int32) (ln : Nat) (D V : Nat → Nat) (T : Nat) (L : List Ci) (v : Nat → Int32) (m : Nat) (H : Nat → Nat → Int32) (f d : Nat) (lt : Int32) : Prop := LWx g mi 411 412 413 414 ln true D V T L ∧ WR mi 2 v ∧ HC mi f m H ∧ RU g mi 25 26 v ∧ mi 1 17 = nI d ∧ mi 1 18 = lt
def OG (B : Nat) (v : Nat → Int32) (m : Nat) (H : Nat → Nat → Int32) : Prop := WI v ∧ (∃ e, e ≤ B ∧ Ed v e) ∧ HV B m H
/-- the plain form while it runs orders -/
def OP (M : Nat → Nat → Int32) (v : Nat → Int32) (m : Nat) (H : Nat → Nat → Int32) (d : Nat) (lt : Int32) : Prop := M 424 = v ∧ HR M m H ∧ M 422 27 = nI d ∧ M 422 28 = lt
theorem OG_w {B B' : Nat} {v : Nat → Int32} {m : Nat} {H : Nat → Nat → Int32} (h : OG B v m H) (hB : B ≤ B') : OG B' v m H := by
  obtain ⟨h1, ⟨e, h2, h3⟩, h4⟩ := h
  exact ⟨h1, ⟨e, by omega, h3⟩, HV_w h4 hB⟩
section
variable {g : zS} {mi : Nat → Nat → Int32} {ml : Nat → Nat → Int64} {n ln T B : Nat} {D V : Nat → Nat} {L : List Ci} {v : Nat → Int32} {m f d : Nat} {H : Nat → Nat → Int32} {lt : Int32}
theorem OC_23 {F : Nat → Int32} (h : OC g mi ln D V T L v m H f d lt) : OC g (zrw mi 23 F) ln D V T L v m H f d lt := by
  obtain ⟨h1, h2, h3, h4, h5, h6⟩ := h
  refine ⟨LWx_23 h1 (by decide) (by decide) (by decide) (by decide), FC_23w (Or.inl rfl) h2, HC_c h3 (zrw_a (by decide)) (zrw_a (by decide)) (fun i hi a q1 q2 => zrw_a (by omega)), RU_c h4 (fun _ _ _ => rfl) (zrw_a (by decide)) (fun a q1 q2 => zrw_a (by omega)), by rw [zrw_a (by decide)]; exact h5, by rw [zrw_a (by decide)]; exact h6⟩
/-- the act on both sides: the Java side from this state, the plain form from any -/
theorem o_act (hs : Sy g) (hn : 6000 < n) (h : OC g mi ln D V T L v m H f d lt) (hG : OG B v m H) (hB : B < 2000000000) {kd : Nat} (hk : kd < 8) (a b : Int32) {k18 : Nat → Nat → Int32 → Int32 → Int32 → Int32 → zH → Option (Int32 × zH)} {i tm : Int32} {t : Nat} :
    ∃ r v', (∀ k, 191 ≤ k → v' k = v k) ∧ (∀ M ml, ∃ M', f_X12_acts n 422 (nI kd) a b (g, zrw M 424 v, ml) = some (r, (g, zrw M' 424 v', ml)) ∧ FM M M') ∧ ((r < nI 0 ∧ ∃ mi' ml', oRest n k18 i tm (nI kd) (nI t) a b (g, mi, ml) = some (nI 0, (g, mi', ml')) ∧ FCo mi mi') ∨ ∃ j, j < 2147483648 ∧ r = nI j ∧ OG (B + 9) v' (pM m) (pH m H v kd) ∧ ∃ mi' ml' f', oRest n k18 i tm (nI kd) (nI t) a b (g, mi, ml) = k18 1 411 i tm (nI kd) (nI (t + 1)) (g, mi', ml') ∧ FCo mi mi' ∧ OC g mi' ln D V T L v' (pM m) (pH m H v kd) f' (d + 1) (nI j)) := by
  obtain ⟨h1, h2, h3, h4, h5, h6⟩ := h
  obtain ⟨hWI, ⟨e, he1, he2⟩, hV⟩ := hG
  obtain ⟨mi1, p1, p2, p3, p4⟩ := c_prep2 (ml := ml) (n := n) hs h3 h2 (WI_r hWI)
  have hR1 : WR mi1 2 v := WR_cong h2 (fun a h1 h2 => p4 a (by omega))
  have hU1 : RU g mi1 25 26 v := RU_c h4 (fun _ _ _ => rfl) (p4 25 (by omega)) (fun a h1 _ => p4 a (by omega))
  obtain ⟨KO, BO, o1, o2⟩ := orac (n := n) (w := 2) hs (by omega) w2c (Or.inl rfl) hU1
  obtain ⟨r, v', s1, s2, s3, s4, s5⟩ := act_sim hs w2c (Or.inl rfl) (by omega) o1 o2 (fun _ _ => rfl) hWI hk a b
  obtain ⟨e', t1, t2, t3⟩ := Ra_r s1 he2 (by omega)
  obtain ⟨mi2, ml2, q1, q2, q3⟩ := s5 mi1 ml (fun _ _ _ => rfl) hR1
  have G2 : ∀ x, (11 < x ∧ x ≠ 23 ∧ (x < 33 ∨ 203 ≤ x)) → mi2 x = mi x := fun x hx => by rw [q3 x hx.2.1 (by omega), p4 x (by omega)]
  have G21 : mi2 1 = mi 1 := by rw [q3 1 (by decide) (by decide), p4 1 (by decide)]
  have hs17 := slt_lt f m
  have hC2 : HC mi2 f m H := HC_c p3 (q3 30 (by decide) (by decide)) (q3 32 (by decide) (by decide)) (fun i hi x x1 x2 => q3 x (by omega) (by omega))
  have hW2 : WR mi2 (33 + 10 * slt f m) v := WR_cong p2 (fun x x1 x2 => q3 x (by omega) (by omega))
  have F2 : FCo mi mi2 := ⟨fun x hx => G2 x (by omega), fun k _ _ => by rw [G21]⟩
  refine ⟨r, v', s3, s4, ?_⟩
  rcases t3 with ⟨t3, t4⟩ | ⟨j, hj, t3⟩
  · refine Or.inl ⟨t4, mi2, ml2, ?_, F2⟩
    unfold oRest
    simp only [li]
    rw [S_ck30 hs, p1, zb_s, S_gR1_0 hs, S_gR1_3 hs, W_ck hs w2c, q1, zb_s, iN (fun q => by rw [Int32.lt_iff_toInt_lt] at t4; rw [Int32.le_iff_toInt_le] at q; omega)]
  · subst t3
    obtain ⟨mi3, f', c1, c2, c3⟩ := c_push (ml := ml2) (n := n) (k := kd) hs hC2 hW2
    refine Or.inr ⟨j, hj, rfl, ⟨s2, ⟨e', by omega, t2⟩, HV_p (HV_w hV (by omega)) hWI ⟨e, by omega, he2⟩ (by omega) h3.1.2.1⟩, zu (zu mi3 1 17 (nI (d + 1))) 1 18 (nI j), ml2, f', ?_, ?_, ?_⟩
    · have e17 : mi3 1 17 = nI d := by rw [c3 1 (by decide) (by decide), G21]; exact h5
      unfold oRest fb_X11_runClause_180
      simp only [li]
      rw [S_ck30 hs, p1, zb_s, S_gR1_0 hs, S_gR1_3 hs, W_ck hs w2c, q1, zb_s, iLe1 (by omega) (by omega) (by omega), S_gR1_5 hs, S_ck30 hs, c1, zb_s, S_gI1 hs, e17, nI_add, S_pI1 hs, S_pI1 hs, nI_add]
    · refine ⟨fun x hx => ?_, fun k k1 k2 => ?_⟩
      · rw [zu_a (by omega), zu_a (by omega), c3 x (by omega) (by omega), G2 x (by omega)]
      · rw [zu_k k2, zu_k k1, c3 1 (by decide) (by decide), G21]
    · have N : ∀ x, x ≠ 1 → x ≠ 30 → x ≠ 32 → zu (zu mi3 1 17 (nI (d + 1))) 1 18 (nI j) x = mi2 x := fun x x1 x2 x3 => by rw [zu_a x1, zu_a x1, c3 x x2 x3]
      have N2 : ∀ x, (11 < x ∧ x ≠ 23 ∧ x ≠ 30 ∧ x ≠ 32 ∧ (x < 33 ∨ 203 ≤ x)) → zu (zu mi3 1 17 (nI (d + 1))) 1 18 (nI j) x = mi x := fun x hx => by rw [N x (by omega) (by omega) (by omega), G2 x (by omega)]
      refine ⟨LWx_c h1 (N2 411 (by decide)) (N2 412 (by decide)) (N2 413 (by decide)) (N2 414 (by decide)) ⟨rfl, rfl⟩ ⟨rfl, rfl⟩ ⟨rfl, rfl⟩ ⟨rfl, rfl⟩, WR_cong q2 (fun x x1 x2 => N x (by omega) (by omega) (by omega)), HC_c c2 ?_ ?_ (fun i hi x x1 x2 => ?_), RU_c h4 (fun k hk _ => s3 k (by omega)) (N2 25 (by decide)) (fun x x1 x2 => N2 x (by omega)), by rw [zu_k (by decide), zu_s], zu_s _ _ _ _⟩
      · rw [zu_a (by decide), zu_a (by decide)]
      · rw [zu_a (by decide), zu_a (by decide)]
      · rw [zu_a (by omega), zu_a (by omega)]
end
