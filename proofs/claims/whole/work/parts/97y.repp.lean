/-! orders: the plain form, one repetition of a clause -/
def FPo (M M' : Nat → Nat → Int32) : Prop := (∀ a, a ≠ 422 → a ≠ 424 → a ≠ 427 → a ≠ 434 → a ≠ 435 → M' a = M a) ∧ (∀ k, (k < 22 ∨ (28 < k ∧ k < 31) ∨ k = 32 ∨ k = 33 ∨ 38 < k) → M' 422 k = M 422 k) ∧ (∀ j, j < 382 → M' 427 j = M 427 j) ∧ ∀ k, 191 ≤ k → M' 424 k = M 424 k
theorem FPo_r (M : Nat → Nat → Int32) : FPo M M := ⟨fun _ _ _ _ _ _ => rfl, fun _ _ => rfl, fun _ _ => rfl, fun _ _ => rfl⟩
theorem FPo_t {M M' M'' : Nat → Nat → Int32} (h : FPo M M') (h' : FPo M' M'') : FPo M M'' := ⟨fun a a1 a2 a3 a4 a5 => (h'.1 a a1 a2 a3 a4 a5).trans (h.1 a a1 a2 a3 a4 a5), fun k hk => (h'.2.1 k hk).trans (h.2.1 k hk), fun j hj => (h'.2.2.1 j hj).trans (h.2.2.1 j hj), fun k hk => (h'.2.2.2 k hk).trans (h.2.2.2 k hk)⟩
section
variable {g : zS} {ml : Nat → Nat → Int64} {n T : Nat} {D V : Nat → Nat} {v : Nat → Int32} {m d : Nat} {H : Nat → Nat → Int32} {lt : Int32}
theorem p_ob (hs : Sy g) (hn : 6000 < n) {N : Nat → Nat → Int32} (hv : N 424 = v) (hH : HR N m H) (hm : m ≤ 16) {Di kd : Nat} (h36 : N 422 36 = nI Di) (hkd : kd = if Di = 20 then 0 else Di - 21) (h20 : 20 ≤ Di) (h28 : Di ≤ 28) (h21 : Di ≠ 21) {a b : Int32} (ha : kd < 7 → sa a (sml (ml 438 0))) (hb : kd = 0 → sa b (sml (ml 438 1))) {r : Int32} {v' : Nat → Int32} (hv3 : ∀ k, 191 ≤ k → v' k = v k) (hY : ∀ M ml, ∃ M', f_X12_acts n 422 (nI kd) a b (g, zrw M 424 v, ml) = some (r, (g, zrw M' 424 v', ml)) ∧ FM M M') (hr : r < nI 0 ∨ ∃ j, j < 2147483648 ∧ r = nI j) : ∃ M', f_X12_obeys n 422 (g, N, ml) = some (r, (g, M', ml)) ∧ FPo N M' ∧ (¬ r < nI 0 → M' 424 = v' ∧ HR M' (pM m) (pH m H v kd) ∧ M' 422 28 = r) ∧ M' 422 27 = N 422 27 ∧ M' 422 34 = N 422 34 := by
  have hk8 : kd < 8 := by
    rw [hkd]
    split <;> omega
  have hY' : ∀ M ml1, ∃ M', f_X12_acts n 422 (nI kd) (sml (ml 438 0)) (sml (ml 438 1)) (g, zrw M 424 v, ml1) = some (r, (g, zrw M' 424 v', ml1)) ∧ FM M M' := fun M ml1 => by
    obtain ⟨M', a1, a2⟩ := hY M ml1
    exact ⟨M', by rw [acts_sm hs hk8 ha hb]; exact a1, a2⟩
  obtain ⟨M1, a1, a2, a3, a4, a5, a6, a7⟩ := r_act (ml := ml) (mi := N) hs hn hm hv hH hY' hr
  have key : ∃ M', fb_X12_obeys_22 n 422 (nI kd) (g, N, ml) = some (r, (g, M', ml)) ∧ FPo N M' ∧ (¬ r < nI 0 → M' 424 = v' ∧ HR M' (pM m) (pH m H v kd) ∧ M' 422 28 = r) ∧ M' 422 27 = N 422 27 ∧ M' 422 34 = N 422 34 := by
    have Fr : ∀ x, FPo N (zu M1 422 28 x) := fun x => by
      refine ⟨fun a b1 b2 b3 b4 b5 => by rw [zu_a b1, a5 a b1 b2 b3 b4 b5], fun k hk => by rw [zu_k (by omega), a6 k (by omega) (by omega)], fun j hj => by rw [zu_a (by decide), a7 j hj], fun k hk => by rw [zu_a (by decide), a2, hv, hv3 k hk]⟩
    have E27 : ∀ x, zu M1 422 28 x 422 27 = N 422 27 := fun x => by rw [zu_k (by decide), a6 27 (by decide) (by decide)]
    have E34 : ∀ x, zu M1 422 28 x 422 34 = N 422 34 := fun x => by rw [zu_k (by decide), a6 34 (by decide) (by decide)]
    rcases hr with hr | ⟨j, hj, hr⟩
    · refine ⟨zu M1 422 28 (M1 422 28), ?_, Fr _, fun q => absurd hr q, E27 _, E34 _⟩
      unfold fb_X12_obeys_22
      simp only [li]
      rw [S_gR422_39 hs, S_aL438 hs (by decide), r_small, zb_s, S_gR422_39 hs, S_aL438 hs (by decide), r_small, zb_s, S_ck422 hs, a1, zb_s, iN (fun q => by rw [Int32.lt_iff_toInt_lt] at hr; rw [Int32.le_iff_toInt_le] at q; omega), S_gI422 hs, S_pI422 hs]
    · subst hr
      have hnl : ¬ nI j < nI 0 := by rw [nLt hj (by omega)]; omega
      refine ⟨zu M1 422 28 (nI j), ?_, Fr _, fun q => ⟨by rw [zu_a (by decide)]; exact a2, HR_c (a4 q) (zu_k (by decide)) (zu_a (by decide)), zu_s _ _ _ _⟩, E27 _, E34 _⟩
      unfold fb_X12_obeys_22
      simp only [li]
      rw [S_gR422_39 hs, S_aL438 hs (by decide), r_small, zb_s, S_gR422_39 hs, S_aL438 hs (by decide), r_small, zb_s, S_ck422 hs, a1, zb_s, iLe1 (by omega) (by omega) (by omega), S_pI422 hs]
  obtain ⟨M', k1, k2⟩ := key
  refine ⟨M', ?_, k2⟩
  rw [← k1]
  unfold f_X12_obeys
  simp only [li]
  rw [S_gI422 hs, h36]
  by_cases q : Di = 20
  · rw [if_pos q] at hkd
    rw [iEq1 q, hkd]
  · rw [if_neg q] at hkd
    rw [iEq0 (by omega) (by omega) q, S_gI422 hs, h36, nI_sub (by omega), nI_add]
    have : Di - 22 + 1 = kd := by omega
    rw [this]
/-- the plain form goes along a clause -/
theorem p_go (hs : Sy g) (hn : 3000 < n) {M : Nat → Nat → Int32} (hv : M 424 = v) (hW : LWr v 6 T D V) {l lw lc : List Nat} (hC : CIr v l lw lc) (hPI : PIr v) {F : Nat → Int32} (hF : ∀ k, k < 113 → F k = oe v (nI d) lt l k) (h27 : M 422 27 = nI d) (h28 : M 422 28 = lt) {i p Lc j p' : Nat} {c : List (Nat × Nat)} {x : Ci} (hi : i ≤ T) (hp : p ≤ 50) (hc : pCl true D V i p Lc = .ok (j, p', c, x)) (h34 : M 422 34 = nI (2400 + i)) {lv : Int32} (hl : lv = nI 0 ∨ lv = nI 1) : ∃ N ml', f_X12_goesAlong n 422 (nI (2400 + T)) lv (g, M, ml) = some ((), (g, N, ml')) ∧ FO M N ∧ (N 422 22 = nI (2400 + (j + 1)) ∧ N 422 35 = nI x.2.2.2.1 ∧ N 422 36 = nI (D i)) ∧ (x.1 = (if D i = 20 then 0 else D i - 21) ∧ 20 ≤ D i ∧ D i ≤ 28 ∧ D i ≠ 21) ∧ (((∀ f, x.2.1 = some f → BDf f) ∧ ∀ f, x.2.2.1 = some f → BDf f) ∧ (x.1 < 7 → ∃ f, x.2.1 = some f) ∧ (x.1 = 0 → ∃ f, x.2.2.1 = some f)) ∧ (lv = nI 1 → N 422 38 = (if tsq F x.2.2.2.2 = true then nI 1 else nI 0) ∧ N 422 37 = (if (sOk F x.2.1 && sOk F x.2.2.1) = true then nI 1 else nI 0) ∧ ((sOk F x.2.1 && sOk F x.2.2.1) = true → (∀ f, x.2.1 = some f → f.2 F = some (ml' 438 0)) ∧ ∀ f, x.2.2.1 = some f → f.2 F = some (ml' 438 1))) := by
  obtain ⟨⟨w1, w2⟩, w3, w4, w5⟩ := id hW
  obtain ⟨j1, p1, c1, e1, e2, e3⟩ := cl_f w4 hi hp hc
  have hE : ∀ M : Nat → Nat → Int32, M 422 23 = nI (2400 + T) → EV M v 2400 T D V := fun M h => ⟨⟨h, by omega, w2⟩, fun k hk => w3 k hk, w4, w5⟩
  have hO : ∀ M : Nat → Nat → Int32, M 422 25 = nI 1 → M 422 27 = nI d → M 422 28 = lt → EO true n g M v F := fun M a1 a2 a3 => r_ov hs hn hC hPI a1 a2 a3 hF
  obtain ⟨M', ml', b1, b2, b3, b4, b5, b6⟩ := a_hd (M := M) (ml := ml) (lv := lv) hs hn hE hO w4 hi hp e1 e2 e3 hl h34 h27 h28
  have eM : zrw M 424 v = M := by rw [← hv, u_self]
  have eM' : zrw M' 424 v = M' := by rw [← hv, ← b2.1 424 (by decide), u_self]
  rw [eM, eM'] at b1
  exact ⟨M', ml', b1, b2, b4, b5, hd_f e1, b6⟩
theorem FO_P {M N : Nat → Nat → Int32} (h : FO M N) : FPo M N := ⟨fun a a1 _ _ _ _ => h.1 a a1, fun k hk => h.2 k (by omega), fun j _ => by rw [h.1 427 (by decide)], fun k _ => by rw [h.1 424 (by decide)]⟩
theorem FO_OP {M N : Nat → Nat → Int32} (h : FO M N) (hP : OP M v m H d lt) : OP N v m H d lt := ⟨by rw [h.1 424 (by decide)]; exact hP.1, HR_c hP.2.1 (h.2 31 (by decide)) (h.1 435 (by decide)), by rw [h.2 27 (by decide)]; exact hP.2.2.1, by rw [h.2 28 (by decide)]; exact hP.2.2.2⟩
/-- one repetition -/
theorem p_rep (hs : Sy g) (hn : 6000 < n) {M : Nat → Nat → Int32} (hP : OP M v m H d lt) (hm : m ≤ 16) (hW : LWr v 6 T D V) {l lw lc : List Nat} (hC : CIr v l lw lc) (hPI : PIr v) {F : Nat → Int32} (hF : ∀ k, k < 113 → F k = oe v (nI d) lt l k) {i p Lc j p' : Nat} {c : List (Nat × Nat)} {x : Ci} (hi : i ≤ T) (hp : p ≤ 50) (hc : pCl true D V i p Lc = .ok (j, p', c, x)) (h34 : M 422 34 = nI (2400 + i)) {t tm : Nat} (ht : t < tm) (htm : tm ≤ 20) {K : Nat → Int32 → Int32 → Int32 → Int32 → zH → Option (Int32 × zH)} {l3 : Int32} : (tsq F x.2.2.2.2 = false → ∃ M' ml', fb_X12_runs_19 n K 422 (nI (2400 + T)) (nI tm) l3 (nI t) (g, M, ml) = K 422 (nI (2400 + T)) (nI tm) l3 (nI (t + 1)) (g, M', ml') ∧ FPo M M' ∧ M' 422 34 = M 422 34 ∧ OP M' v m H d lt) ∧ (tsq F x.2.2.2.2 = true → (sOk F x.2.1 && sOk F x.2.2.1) = false → ∃ M' ml', fb_X12_runs_19 n K 422 (nI (2400 + T)) (nI tm) l3 (nI t) (g, M, ml) = some (nI 0, (g, M', ml')) ∧ FPo M M') ∧ (tsq F x.2.2.2.2 = true → (sOk F x.2.1 && sOk F x.2.2.1) = true → ∀ y1 y2, (∀ f, x.2.1 = some f → f.2 F = some y1) → (∀ f, x.2.2.1 = some f → f.2 F = some y2) → ∀ r v', (∀ k, 191 ≤ k → v' k = v k) → (∀ M ml, ∃ M', f_X12_acts n 422 (nI x.1) (Int64.toInt32 y1) (Int64.toInt32 y2) (g, zrw M 424 v, ml) = some (r, (g, zrw M' 424 v', ml)) ∧ FM M M') → (r < nI 0 → ∃ M' ml', fb_X12_runs_19 n K 422 (nI (2400 + T)) (nI tm) l3 (nI t) (g, M, ml) = some (nI 0, (g, M', ml')) ∧ FPo M M') ∧ (∀ a, a < 2147483648 → r = nI a → ∃ M' ml', fb_X12_runs_19 n K 422 (nI (2400 + T)) (nI tm) l3 (nI t) (g, M, ml) = K 422 (nI (2400 + T)) (nI tm) l3 (nI (t + 1)) (g, M', ml') ∧ FPo M M' ∧ M' 422 34 = M 422 34 ∧ OP M' v' (pM m) (pH m H v x.1) (d + 1) (nI a))) := by
  obtain ⟨N, ml1, a1, a2, ⟨a3, a4, a5⟩, ⟨a6, a7, a8, a9⟩, ⟨⟨a10, a11⟩, a12, a13⟩, a14⟩ := p_go (ml := ml) (n := n) hs (by omega) hP.1 hW hC hPI hF hP.2.2.1 hP.2.2.2 hi hp hc h34 (Or.inr rfl)
  obtain ⟨b1, b2, b3⟩ := a14 rfl
  have hN := FO_OP a2 hP
  refine ⟨fun q => ?_, fun q q2 => ?_, fun q q2 y1 y2 hy1 hy2 r v' hv3 hY => ?_⟩
  · rw [q, iN (by decide)] at b1
    refine ⟨N, ml1, ?_, FO_P a2, a2.2 34 (by decide), hN⟩
    unfold fb_X12_runs_19 fb_X12_runs_67
    simp only [li]
    rw [iLe0 (by omega) (by omega) ht, S_ck422 hs, a1, zb_s, S_gI422 hs, b1, iP rfl, nI_add]
  · rw [q, iP rfl] at b1
    rw [q2, iN (by decide)] at b2
    refine ⟨N, ml1, ?_, FO_P a2⟩
    unfold fb_X12_runs_19
    simp only [li]
    rw [iLe0 (by omega) (by omega) ht, S_ck422 hs, a1, zb_s, S_gI422 hs, b1, iN n01.symm, S_gI422 hs, b2, iP rfl]
  · rw [q, iP rfl] at b1
    rw [q2, iP rfl] at b2
    obtain ⟨c1, c2⟩ := b3 q2
    have ha : x.1 < 7 → sa (Int64.toInt32 y1) (sml (ml1 438 0)) := fun h => by
      obtain ⟨f, hf⟩ := a12 h
      have e1 := hy1 f hf
      have e2 := c1 f hf
      rw [e1] at e2
      cases e2
      exact sa_y (a10 f hf _ _ e1)
    have hb : x.1 = 0 → sa (Int64.toInt32 y2) (sml (ml1 438 1)) := fun h => by
      obtain ⟨f, hf⟩ := a13 h
      have e1 := hy2 f hf
      have e2 := c2 f hf
      rw [e1] at e2
      cases e2
      exact sa_y (a11 f hf _ _ e1)
    refine ⟨fun hr => ?_, fun a hj hr => ?_⟩
    · obtain ⟨M', d1, d2, -⟩ := p_ob (ml := ml1) hs hn hN.1 hN.2.1 hm a5 a6 a7 a8 a9 ha hb hv3 hY (Or.inl hr)
      refine ⟨M', ml1, ?_, FPo_t (FO_P a2) d2⟩
      unfold fb_X12_runs_19
      simp only [li]
      rw [iLe0 (by omega) (by omega) ht, S_ck422 hs, a1, zb_s, S_gI422 hs, b1, iN n01.symm, S_gI422 hs, b2, iN n01.symm, S_ck422 hs, d1, zb_s, iN (fun q => by rw [Int32.lt_iff_toInt_lt] at hr; rw [Int32.le_iff_toInt_le] at q; omega)]
    · obtain ⟨M', d1, d2, d3, d4, d5⟩ := p_ob (ml := ml1) hs hn hN.1 hN.2.1 hm a5 a6 a7 a8 a9 ha hb hv3 hY (Or.inr ⟨a, hj, hr⟩)
      subst hr
      obtain ⟨e1, e2, e3⟩ := d3 (by rw [nLt hj (by omega)]; omega)
      have e27 : M' 422 27 = nI d := by rw [d4]; exact hN.2.2.1
      refine ⟨zu M' 422 27 (nI (d + 1)), ml1, ?_, ?_, ?_, ?_⟩
      · unfold fb_X12_runs_19 fb_X12_runs_67
        simp only [li]
        rw [iLe0 (by omega) (by omega) ht, S_ck422 hs, a1, zb_s, S_gI422 hs, b1, iN n01.symm, S_gI422 hs, b2, iN n01.symm, S_ck422 hs, d1, zb_s, iLe1 (by omega) (by omega) (by omega), S_gI422 hs, e27, nI_add, S_pI422 hs, nI_add]
      · refine FPo_t (FPo_t (FO_P a2) d2) ⟨fun y y1 _ _ _ _ => zu_a y1, fun k hk => zu_k (by omega), fun _ _ => by rw [zu_a (by decide)], fun _ _ => by rw [zu_a (by decide)]⟩
      · rw [zu_k (by decide), d5, a2.2 34 (by decide)]
      · exact ⟨by rw [zu_a (by decide)]; exact e1, HR_c e2 (zu_k (by decide)) (zu_a (by decide)), zu_s _ _ _ _, by rw [zu_k (by decide)]; exact e3⟩
end
