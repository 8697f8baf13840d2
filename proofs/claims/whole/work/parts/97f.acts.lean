/-! acts as calls -/
def HC (mi : Nat → Nat → Int32) (f m : Nat) (H : Nat → Nat → Int32) : Prop := (f < 17 ∧ m ≤ 16 ∧ mi 30 2 = nI f ∧ mi 30 3 = nI m) ∧ ∀ i, i < m → WR mi (33 + 10 * slt f i) (H i) ∧ mi 32 (slt f i) = H i 191
def HR (mi : Nat → Nat → Int32) (m : Nat) (H : Nat → Nat → Int32) : Prop := mi 422 31 = nI m ∧ ∀ i t, i < m → t < 192 → mi 435 (192 * i + t) = H i t
def HV (B m : Nat) (H : Nat → Nat → Int32) : Prop := ∀ i, i < m → WI (H i) ∧ (∃ e, e ≤ B ∧ Ed (H i) e) ∧ ∃ k, k < 9 ∧ H i 191 = nI k
def pM (m : Nat) : Nat := if m = 16 then 16 else m + 1
def pL (m : Nat) : Nat := if m = 16 then 15 else m
def pH (m : Nat) (H : Nat → Nat → Int32) (v : Nat → Int32) (k : Nat) : Nat → Nat → Int32 := fun i t => if i < pL m then H (if m = 16 then i + 1 else i) t else if t < 191 then v t else nI k
theorem Ed_c {v v' : Nat → Int32} {e : Nat} (h : Ed v e) (q : ∀ k, k < 191 → v' k = v k) : Ed v' e := by
  unfold Ed at h ⊢
  rw [q 129 (by decide), q 130 (by decide), q 190 (by decide)]; exact h
theorem HI_of {B : Nat} {mi : Nat → Nat → Int32} {f m : Nat} {H : Nat → Nat → Int32} (h1 : HC mi f m H) (h2 : HR mi m H) (h3 : HV B m H) : HI B mi := by
  refine ⟨f, m, h1.1, h2.1, fun i hi => ?_⟩
  obtain ⟨a1, a2⟩ := h1.2 i hi
  obtain ⟨b1, ⟨e, b2, b3⟩, b4⟩ := h3 i hi
  have E : ∀ t, t < 192 → hrow mi i t = H i t := fun t ht => h2.2 i t hi ht
  have e191 : mi 435 (192 * i + 191) = H i 191 := E 191 (by decide)
  refine ⟨⟨WR_congv a1 (fun t ht => E t (by omega)), WI_c b1 (fun t ht => E t (by omega)), e, b2, Ed_c b3 (fun t ht => E t (by omega))⟩, ?_, ?_⟩
  · rw [e191]; exact a2
  · rw [e191]; exact b4
theorem HI_to {B : Nat} {mi : Nat → Nat → Int32} (h : HI B mi) : ∃ f m H, HC mi f m H ∧ HR mi m H ∧ HV B m H := by
  obtain ⟨f, m, h1, h2, h3⟩ := h
  refine ⟨f, m, fun i => hrow mi i, ⟨h1, fun i hi => ⟨(h3 i hi).1.1, (h3 i hi).2.1⟩⟩, ⟨h2, fun i t _ _ => rfl⟩, fun i hi => ⟨(h3 i hi).1.2.1, (h3 i hi).1.2.2, (h3 i hi).2.2⟩⟩
theorem HC_c {mi mi' : Nat → Nat → Int32} {f m : Nat} {H : Nat → Nat → Int32} (h : HC mi f m H) (e1 : mi' 30 = mi 30) (e2 : mi' 32 = mi 32) (e3 : ∀ i, i < m → ∀ a, 33 + 10 * slt f i ≤ a → a < 33 + 10 * slt f i + 10 → mi' a = mi a) : HC mi' f m H := by
  refine ⟨by rw [e1]; exact h.1, fun i hi => ?_⟩
  rw [e2]
  exact ⟨WR_cong (h.2 i hi).1 (e3 i hi), (h.2 i hi).2⟩
theorem HR_c {mi mi' : Nat → Nat → Int32} {m : Nat} {H : Nat → Nat → Int32} (h : HR mi m H) (e1 : mi' 422 31 = mi 422 31) (e2 : mi' 435 = mi 435) : HR mi' m H := by
  unfold HR at h ⊢
  rw [e1, e2]; exact h
theorem HV_w {B B' m : Nat} {H : Nat → Nat → Int32} (h : HV B m H) (hB : B ≤ B') : HV B' m H := fun i hi => by
  obtain ⟨a, ⟨e, b1, b2⟩, d⟩ := h i hi
  exact ⟨a, ⟨e, by omega, b2⟩, d⟩
theorem HV_p {B m k : Nat} {H : Nat → Nat → Int32} {v : Nat → Int32} (h : HV B m H) (hv : WI v) (he : ∃ e, e ≤ B ∧ Ed v e) (hk : k < 9) (hm : m ≤ 16) : HV B (pM m) (pH m H v k) := by
  intro i hi
  unfold pM at hi
  unfold pH pL
  by_cases q : i < (if m = 16 then 15 else m)
  · simp only [q, if_T]
    refine h _ ?_
    by_cases z : m = 16
    · rw [if_pos z] at q ⊢; omega
    · rw [if_neg z] at q ⊢; exact q
  · simp only [q, if_F]
    obtain ⟨e, e1, e2⟩ := he
    refine ⟨WI_c hv (fun t ht => if_pos (by omega)), ⟨e, e1, Ed_c e2 (fun t ht => if_pos ht)⟩, k, hk, if_neg (by decide)⟩
section
variable {B c : Nat} {g : zS} {mi : Nat → Nat → Int32} {v : Nat → Int32} {ml : Nat → Nat → Int64} {n : Nat}
/-- the Java side: an act is prepared -/
theorem c_prep2 (hs : Sy g) {f m : Nat} {H : Nat → Nat → Int32} (hH : HC mi f m H) (hR : WR mi 2 v) (hI : v 129 = nI 0 ∨ v 129 = nI 1) : ∃ mi', f_X2_prepare n 30 2 (g, mi, ml) = some ((), (g, mi', ml)) ∧ WR mi' (33 + 10 * slt f m) v ∧ HC mi' f m H ∧ ∀ a, (a < 33 ∨ 203 ≤ a) → mi' a = mi a := by
  obtain ⟨⟨h1, h2, h3, h4⟩, h5⟩ := id hH
  obtain ⟨mi', a1, a2, a3⟩ := c_prep (ml := ml) (n := n) hs h1 h2 h3 h4 hR hI
  have hs17 := slt_lt f m
  refine ⟨mi', a1, a2, HC_c hH (a3 30 (by omega)) (a3 32 (by omega)) (fun i hi a q1 q2 => a3 a ?_), fun a ha => a3 a (by omega)⟩
  have := slt_ne h1 hi (by omega)
  omega
/-- the Java side: an act is kept -/
theorem c_push (hs : Sy g) {f m k : Nat} {H : Nat → Nat → Int32} (hH : HC mi f m H) (hW : WR mi (33 + 10 * slt f m) v) : ∃ mi' f', f_X2_commit n 30 (nI k) (g, mi, ml) = some ((), (g, mi', ml)) ∧ HC mi' f' (pM m) (pH m H v k) ∧ ∀ a, a ≠ 30 → a ≠ 32 → mi' a = mi a := by
  obtain ⟨⟨h1, h2, h3, h4⟩, h5⟩ := id hH
  have hs17 := slt_lt f m
  have e := c_commit (ml := ml) (n := n) (k := k) hs h1 h2 h3 h4
  by_cases q : m = 16
  · subst q
    rw [if_pos rfl] at e
    refine ⟨_, slt f 1, e, ⟨⟨slt_lt _ _, by decide, zu_s _ _ _ _, by rw [zu_k (by decide), zu_a (by decide)]; exact h4⟩, fun i hi => ?_⟩, fun a ha1 ha2 => by rw [zu_a ha1, zu_a ha2]⟩
    have hsl : slt (slt f 1) i = slt f (i + 1) := by unfold slt; omega
    rw [hsl]
    have hi16 : i < 16 := hi
    have hsl2 := slt_lt f (i + 1)
    have Fr : ∀ a, 33 ≤ a → zu (zu mi 32 (slt f 16) (nI k)) 30 2 (nI (slt f 1)) a = mi a := fun a ha => by rw [zu_a (by omega), zu_a (by omega)]
    unfold pH pL
    by_cases z : i < 15
    · rw [if_pos rfl, if_pos rfl]
      simp only [z, if_T]
      obtain ⟨b1, b2⟩ := h5 (i + 1) (by omega)
      refine ⟨WR_cong b1 (fun a q1 _ => Fr a (by omega)), ?_⟩
      rw [zu_a (by decide), zu_k (slt_ne h1 (by omega) (by decide))]
      exact b2
    · have : i = 15 := by omega
      subst this
      rw [if_pos rfl]
      refine ⟨WR_congv (WR_cong hW (fun a q1 _ => Fr a (by omega))) (fun t ht => ?_), ?_⟩
      · rw [if_neg (by omega), if_pos ht]
      · rw [zu_a (by decide), zu_s, if_neg (by omega), if_neg (by omega)]
  · rw [if_neg q] at e
    have hpm : pM m = m + 1 := if_neg q
    refine ⟨_, f, e, ⟨⟨h1, by rw [hpm]; omega, by rw [zu_k (by decide), zu_a (by decide)]; exact h3, by rw [zu_s, hpm]⟩, fun i hi => ?_⟩, fun a ha1 ha2 => by rw [zu_a ha1, zu_a ha2]⟩
    rw [hpm] at hi
    have hsl2 := slt_lt f i
    have Fr : ∀ a, 33 ≤ a → zu (zu mi 32 (slt f m) (nI k)) 30 3 (nI (m + 1)) a = mi a := fun a ha => by rw [zu_a (by omega), zu_a (by omega)]
    unfold pH pL
    rw [if_neg q, if_neg q]
    by_cases z : i < m
    · simp only [z, if_T]
      obtain ⟨b1, b2⟩ := h5 i z
      refine ⟨WR_cong b1 (fun a q1 _ => Fr a (by omega)), ?_⟩
      rw [zu_a (by decide), zu_k (slt_ne h1 z (by omega))]
      exact b2
    · have : i = m := by omega
      subst this
      refine ⟨WR_congv (WR_cong hW (fun a q1 _ => Fr a (by omega))) (fun t ht => ?_), ?_⟩
      · rw [if_neg z, if_pos ht]
      · rw [zu_a (by decide), zu_s, if_neg z, if_neg (by omega)]
/-- the plain form: an act and what is kept of it -/
theorem r_act (hs : Sy g) (hn : 6000 < n) {m k : Nat} {H : Nat → Nat → Int32} {a b r : Int32} {v' : Nat → Int32} (hm : m ≤ 16) (hv : mi 424 = v) (hH : HR mi m H) (hY : ∀ M ml, ∃ M', f_X12_acts n 422 (nI k) a b (g, zrw M 424 v, ml) = some (r, (g, zrw M' 424 v', ml)) ∧ FM M M') (hr : r < nI 0 ∨ ∃ j, j < 2147483648 ∧ r = nI j) : ∃ M', f_X12_actsKept n 422 (nI k) a b (g, mi, ml) = some (r, (g, M', ml)) ∧ M' 424 = v' ∧ (r < nI 0 → HR M' m H) ∧ (¬ r < nI 0 → HR M' (pM m) (pH m H v k)) ∧ (∀ x, x ≠ 422 → x ≠ 424 → x ≠ 427 → x ≠ 434 → x ≠ 435 → M' x = mi x) ∧ (∀ j, (j < 22 ∨ 25 < j) → j ≠ 31 → M' 422 j = mi 422 j) ∧ ∀ j, j < 382 → M' 427 j = mi 427 j := by
  have e1 := r_laysAside (mi := mi) (ml := ml) (n := n) hs hn (k := 2) (by decide)
  have em : zrw (zrw mi 427 (cpT (mi 427) (mi 424) (191 * 2) 191)) 424 v = zrw mi 427 (cpT (mi 427) (mi 424) (191 * 2) 191) := by
    funext x
    by_cases q : x = 424
    · subst q; rw [zrw_eq, zrw_a (by decide), hv]
    · rw [zrw_a q]
  obtain ⟨M1, a1, a2⟩ := hY (zrw mi 427 (cpT (mi 427) (mi 424) (191 * 2) 191)) ml
  rw [em] at a1
  have F : ∀ x, x ≠ 422 → x ≠ 424 → x ≠ 427 → x ≠ 434 → zrw M1 424 v' x = mi x := fun x x1 x2 x3 x4 => by rw [zrw_a x2, a2.1 x x1 x2 x4, zrw_a x3]
  have F2 : ∀ j, (j < 22 ∨ 25 < j) → zrw M1 424 v' 422 j = mi 422 j := fun j hj => by rw [zrw_a (by decide), a2.2 j hj, zrw_a (by decide)]
  have A427 : ∀ t, t < 191 → zrw M1 424 v' 427 (382 + t) = v t := fun t ht => by
    rw [zrw_a (by decide), a2.1 427 (by decide) (by decide) (by decide), zrw_eq, ← hv]
    exact cpT_in ht
  have A7 : ∀ j, j < 382 → zrw M1 424 v' 427 j = mi 427 j := fun j hj => by
    rw [zrw_a (by decide), a2.1 427 (by decide) (by decide) (by decide), zrw_eq]
    exact cpT_out (by omega)
  have u : f_X12_actsKept n 422 (nI k) a b (g, mi, ml) = f_X12_keptOr n 422 (nI k) r (g, zrw M1 424 v', ml) := by
    unfold f_X12_actsKept
    simp only [li]
    rw [S_ck422 hs, e1, zb_s, S_ck422 hs, a1, zb_s, S_ck422 hs, zb_id]
  rw [u]
  rcases hr with hr | ⟨j, hj, hr⟩
  · refine ⟨_, r_keptN hs hr, zrw_eq, fun _ => HR_c hH (F2 31 (by decide)) (F 435 (by decide) (by decide) (by decide) (by decide)), fun z => absurd hr z, fun x x1 x2 x3 x4 _ => F x x1 x2 x3 x4, fun j hj _ => F2 j hj, A7⟩
  · subst hr
    obtain ⟨M', b1, b2, b3, b4, b5, b6, b7⟩ := r_keptOr (ml := ml) (k := k) (mi := zrw M1 424 v') hs hn hm hj (by rw [F2 31 (by decide)]; exact hH.1)
    refine ⟨M', b1, by rw [b2 424 (by decide) (by decide), zrw_eq], fun z => absurd z (by rw [nLt (by omega) (by omega)]; omega), fun _ => ⟨b4, fun i t hi ht => ?_⟩, fun x x1 x2 x3 x4 x5 => by rw [b2 x x1 x5]; exact F x x1 x2 x3 x4, fun j hj hj2 => by rw [b3 j hj2]; exact F2 j hj, fun j hj => by rw [b2 427 (by decide) (by decide)]; exact A7 j hj⟩
    unfold pM at hi
    unfold pH
    by_cases z : i < pL m
    · rw [if_pos z, b5 i t z ht, F 435 (by decide) (by decide) (by decide) (by decide)]
      refine hH.2 _ t ?_ ht
      unfold pL at z
      by_cases y : m = 16
      · rw [if_pos y] at z ⊢; omega
      · rw [if_neg y] at z ⊢; exact z
    · have hpl : pL m = i := by
        unfold pL at z ⊢
        by_cases y : m = 16
        · rw [if_pos y] at z hi ⊢; omega
        · rw [if_neg y] at z hi ⊢; omega
      rw [if_neg z]
      have b6' : ∀ t, t < 191 → M' 435 (192 * i + t) = zrw M1 424 v' 427 (382 + t) := fun t ht => by rw [← hpl]; exact b6 t ht
      have b7' : M' 435 (192 * i + 191) = nI k := by rw [← hpl]; exact b7
      by_cases y : t < 191
      · rw [if_pos y, b6' t y, A427 t y]
      · have : t = 191 := by omega
        subst this
        rw [if_neg (by decide)]; exact b7'
end
/-- a call that changes world and history alone -/
theorem IV_act {c : Nat} {g : zS} {mi mi' : Nat → Nat → Int32} (h : IV c g mi) (F : ∀ a, 23 < a → a ≠ 30 → a ≠ 32 → (a < 33 ∨ 203 ≤ a) → a ≠ 419 → a ≠ 422 → a ≠ 423 → a ≠ 424 → a ≠ 427 → a ≠ 434 → a ≠ 435 → mi' a = mi a) (F1 : ∀ k, k ≠ 19 → mi' 1 k = mi 1 k) (F2 : ∀ k, (k < 22 ∨ 25 < k) → k ≠ 0 → k ≠ 31 → mi' 422 k = mi 422 k) (V : ∀ k, 191 ≤ k → mi' 424 k = mi 424 k) (hW : PW (3000 * (c + 1)) mi' 2 (mi' 424)) (hH : HI (3000 * (c + 1)) mi') (hS : SCa mi') : IV (c + 1) g mi' := by
  obtain ⟨h1, h2, h3, h4, h5, ⟨h6, h6'⟩, h7, h8, h9, h10⟩ := h
  have G : ∀ a, (24 < a ∧ a < 30) ∨ (375 < a ∧ a < 419) ∨ (419 < a ∧ a < 422) ∨ (424 < a ∧ a < 427) ∨ (427 < a ∧ a < 434) ∨ 435 < a → mi' a = mi a := fun a ha => F a (by omega) (by omega) (by omega) (by omega) (by omega) (by omega) (by omega) (by omega) (by omega) (by omega) (by omega)
  have L : ∀ a, 439 < a → a ≤ g.2.2.2.1 → mi' a = mi a := fun a q _ => G a (by omega)
  refine ⟨RM_w h1, hW, RU_c h3 (fun k hk _ => V k (by omega)) (G 25 (by decide)) L, CU_c h4 (fun k hk _ => V k hk) (G 27 (by decide)) (G 28 (by decide)) (G 29 (by decide)), hH, ⟨IM_e h6 (by omega) (G 426 (by decide)) (G 376 (by decide)) (G 425 (by decide)) (fun a _ _ => G a (by omega)) (G 387 (by decide)) (G 388 (by decide)) (G 389 (by decide)) (G 390 (by decide)) L, IM_e h6' (by omega) (G 426 (by decide)) (G 392 (by decide)) (G 425 (by decide)) (fun a _ _ => G a (by omega)) (G 403 (by decide)) (G 404 (by decide)) (G 405 (by decide)) (G 406 (by decide)) L⟩, TA_c h7 (G 408 (by decide)) (G 409 (by decide)) (F2 13 (by decide) (by decide) (by decide)) (G 428 (by decide)) (G 429 (by decide)), hS, ?_, SCc_c h10 (G 420 (by decide)) (F2 41 (by decide) (by decide) (by decide)) (G 439 (by decide))⟩
  unfold SCb at h9 ⊢
  rw [F1 14 (by decide), F1 15 (by decide), F1 16 (by decide), F2 6 (by decide) (by decide) (by decide), F2 14 (by decide) (by decide) (by decide), F2 33 (by decide) (by decide) (by decide)]; exact h9
section
variable {n : Nat}
theorem Ra_r {v v' : Nat → Int32} {r : Int32} {e : Nat} (h : Ra v v' r) (he : Ed v e) (hb : e < 2000000000) : ∃ e', e' ≤ e + 9 ∧ Ed v' e' ∧ ((isF r ∧ r < nI 0) ∨ ∃ j, j < 2147483648 ∧ r = nI j) := by
  obtain ⟨h1, h2⟩ := h
  obtain ⟨j, hj, hE⟩ := h1 e he
  refine ⟨e + j, by omega, hE, ?_⟩
  rcases h2 with q | q | q | ⟨i, q1, q2⟩ | q
  · exact Or.inl ⟨Or.inl q, by rw [q]; decide⟩
  · exact Or.inl ⟨Or.inr (Or.inr (Or.inl q)), by rw [q]; decide⟩
  · exact Or.inl ⟨Or.inr (Or.inr (Or.inr (Or.inl q))), by rw [q]; decide⟩
  · exact Or.inr ⟨i, by omega, q2⟩
  · rcases hE.1 with z | z
    · exact Or.inr ⟨e + j, by omega, by rw [q, z.2]⟩
    · exact Or.inr ⟨e + j + 1, by omega, by rw [q, z.2]⟩
theorem WI_r {v : Nat → Int32} (h : WI v) : v 129 = nI 0 ∨ v 129 = nI 1 := by
  obtain ⟨l, lw, lc, -, -, hG⟩ := h
  exact GIr_r hG
theorem CALL_act (hn : 6000 < n) {X Y Xc : zH → Option (Int32 × zH)} {k : Nat} {a b : Int32} (hk : k < 9)
    (hX : ∀ g mi ml mi1 ml1 r mi2 ml2 r' h', Sy g → f_X2_prepare n 30 2 (g, mi, ml) = some ((), (g, mi1, ml1)) → Xc (g, mi1, ml1) = some (r, (g, mi2, ml2)) → f_X11_acted n 1 (nI k) r (g, mi2, ml2) = some (r', h') → X (g, mi, ml) = some (r', h'))
    (hY : ∀ g mi ml r mi1 ml1, Sy g → f_X12_actsKept n 422 (nI k) a b (g, mi, ml) = some (r, (g, mi1, ml1)) → Y (g, mi, ml) = f_X12_goodOr n 422 r (g, mi1, ml1))
    (hS : ∀ g m0 u0 v KO BO, Sy g → HCo g n m0 u0 2 KO BO → HRo g n u0 KO BO → (∀ k, 191 ≤ k → v k = u0 k) → WI v → Sim g 2 m0 v Xc (f_X12_acts n 422 (nI k) a b)) : CALL X Y := by
  intro c g mi ml hc hI
  have hs := hI.1.1
  obtain ⟨hR, hWI, e, he1, he2⟩ := hI.2.1
  obtain ⟨f, m, H, hC, hH, hV⟩ := HI_to hI.2.2.2.2.1
  obtain ⟨mi1, p1, p2, p3, p4⟩ := c_prep2 (ml := ml) (n := n) hs hC hR (WI_r hWI)
  have hR1 : WR mi1 2 (mi 424) := WR_cong hR (fun a h1 h2 => p4 a (by omega))
  have hU1 : RU g mi1 25 26 (mi 424) := RU_c hI.2.2.1 (fun _ _ _ => rfl) (p4 25 (by omega)) (fun a h1 _ => p4 a (by omega))
  obtain ⟨KO, BO, o1, o2⟩ := orac (n := n) (w := 2) hs (by omega) w2c (Or.inl rfl) hU1
  obtain ⟨r, v', s1, s2, s3, s4, s5⟩ := hS g mi1 (mi 424) (mi 424) KO BO hs o1 o2 (fun _ _ => rfl) hWI
  obtain ⟨e', t1, t2, t3⟩ := Ra_r s1 he2 (by omega)
  obtain ⟨mi2, ml2, q1, q2, q3⟩ := s5 mi1 ml (fun _ _ _ => rfl) hR1
  have G2 : ∀ x, (11 < x ∧ x ≠ 23 ∧ (x < 33 ∨ 203 ≤ x)) → mi2 x = mi x := fun x hx => by rw [q3 x hx.2.1 (by omega), p4 x (by omega)]
  have G21 : mi2 1 = mi 1 := by rw [q3 1 (by decide) (by decide), p4 1 (by decide)]
  have hs17 := slt_lt f m
  have hC2 : HC mi2 f m H := HC_c p3 (q3 30 (by decide) (by decide)) (q3 32 (by decide) (by decide)) (fun i hi x x1 x2 => q3 x (by omega) (by omega))
  have hW2 : WR mi2 (33 + 10 * slt f m) (mi 424) := WR_cong p2 (fun x x1 x2 => q3 x (by omega) (by omega))
  have m16 := hC.1.2.1
  rcases t3 with ⟨t3, t4⟩ | ⟨j, hj, t3⟩
  · -- refused
    have hac : f_X11_acted n 1 (nI k) r (g, mi2, ml2) = some (r, (g, tF r mi2, ml2)) := by
      unfold f_X11_acted fb_X11_acted_12
      simp only [li]
      rw [iP t4, S_ck1 hs, told_F hs t3, zb_s]
    have T : ∀ x, x ≠ 1 → x ≠ 419 → tF r mi2 x = mi2 x := fun x x1 x2 => tF_a x1 x2
    have v424 : tF r mi2 424 = mi 424 := by rw [T 424 (by decide) (by decide), G2 424 (by decide)]
    have hHt : HR (tF r mi2) m H := HR_c hH (by rw [T 422 (by decide) (by decide), G2 422 (by decide)]) (by rw [T 435 (by decide) (by decide), G2 435 (by decide)])
    obtain ⟨M', k1, k2, k3, -, k5, k6, -⟩ := r_act (ml := ml2) (v := mi 424) hs hn m16 v424 hHt s4 (Or.inl t4)
    refine ⟨r, g, tF r mi2, ml2, rF r M', ml2, hX _ _ _ _ _ _ _ _ _ _ hs p1 q1 hac, by rw [hY _ _ _ _ _ _ hs k1, gor_F hs t3], ?_⟩
    have k3 := k3 t4
    have FF : ∀ x, x ≠ 422 → x ≠ 423 → x ≠ 424 → x ≠ 427 → x ≠ 434 → x ≠ 435 → rF r M' x = tF r mi2 x := fun x x1 x2 x3 x4 x5 x6 => by rw [rF_a x1 x2, k5 x x1 x3 x4 x5 x6]
    have e424 : rF r M' 424 = v' := by rw [rF_a (by decide) (by decide), k2]
    refine IV_act hI (fun x x0 x1 x2 x3 x4 x5 x6 x7 x8 x9 x10 => ?_) (fun i hi => ?_) (fun i hi hi0 hi31 => ?_) (fun i hi => ?_) ?_ ?_ ?_
    · rw [FF x x5 x6 x7 x8 x9 x10, T x (by omega) x4, G2 x ⟨by omega, by omega, x3⟩]
    · rw [FF 1 (by decide) (by decide) (by decide) (by decide) (by decide) (by decide), tF_1 hi, G21]
    · rw [rF_2 hi0, k6 i hi hi31, T 422 (by decide) (by decide), G2 422 (by decide)]
    · rw [e424]; exact s3 i hi
    · rw [e424]
      refine ⟨WR_cong q2 (fun x x1 x2 => ?_), s2, e', by omega, t2⟩
      rw [FF x (by omega) (by omega) (by omega) (by omega) (by omega) (by omega), T x (by omega) (by omega)]
    · refine HI_of (f := f) (HC_c hC2 ?_ ?_ (fun i hi x x1 x2 => ?_)) (HR_c k3 (rF_2 (by decide)) (rF_a (by decide) (by decide))) (HV_w hV (by omega))
      · rw [FF 30 (by decide) (by decide) (by decide) (by decide) (by decide) (by decide), T 30 (by decide) (by decide)]
      · rw [FF 32 (by decide) (by decide) (by decide) (by decide) (by decide) (by decide), T 32 (by decide) (by decide)]
      · have := slt_lt f i
        rw [FF x (by omega) (by omega) (by omega) (by omega) (by omega) (by omega), T x (by omega) (by omega)]
    · have h8 := hI.2.2.2.2.2.2.2.1
      have h8' : SCa mi2 := SCa_c h8 (by rw [G21]) (G2 419 (by decide)) (by rw [G2 422 (by decide)]) (G2 423 (by decide))
      exact SCa_F h8' t3 (by rw [k5 1 (by decide) (by decide) (by decide) (by decide) (by decide)]) (by rw [k5 419 (by decide) (by decide) (by decide) (by decide) (by decide)]) (by rw [k5 423 (by decide) (by decide) (by decide) (by decide) (by decide), T 423 (by decide) (by decide)])
  · -- done
    subst t3
    have hng : ¬ nI j < nI 0 := by rw [nLt (by omega) (by omega)]; omega
    obtain ⟨mi3, f', c1, c2, c3⟩ := c_push (ml := ml2) (n := n) (k := k) hs hC2 hW2
    have hac : f_X11_acted n 1 (nI k) (nI j) (g, mi2, ml2) = some (nI j, (g, tG mi3, ml2)) := by
      unfold f_X11_acted fb_X11_acted_12
      simp only [li]
      rw [iN hng, S_gR1_5 hs, S_ck30 hs, c1, zb_s, S_ck1 hs, told_G hs ⟨j, hj, rfl⟩, zb_s]
    have T : ∀ x, x ≠ 1 → x ≠ 30 → x ≠ 32 → tG mi3 x = mi2 x := fun x x1 x2 x3 => by rw [tG_a x1, c3 x x2 x3]
    have v424 : tG mi3 424 = mi 424 := by rw [T 424 (by decide) (by decide) (by decide), G2 424 (by decide)]
    have hHt : HR (tG mi3) m H := HR_c hH (by rw [T 422 (by decide) (by decide) (by decide), G2 422 (by decide)]) (by rw [T 435 (by decide) (by decide) (by decide), G2 435 (by decide)])
    obtain ⟨M', k1, k2, -, k4, k5, k6, -⟩ := r_act (ml := ml2) (v := mi 424) hs hn m16 v424 hHt s4 (Or.inr ⟨j, hj, rfl⟩)
    refine ⟨nI j, g, tG mi3, ml2, rG M', ml2, hX _ _ _ _ _ _ _ _ _ _ hs p1 q1 hac, by rw [hY _ _ _ _ _ _ hs k1, gor_G hs ⟨j, hj, rfl⟩], ?_⟩
    have k4 := k4 hng
    have FF : ∀ x, x ≠ 422 → x ≠ 424 → x ≠ 427 → x ≠ 434 → x ≠ 435 → rG M' x = tG mi3 x := fun x x1 x3 x4 x5 x6 => by rw [rG_a x1, k5 x x1 x3 x4 x5 x6]
    have e424 : rG M' 424 = v' := by rw [rG_a (by decide), k2]
    refine IV_act hI (fun x x0 x1 x2 x3 x4 x5 x6 x7 x8 x9 x10 => ?_) (fun i hi => ?_) (fun i hi hi0 hi31 => ?_) (fun i hi => ?_) ?_ ?_ ?_
    · rw [FF x x5 x7 x8 x9 x10, T x (by omega) x1 x2, G2 x ⟨by omega, by omega, x3⟩]
    · rw [FF 1 (by decide) (by decide) (by decide) (by decide) (by decide), tG_1 hi, c3 1 (by decide) (by decide), G21]
    · rw [rG_2 hi0, k6 i hi hi31, T 422 (by decide) (by decide) (by decide), G2 422 (by decide)]
    · rw [e424]; exact s3 i hi
    · rw [e424]
      refine ⟨WR_cong q2 (fun x x1 x2 => ?_), s2, e', by omega, t2⟩
      rw [FF x (by omega) (by omega) (by omega) (by omega) (by omega), T x (by omega) (by omega) (by omega)]
    · refine HI_of (f := f') (HC_c c2 ?_ ?_ (fun i hi x x1 x2 => ?_)) (HR_c k4 (rG_2 (by decide)) (rG_a (by decide))) (HV_p (HV_w hV (by omega)) hWI ⟨e, by omega, he2⟩ hk m16)
      · rw [FF 30 (by decide) (by decide) (by decide) (by decide) (by decide), tG_a (by decide)]
      · rw [FF 32 (by decide) (by decide) (by decide) (by decide) (by decide), tG_a (by decide)]
      · have := slt_lt f' i
        rw [FF x (by omega) (by omega) (by omega) (by omega) (by omega), tG_a (by omega)]
    · have h8 := hI.2.2.2.2.2.2.2.1
      have h8' : SCa mi2 := SCa_c h8 (by rw [G21]) (G2 419 (by decide)) (by rw [G2 422 (by decide)]) (G2 423 (by decide))
      refine SCa_G h8' ?_ ?_ ?_
      · rw [k5 1 (by decide) (by decide) (by decide) (by decide) (by decide)]; exact zu_s _ _ _ _
      · rw [k5 419 (by decide) (by decide) (by decide) (by decide) (by decide), T 419 (by decide) (by decide) (by decide)]
      · rw [k5 423 (by decide) (by decide) (by decide) (by decide) (by decide), T 423 (by decide) (by decide) (by decide)]
end
