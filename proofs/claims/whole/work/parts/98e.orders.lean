/-! orders, the call -/
theorem IV_gen2 {c : Nat} {g : zS} {mi mi' : Nat → Nat → Int32} (h : IV c g mi) (F : ∀ a, (24 < a ∧ a < 30) ∨ (375 < a ∧ a < 408) ∨ a = 425 ∨ a = 426 ∨ 439 < a → mi' a = mi a) (V : ∀ k, 191 ≤ k → k < 206 → mi' 424 k = mi 424 k) (hU : RU g mi' 25 26 (mi' 424)) (hW : PW (3000 * (c + 1)) mi' 2 (mi' 424)) (hH : HI (3000 * (c + 1)) mi') (hT : TA mi') (hS : SCa mi') (hSb : SCb mi') (hSc : SCc mi') : IV (c + 1) g mi' := by
  obtain ⟨h1, h2, h3, h4, h5, ⟨h6, h6'⟩, h7, h8, h9, h10⟩ := h
  have L : ∀ a, 439 < a → a ≤ g.2.2.2.1 → mi' a = mi a := fun a q _ => F a (by omega)
  exact ⟨RM_w h1, hW, hU, CU_c h4 (fun k hk hk2 => V k hk hk2) (F 27 (by decide)) (F 28 (by decide)) (F 29 (by decide)), hH, ⟨IM_e h6 (by omega) (F 426 (by decide)) (F 376 (by decide)) (F 425 (by decide)) (fun a _ _ => F a (by omega)) (F 387 (by decide)) (F 388 (by decide)) (F 389 (by decide)) (F 390 (by decide)) L, IM_e h6' (by omega) (F 426 (by decide)) (F 392 (by decide)) (F 425 (by decide)) (fun a _ _ => F a (by omega)) (F 403 (by decide)) (F 404 (by decide)) (F 405 (by decide)) (F 406 (by decide)) L⟩, hT, hS, hSb, hSc⟩
section
variable {g : zS} {mi : Nat → Nat → Int32} {ml : Nat → Nat → Int64} {n c len : Nat} {b : Nat → Nat} {l : List (Nat × Nat × Nat)}
theorem cl_ord6 {q : Nat} (hn : 6000 < n) (hI : IV c g mi) (t1 : TPc mi b len) (t2 : TPr mi b len) (t3 : mi 422 13 = nI len) (hl : l = pTk b len 401 0) (he : pRd true (tD len l) (tV b len l) l.length 12 0 0 0 = .error q) : ∃ mi' mi'', f_X11_orders n 1 (g, mi, ml) = some (m6, (g, mi', ml)) ∧ f_X12_orders n 422 (g, mi', ml) = some (m6, (g, mi'', ml)) ∧ IV (c + 1) g mi'' := by
  have hs := hI.1.1
  obtain ⟨mi1, a1, a2, a3⟩ := (c_reads (o := true) (l := l) (ml := ml) (n := n) hs t1 (by omega) hl).2 q he
  have tb : tB true = nI 1 := rfl
  rw [tb] at a1
  obtain ⟨m2', hm2⟩ : ∃ y, y = zu (zu (zu mi1 408 1 (nI 0)) 1 15 (nI (tP len l q))) 1 16 m1 := ⟨_, rfl⟩
  obtain ⟨A, hA⟩ : ∃ y, y = tF m6 m2' := ⟨_, rfl⟩
  have hX : f_X11_orders n 1 (g, mi, ml) = some (m6, (g, A, ml)) := by
    unfold f_X11_orders
    simp only [li, ng6, ng1]
    rw [S_gR1_10 hs, S_gR1_9 hs, S_ck410 hs, a1, zb_s, S_gR1_9 hs, S_pI408 hs, S_gR1_10 hs, S_gI410 hs, zu_a (by decide), a3, S_pI1 hs, S_pI1 hs, ← hm2, iEq1 rfl, S_ck1 hs, told_F hs isF6, zb_s, hA]
  have F2' : ∀ a, a ≠ 1 → a ≠ 408 → (a < 410 ∨ 418 < a) → m2' a = mi a := fun a x1 x2 x3 => by rw [hm2, zu_a x1, zu_a x1, zu_a x2, a2 a x3]
  have FA : ∀ a, a ≠ 1 → a ≠ 408 → a ≠ 419 → (a < 410 ∨ 418 < a) → A a = mi a := fun a x1 x2 x3 x4 => by rw [hA, tF_a x1 x3, F2' a x1 x2 x4]
  have A422 : A 422 = mi 422 := FA 422 (by decide) (by decide) (by decide) (by decide)
  obtain ⟨M0, hM0⟩ : ∃ y, y = zu A 422 33 m1 := ⟨_, rfl⟩
  have F0 : ∀ a, a ≠ 422 → M0 a = A a := fun a ha => by rw [hM0, zu_a ha]
  have tA : TPr M0 b len := by
    unfold TPr at t2 ⊢
    rw [F0 428 (by decide), F0 429 (by decide), FA 428 (by decide) (by decide) (by decide) (by decide), FA 429 (by decide) (by decide) (by decide) (by decide)]; exact t2
  obtain ⟨cc, u, p, -, -, r2⟩ := r_as (o := true) (l := l) (n := n) (ml := ml) hs tA (by omega) (by rw [hM0, zu_k (by decide), A422]; exact t3) hl
  obtain ⟨M', r3, r4, r5, r6⟩ := r2 q he
  rw [tb] at r3
  have hY : f_X12_orders n 422 (g, A, ml) = some (m6, (g, rF m6 M', ml)) := by
    unfold f_X12_orders
    simp only [li, ng6, ng1]
    rw [S_pI422 hs, ← hM0, S_ck422 hs, r3, zb_s, iEq1 rfl, S_ck422 hs, ref_F hs isF6, zb_s]
  refine ⟨A, _, hX, hY, ?_⟩
  have FB : ∀ a, a ≠ 422 → a ≠ 423 → a ≠ 431 → a ≠ 432 → a ≠ 433 → rF m6 M' a = A a := fun a x1 x2 x3 x4 x5 => by rw [rF_a x1 x2, r4.1 a x1 x3 x4 x5, F0 a x1]
  have FM' : ∀ a, (1 < a ∧ a < 408) ∨ a = 420 ∨ (423 < a ∧ a < 431) ∨ 433 < a → rF m6 M' a = mi a := fun a ha => by rw [FB a (by omega) (by omega) (by omega) (by omega) (by omega), FA a (by omega) (by omega) (by omega) (by omega)]
  have A1 : ∀ k, k ≠ 15 → k ≠ 16 → k ≠ 19 → A 1 k = mi 1 k := fun k k1 k2 k3 => by rw [hA, tF_1 k3, hm2, zu_k k2, zu_k k1, zu_a (by decide), a2 1 (by decide)]
  have K2 : ∀ k, k = 6 ∨ k = 31 ∨ k = 41 → rF m6 M' 422 k = mi 422 k := fun k hk => by rw [rF_2 (by omega), r4.2 k (by omega), hM0, zu_k (by omega), A422]
  have e424 : rF m6 M' 424 = mi 424 := FM' 424 (by decide)
  refine IV_gen hI (fun a ha => FM' a (by omega)) (fun k _ => by rw [e424]) (by rw [e424]; exact PW_e hI.2.1 (by omega) (fun a _ _ => FM' a (by omega))) (HI_c hI.2.2.2.2.1 (by omega) (FM' 30 (by decide)) (FM' 32 (by decide)) (K2 31 (by decide)) (FM' 435 (by decide)) (fun a _ _ => FM' a (by omega))) (TA_0 hI.2.2.2.2.2.2.1 ?_ ?_ (FM' 428 (by decide))) ?_ ?_ (SCc_c hI.2.2.2.2.2.2.2.2.2 (FM' 420 (by decide)) (K2 41 (by decide)) (FM' 439 (by decide)))
  · rw [FB 408 (by decide) (by decide) (by decide) (by decide) (by decide), hA, tF_a (by decide) (by decide), hm2, zu_a (by decide), zu_a (by decide), zu_s]
  · rw [rF_2 (by decide), r5]
  · have h8 := hI.2.2.2.2.2.2.2.1
    have h8' : SCa m2' := SCa_c h8 (by rw [hm2, zu_k (by decide), zu_k (by decide), zu_a (by decide), a2 1 (by decide)]) (F2' 419 (by decide) (by decide) (by decide)) (by rw [F2' 422 (by decide) (by decide) (by decide)]) (F2' 423 (by decide) (by decide) (by decide))
    exact SCa_F h8' isF6 (by rw [r4.1 1 (by decide) (by decide) (by decide) (by decide), F0 1 (by decide), hA]) (by rw [r4.1 419 (by decide) (by decide) (by decide) (by decide), F0 419 (by decide), hA]) (by rw [r4.1 423 (by decide) (by decide) (by decide) (by decide), F0 423 (by decide), FA 423 (by decide) (by decide) (by decide) (by decide), F2' 423 (by decide) (by decide) (by decide)])
  · have h9 := hI.2.2.2.2.2.2.2.2.1
    have e1 : rF m6 M' 1 = A 1 := FB 1 (by decide) (by decide) (by decide) (by decide) (by decide)
    have e15 : A 1 15 = nI (tP len l q) := by rw [hA, tF_1 (by decide), hm2, zu_k (by decide), zu_s]
    have e16 : A 1 16 = m1 := by rw [hA, tF_1 (by decide), hm2, zu_s]
    have e33 : rF m6 M' 422 33 = m1 := by rw [rF_2 (by decide), r4.2 33 (by decide), hM0, zu_s]
    unfold SCb at h9 ⊢
    rw [e1, A1 14 (by decide) (by decide) (by decide), e15, e16, e33, K2 6 (by decide), rF_2 (by decide), r6]
    exact ⟨h9.1, rfl, rfl⟩
theorem cl_ordR (hn : 6000 < n) (hc : c < 512) (hI : IV c g mi) (t1 : TPc mi b len) (t2 : TPr mi b len) (t3 : mi 422 13 = nI len) (hl : l = pTk b len 401 0) {L : List Ci} {cd : List (Nat × Nat)} (he : pRd true (tD len l) (tV b len l) l.length 12 0 0 0 = .ok (L, cd)) : ∃ r mi' ml' mi'' ml'', f_X11_orders n 1 (g, mi, ml) = some (r, (g, mi', ml')) ∧ f_X12_orders n 422 (g, mi', ml') = some (r, (g, mi'', ml'')) ∧ IV (c + 1) g mi'' := by
  have hs := hI.1.1
  obtain ⟨hR, hWI, e, he1, he2⟩ := hI.2.1
  obtain ⟨f, m, H, hC, hH, hV⟩ := HI_to hI.2.2.2.2.1
  have hTk : TkO b len l := by rw [hl]; exact pTk_ok (fun i hi => (t1.2.2 i hi).2) 401 0 (by omega)
  have hT4 : l.length ≤ 400 := by
    have := pTk_len (b := b) (len := len) 401 0 (by omega)
    rw [← hl] at this
    have := t1.2.1
    omega
  have tDT : tD len l l.length = 0 := by
    unfold tD
    rw [gd_out l l.length _ (Nat.le_refl _)]
  -- the Java side's end, by a row that holds the text
  obtain ⟨r, A, mlA, cX, cA⟩ : ∃ r A mlA, f_X11_orders n 1 (g, mi, ml) = some (r, (g, A, mlA)) ∧ ∀ a, 419 < a → A a = mi a := by
    obtain ⟨vd, hvd⟩ : ∃ y : Nat → Int32, y = fun k => if k = 214 then nI l.length else if 2615 ≤ k ∧ k < 3015 then nI (tD len l (k - 2615)) else if 5415 ≤ k ∧ k < 5815 then nI (tV b len l (k - 5415)) else mi 424 k := ⟨_, rfl⟩
    have o1 : ∀ k, k ≠ 214 → ¬ (2615 ≤ k ∧ k < 3015) → ¬ (5415 ≤ k ∧ k < 5815) → vd k = mi 424 k := fun k q1 q2 q3 => by
      rw [hvd]
      show (if k = 214 then nI l.length else if 2615 ≤ k ∧ k < 3015 then nI (tD len l (k - 2615)) else if 5415 ≤ k ∧ k < 5815 then nI (tV b len l (k - 5415)) else mi 424 k) = _
      rw [if_neg q1, if_neg q2, if_neg q3]
    have w3 : LWr vd 6 l.length (tD len l) (tV b len l) := by
      refine ⟨⟨by rw [hvd]; rfl, hT4⟩, fun k hk => ⟨?_, fun _ _ => ?_⟩, tDT, fun k => ?_⟩
      · rw [hvd]
        show (if 215 + (400 * 6 + k) = 214 then nI l.length else if 2615 ≤ 215 + (400 * 6 + k) ∧ 215 + (400 * 6 + k) < 3015 then nI (tD len l (215 + (400 * 6 + k) - 2615)) else if 5415 ≤ 215 + (400 * 6 + k) ∧ 215 + (400 * 6 + k) < 5815 then nI (tV b len l (215 + (400 * 6 + k) - 5415)) else mi 424 (215 + (400 * 6 + k))) = _
        have z : 215 + (400 * 6 + k) - 2615 = k := by omega
        rw [if_neg (by omega), if_pos (by omega), z]
      · rw [hvd]
        show (if 3015 + (400 * 6 + k) = 214 then nI l.length else if 2615 ≤ 3015 + (400 * 6 + k) ∧ 3015 + (400 * 6 + k) < 3015 then nI (tD len l (3015 + (400 * 6 + k) - 2615)) else if 5415 ≤ 3015 + (400 * 6 + k) ∧ 3015 + (400 * 6 + k) < 5815 then nI (tV b len l (3015 + (400 * 6 + k) - 5415)) else mi 424 (3015 + (400 * 6 + k))) = _
        have z : 3015 + (400 * 6 + k) - 5415 = k := by omega
        rw [if_neg (by omega), if_neg (by omega), if_pos (by omega), z]
      · have := (tk_f hTk t1.2.1 k).1
        omega
    have C := co_ord (ml := ml) (lz := nI 0) (v1 := vd) hn hc hI t1 hl he hC hV (fun k hk => o1 k (by omega) (by omega) (by omega)) (fun k hk => by unfold oR at hk; exact o1 k (by omega) (by omega) (by omega)) w3
    rcases C with ⟨cl, A, mlA, x1, x2, x3, -⟩ | ⟨v', m', H', f', d', lt', A, mlA, x1, x2, x3, -⟩
    · exact ⟨_, _, _, x2, fun a ha => by rw [tF_a (by omega) (by omega), x3.1 a (by omega)]⟩
    · exact ⟨_, _, _, x2, fun a ha => by rw [tG_a (by omega), x3.1 a (by omega)]⟩
  have tA : TPr A b len := by
    unfold TPr at t2 ⊢
    rw [cA 428 (by decide), cA 429 (by decide)]; exact t2
  obtain ⟨R, M6, p1, p2, p3, p4, p5, ⟨p6, p7, p8⟩, ⟨p9, p10⟩, p11, p12⟩ := po_pre (ml := mlA) (n := n) hs hn hTk t1.2.1 tA (by rw [cA 422 (by decide)]; exact t3) hl he (HR_c hH (by rw [cA 422 (by decide)]) (cA 435 (by decide)))
  have Ro : ∀ k, k ≠ 214 → ¬ (2615 ≤ k ∧ k < 3015) → ¬ (5415 ≤ k ∧ k < 5815) → R k = mi 424 k := fun k q1 q2 q3 => by rw [p5 k q1 q2 q3, cA 424 (by decide)]
  have C := co_ord (ml := ml) (lz := nI m) (v1 := R) hn hc hI t1 hl he hC hV (fun k hk => Ro k (by omega) (by omega) (by omega)) (fun k hk => by unfold oR at hk; exact Ro k (by omega) (by omega) (by omega)) p4
  rcases C with ⟨cl, A0, mlA', x1, x2, ⟨x3, x4, x5, x6, x7⟩, ⟨x8, x9⟩, x10⟩ | ⟨v', m', H', f', d', lt', A0, mlA', ⟨⟨y1, ⟨e', y2, y3⟩, y4⟩, y5, y6⟩, x2, ⟨x3, x4, x5, x6, x7⟩, ⟨x8, x9⟩, x10⟩
  · -- not done
    have eA : A = tF m3 A0 := by
      have := cX.symm.trans x2
      injection this with this
      injection this with _ this
      injection this with _ this
      injection this with this _
    obtain ⟨M', ml', z1, z2⟩ := x10 M6 mlA ⟨p2, p3⟩
    obtain ⟨M7, w1, w2, w3, ⟨w4, w5⟩, w6, w7, w8⟩ := po_back (ml := ml') (n := n) (M := M') (m := m) (cl := cl) hs hn
    have er : r = m3 := by
      have := cX.symm.trans x2
      injection this with this
      injection this
    subst er
    refine ⟨m3, A, mlA, _, ml', cX, p1.trans (z1.trans w1), ?_⟩
    have FB : ∀ a, a ≠ 422 → a ≠ 423 → a ≠ 424 → a ≠ 427 → (a < 431 ∨ 436 < a) → rF m3 M7 a = A a := fun a q1 q2 q3 q4 q5 => by rw [rF_a q1 q2, w2 a q1 q3 (by omega), z2.1 a q1 q3 q4 (by omega) (by omega), p11 a q1 q3 q4 (by omega) (by omega) (by omega) (by omega)]
    have A0f : ∀ a, a ≠ 1 → a ≠ 419 → A a = A0 a := fun a q1 q2 => by rw [eA, tF_a q1 q2]
    have FM' : ∀ a, (23 < a ∧ a < 30) ∨ (375 < a ∧ a < 408) ∨ a = 409 ∨ a = 420 ∨ a = 421 ∨ a = 425 ∨ a = 426 ∨ a = 428 ∨ a = 429 ∨ a = 430 ∨ 436 < a → rF m3 M7 a = mi a := fun a ha => by rw [FB a (by omega) (by omega) (by omega) (by omega) (by omega), A0f a (by omega) (by omega), x3 a (by omega)]
    have FW : ∀ a, 1 < a → a < 419 → rF m3 M7 a = A0 a := fun a q1 q2 => by rw [FB a (by omega) (by omega) (by omega) (by omega) (by omega), A0f a (by omega) (by omega)]
    have K2 : ∀ k, k = 6 ∨ k = 41 → rF m3 M7 422 k = mi 422 k := fun k hk => by rw [rF_2 (by omega), w3 k (by omega) (by omega), z2.2.1 k (by omega), p12 k (by omega), cA 422 (by decide)]
    have V4 : ∀ t, t < 191 → rF m3 M7 424 t = mi 424 t := fun t ht => by rw [rF_a (by decide) (by decide), w6 t ht, z2.2.2.1 _ (by omega), p9 t ht, cA 424 (by decide)]
    have V4' : ∀ t, 191 ≤ t → rF m3 M7 424 t = R t := fun t ht => by rw [rF_a (by decide) (by decide), w7 t ht, z2.2.2.2 t ht, p2.1]
    have e436 : ∀ t, t < 3072 → rF m3 M7 435 t = mi 435 t := fun t ht => by rw [rF_a (by decide) (by decide), w8 t ht, z2.1 436 (by decide) (by decide) (by decide) (by decide) (by decide), p10 t ht, cA 435 (by decide)]
    refine IV_gen2 hI (fun a ha => FM' a (by omega)) (fun k k1 k2 => by rw [V4' k k1, Ro k (by omega) (by omega) (by omega)]) ?_ ⟨WR_congv (WR_cong x8 (fun a q1 q2 => FW a (by omega) (by omega))) V4, WI_c hWI (fun t ht => V4 t (by omega)), e, by omega, Ed_c he2 V4⟩ ?_ (TA_0 hI.2.2.2.2.2.2.1 ?_ ?_ (FM' 428 (by decide))) ?_ ?_ (SCc_c hI.2.2.2.2.2.2.2.2.2 (FM' 420 (by decide)) (K2 41 (by decide)) (FM' 439 (by decide)))
    · refine RU_x hI.2.2.1 (fun k hk => ?_) (fun k _ _ => by rw [FM' 25 (by decide)]) (fun _ _ => rfl) (fun a q1 _ => FM' a (by omega)) (fun _ _ _ => ⟨rfl, rfl, rfl⟩) (Nat.le_refl _)
      unfold oR at hk
      rw [V4' k (by omega), Ro k (by omega) (by omega) (by omega)]
    · refine HI_of (f := f) (m := m) (H := H) (HC_c x9 (FW 30 (by decide) (by decide)) (FW 32 (by decide) (by decide)) (fun i hi a q1 q2 => ?_)) ⟨by rw [rF_2 (by decide)]; exact w4, fun i t hi ht => ?_⟩ (HV_w hV (by omega))
      · have := slt_lt f i
        exact FW a (by omega) (by omega)
      · have := hC.1.2.1
        rw [e436 _ (by omega)]
        exact hH.2 i t hi ht
    · rw [FW 408 (by decide) (by decide)]; exact x5
    · rw [rF_2 (by decide), w3 13 (by decide) (by decide), z2.2.1 13 (by decide)]; exact p6
    · have h8 := hI.2.2.2.2.2.2.2.1
      have h8' : SCa A0 := SCa_c h8 (x4 19 (by decide)) (x3 419 (by decide)) (by rw [x3 422 (by decide)]) (x3 423 (by decide))
      have G : ∀ a, a = 1 ∨ a = 419 ∨ a = 423 → M7 a = tF m3 A0 a := fun a ha => by rw [w2 a (by omega) (by omega) (by omega), z2.1 a (by omega) (by omega) (by omega) (by omega) (by omega), p11 a (by omega) (by omega) (by omega) (by omega) (by omega) (by omega) (by omega), eA]
      exact SCa_F h8' isF3 (by rw [G 1 (by decide)]) (G 419 (by decide)) (by rw [G 423 (by decide), tF_a (by decide) (by decide)])
    · have h9 := hI.2.2.2.2.2.2.2.2.1
      have e1 : ∀ k, k ≠ 19 → rF m3 M7 1 k = A0 1 k := fun k hk => by rw [FB 1 (by decide) (by decide) (by decide) (by decide) (by decide), eA, tF_1 hk]
      have e33 : rF m3 M7 422 33 = nI cl := by rw [rF_2 (by decide)]; exact w5
      have e14 : rF m3 M7 422 14 = m1 := by rw [rF_2 (by decide), w3 14 (by decide) (by decide), z2.2.1 14 (by decide)]; exact p7
      unfold SCb at h9 ⊢
      rw [e1 14 (by decide), e1 15 (by decide), e1 16 (by decide), x4 14 (by decide), x6, x7, e33, e14, K2 6 (by decide)]
      exact ⟨h9.1, rfl, rfl⟩
  · -- done
    have eA : A = tG A0 := by
      have := cX.symm.trans x2
      injection this with this
      injection this with _ this
      injection this with _ this
      injection this with this _
    have er : r = nI d' := by
      have := cX.symm.trans x2
      injection this with this
      injection this
    subst er
    obtain ⟨M', ml', z1, z2, ⟨z3, z4, z5, z6⟩⟩ := x10 M6 mlA ⟨p2, p3⟩
    have w1 : fb_X12_orders_174 n 422 (g, M', ml') = some (nI d', (g, rG M', ml')) := by
      unfold fb_X12_orders_174
      rw [S_gI422 hs, z5, S_ck422 hs, good_e hs, zb_s]
    refine ⟨nI d', A, mlA, _, ml', cX, p1.trans (z1.trans w1), ?_⟩
    have FB : ∀ a, a ≠ 422 → a ≠ 424 → a ≠ 427 → (a < 431 ∨ 436 < a) → rG M' a = A a := fun a q1 q3 q4 q5 => by rw [rG_a q1, z2.1 a q1 q3 q4 (by omega) (by omega), p11 a q1 q3 q4 (by omega) (by omega) (by omega) (by omega)]
    have A0f : ∀ a, a ≠ 1 → A a = A0 a := fun a q1 => by rw [eA, tG_a q1]
    have FM' : ∀ a, (23 < a ∧ a < 30) ∨ (375 < a ∧ a < 408) ∨ a = 409 ∨ (418 < a ∧ a < 422) ∨ a = 423 ∨ a = 425 ∨ a = 426 ∨ a = 428 ∨ a = 429 ∨ a = 430 ∨ 436 < a → rG M' a = mi a := fun a ha => by rw [FB a (by omega) (by omega) (by omega) (by omega), A0f a (by omega), x3 a (by omega)]
    have FW : ∀ a, 1 < a → a < 422 → rG M' a = A0 a := fun a q1 q2 => by rw [FB a (by omega) (by omega) (by omega) (by omega), A0f a (by omega)]
    have K2 : ∀ k, k = 6 ∨ k = 41 → rG M' 422 k = mi 422 k := fun k hk => by rw [rG_2 (by omega), z2.2.1 k (by omega), p12 k (by omega), cA 422 (by decide)]
    have e424 : rG M' 424 = v' := by rw [rG_a (by decide)]; exact z3
    have V : ∀ k, 191 ≤ k → k ≠ 214 → ¬ (2615 ≤ k ∧ k < 3015) → ¬ (5415 ≤ k ∧ k < 5815) → v' k = mi 424 k := fun k q0 q1 q2 q3 => by rw [y6 k q0, Ro k q1 q2 q3]
    refine IV_gen2 hI (fun a ha => FM' a (by omega)) (fun k k1 k2 => by rw [e424, V k k1 (by omega) (by omega) (by omega)]) ?_ (by rw [e424]; exact ⟨WR_cong x8 (fun a q1 q2 => FW a (by omega) (by omega)), y1, e', by omega, y3⟩) ?_ (TA_0 hI.2.2.2.2.2.2.1 ?_ ?_ (FM' 428 (by decide))) ?_ ?_ (SCc_c hI.2.2.2.2.2.2.2.2.2 (FM' 420 (by decide)) (K2 41 (by decide)) (FM' 439 (by decide)))
    · rw [e424]
      refine RU_x hI.2.2.1 (fun k hk => ?_) (fun k _ _ => by rw [FM' 25 (by decide)]) (fun _ _ => rfl) (fun a q1 _ => FM' a (by omega)) (fun _ _ _ => ⟨rfl, rfl, rfl⟩) (Nat.le_refl _)
      unfold oR at hk
      exact V k (by omega) (by omega) (by omega) (by omega)
    · refine HI_of (f := f') (m := m') (H := H') (HC_c x9 (FW 30 (by decide) (by decide)) (FW 32 (by decide) (by decide)) (fun i hi a q1 q2 => ?_)) (HR_c z4 (rG_2 (by decide)) (rG_a (by decide))) (HV_w y4 (by omega))
      have := slt_lt f' i
      exact FW a (by omega) (by omega)
    · rw [FW 408 (by decide) (by decide)]; exact x5
    · rw [rG_2 (by decide), z2.2.1 13 (by decide)]; exact p6
    · have h8 := hI.2.2.2.2.2.2.2.1
      have h8' : SCa A0 := SCa_c h8 (x4 19 (by decide)) (x3 419 (by decide)) (by rw [x3 422 (by decide)]) (x3 423 (by decide))
      have G : ∀ a, a = 1 ∨ a = 419 ∨ a = 423 → M' a = tG A0 a := fun a ha => by rw [z2.1 a (by omega) (by omega) (by omega) (by omega) (by omega), p11 a (by omega) (by omega) (by omega) (by omega) (by omega) (by omega) (by omega), eA]
      exact SCa_G h8' (by rw [G 1 (by decide)]; exact zu_s _ _ _ _) (by rw [G 419 (by decide), tG_a (by decide)]) (by rw [G 423 (by decide), tG_a (by decide)])
    · have h9 := hI.2.2.2.2.2.2.2.2.1
      have e1 : ∀ k, k ≠ 19 → rG M' 1 k = A0 1 k := fun k hk => by rw [FB 1 (by decide) (by decide) (by decide) (by decide), eA, tG_1 hk]
      have e33 : rG M' 422 33 = m1 := by rw [rG_2 (by decide), z2.2.1 33 (by decide)]; exact p8
      have e14 : rG M' 422 14 = m1 := by rw [rG_2 (by decide), z2.2.1 14 (by decide)]; exact p7
      unfold SCb at h9 ⊢
      rw [e1 14 (by decide), e1 15 (by decide), e1 16 (by decide), x4 14 (by decide), x6, x7, e33, e14, K2 6 (by decide)]
      exact ⟨h9.1, rfl, rfl⟩
end
theorem cl_orders {n : Nat} (hn : 6000 < n) : CALL (f_X11_orders n 1) (f_X12_orders n 422) := by
  intro c g mi ml hc hI
  obtain ⟨b, len, t1, t2, t3⟩ := hI.2.2.2.2.2.2.1
  cases he : pRd true (tD len (pTk b len 401 0)) (tV b len (pTk b len 401 0)) (pTk b len 401 0).length 12 0 0 0 with
  | error e =>
    obtain ⟨mi', mi'', h1, h2, h3⟩ := cl_ord6 (ml := ml) hn hI t1 t2 t3 rfl he
    exact ⟨_, g, mi', ml, mi'', ml, h1, h2, h3⟩
  | ok r =>
    obtain ⟨L, cd⟩ := r
    obtain ⟨r, mi', ml', mi'', ml'', h1, h2, h3⟩ := cl_ordR (ml := ml) hn hc hI t1 t2 t3 rfl he
    exact ⟨r, g, mi', ml', mi'', ml'', h1, h2, h3⟩
