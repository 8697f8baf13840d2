/-! orders, the Java side -/
theorem HD_c {mi mi' : Nat → Nat → Int32} {b f m : Nat} {H : Nat → Nat → Int32} (h : HD mi b f m H) (e : ∀ a, b ≤ a → a < b + 173 → mi' a = mi a) : HD mi' b f m H := by
  obtain ⟨⟨h1, h2, h3, h4⟩, h5⟩ := h
  refine ⟨⟨h1, h2, by rw [e b (by omega) (by omega)]; exact h3, by rw [e b (by omega) (by omega)]; exact h4⟩, fun i hi => ?_⟩
  have := slt_lt f i
  obtain ⟨z1, z2⟩ := h5 i hi
  exact ⟨WR_cong z1 (fun a q1 q2 => e a (by omega) (by omega)), by rw [e _ (by omega) (by omega)]; exact z2⟩
def CFo (mi A : Nat → Nat → Int32) (x : Int32) : Prop := (∀ a, (23 < a ∧ a < 30) ∨ (375 < a ∧ a < 408) ∨ a = 409 ∨ 418 < a → A a = mi a) ∧ (∀ k, k < 15 ∨ k = 19 → A 1 k = mi 1 k) ∧ A 408 1 = nI 0 ∧ A 1 15 = m1 ∧ A 1 16 = x
section
variable {g : zS} {mi : Nat → Nat → Int32} {ml : Nat → Nat → Int64} {n c len : Nat} {b : Nat → Nat} {l : List (Nat × Nat × Nat)}
theorem co_ord (hn : 6000 < n) (hc : c < 512) (hI : IV c g mi) (t1 : TPc mi b len) (hl : l = pTk b len 401 0) {L : List Ci} {cd : List (Nat × Nat)} (he : pRd true (tD len l) (tV b len l) l.length 12 0 0 0 = .ok (L, cd)) {f m : Nat} {H : Nat → Nat → Int32} (hC : HC mi f m H) (hV : HV (3000 * c) m H) {v1 : Nat → Int32} (w1 : ∀ k, k < 191 → v1 k = mi 424 k) (w2 : ∀ k, oR k → v1 k = mi 424 k) (w3 : LWr v1 6 l.length (tD len l) (tV b len l)) {lz : Int32} :
    (∃ cl A mlA, cl < 12 ∧ f_X11_orders n 1 (g, mi, ml) = some (m3, (g, tF m3 A, mlA)) ∧ CFo mi A (nI cl) ∧ (WR A 2 (mi 424) ∧ HC A f m H) ∧ ∀ M ml, OP M v1 m H 0 m1 ∧ M 422 34 = nI (2400 + 0) → ∃ M' ml', zlp4 (fb_X12_orders_96 n) n 422 lz (nI (2400 + l.length)) (nI 0) (g, M, ml) = fb_X12_orders_115 n 422 lz (nI cl) (g, M', ml') ∧ FPo M M') ∨
    ∃ v' m' H' f' d' lt' A mlA, (OG (3000 * c + 2160) v' m' H' ∧ d' ≤ 240 ∧ ∀ k, 191 ≤ k → v' k = v1 k) ∧ f_X11_orders n 1 (g, mi, ml) = some (nI d', (g, tG A, mlA)) ∧ CFo mi A m1 ∧ (WR A 2 v' ∧ HC A f' m' H') ∧ ∀ M ml, OP M v1 m H 0 m1 ∧ M 422 34 = nI (2400 + 0) → ∃ M' ml', zlp4 (fb_X12_orders_96 n) n 422 lz (nI (2400 + l.length)) (nI 0) (g, M, ml) = fb_X12_orders_174 n 422 (g, M', ml') ∧ FPo M M' ∧ OP M' v' m' H' d' lt' := by
  have hs := hI.1.1
  obtain ⟨hR, hWI, e, he1, he2⟩ := hI.2.1
  obtain ⟨mi1, a1, a2, a3, a4, a5, a6, a7, a8, a9⟩ := (c_reads (o := true) (l := l) (ml := ml) (n := n) hs t1 (by omega) hl).1 L cd he
  have tb : tB true = nI 1 := rfl
  rw [tb] at a1
  have hT4 : l.length ≤ 400 := by
    have := pTk_len (b := b) (len := len) 401 0 (by omega)
    rw [← hl] at this
    have := t1.2.1
    omega
  have tDT : tD len l l.length = 0 := by
    unfold tD
    rw [gd_out l l.length _ (Nat.le_refl _)]
  obtain ⟨m2', hm2⟩ : ∃ y, y = zu (zu (zu mi1 408 1 (nI 0)) 1 15 m1) 1 16 m1 := ⟨_, rfl⟩
  have N2 : ∀ a, a ≠ 1 → a ≠ 408 → m2' a = mi1 a := fun a x1 x2 => by rw [hm2, zu_a x1, zu_a x1, zu_a x2]
  have G2 : ∀ a, a ≠ 1 → a ≠ 408 → (a < 410 ∨ 418 < a) → m2' a = mi a := fun a x1 x2 x3 => by rw [N2 a x1 x2, a2 a x3]
  obtain ⟨m3', b1, b2, b3⟩ := c_copy (u := 12) (w := 2) (mi := m2') (ml := ml) (n := n) hs w12c w2c (by omega) (WR_cong hR (fun a h1 h2 => G2 a (by omega) (by omega) (by omega))) (WI_r hWI)
  have hC3 : HC m3' f m H := HC_c hC (by rw [b3 30 (by omega), G2 30 (by omega) (by omega) (by omega)]) (by rw [b3 32 (by omega), G2 32 (by omega) (by omega) (by omega)]) (fun i hi a q1 q2 => by
    have := slt_lt f i
    rw [b3 a (by omega), G2 a (by omega) (by omega) (by omega)])
  have hH129 : ∀ i, i < m → H i 129 = nI 0 ∨ H i 129 = nI 1 := fun i hi => WI_r (hV i hi).1
  have hD3 : HD m3' 30 f m H := hC3
  obtain ⟨m4', d1, d2, d3⟩ := c_hcp (ml := ml) (n := n) (b := 203) (b' := 30) hs (by omega) (HSt_203 hs) (HSt_30 hs) (by omega) hH129 hD3
  obtain ⟨m5', hm5⟩ : ∃ y, y = zu (zu m4' 1 17 (nI 0)) 1 18 m1 := ⟨_, rfl⟩
  have E : f_X11_orders n 1 (g, mi, ml) = zlp2 (fb_X11_orders_82 n) n 1 (nI 0) (g, m5', ml) := by
    unfold f_X11_orders
    simp only [li, ng1]
    rw [S_gR1_10 hs, S_gR1_9 hs, S_ck410 hs, a1, zb_s, S_gR1_9 hs, S_pI408 hs, S_gR1_10 hs, S_gI410 hs, zu_a (by decide), a3, S_pI1 hs, S_pI1 hs, ← hm2, iEq0 (by decide) (by decide) (by decide), S_gR1_1 hs, S_gR1_0 hs, W_ck hs w12c, b1, zb_s, S_gR1_6 hs, S_gR1_5 hs, q_ck (HSt_203 hs).1.1, d1, zb_s, S_pI1 hs, S_pI1 hs, ← hm5]
  have G5 : ∀ a, a ≠ 1 → a ≠ 408 → (a < 12 ∨ 22 ≤ a) → (a < 203 ∨ 376 ≤ a) → m5' a = mi1 a := fun a x1 x2 x3 x4 => by rw [hm5, zu_a x1, zu_a x1, d3 a (by omega), b3 a (by omega), N2 a x1 x2]
  have G5m : ∀ a, a ≠ 1 → a ≠ 408 → (a < 12 ∨ 22 ≤ a) → (a < 203 ∨ 376 ≤ a) → (a < 410 ∨ 418 < a) → m5' a = mi a := fun a x1 x2 x3 x4 x5 => by rw [G5 a x1 x2 x3 x4, a2 a x5]
  have G51 : ∀ k, k ≠ 15 → k ≠ 16 → k ≠ 17 → k ≠ 18 → m5' 1 k = mi 1 k := fun k k1 k2 k3 k4 => by rw [hm5, zu_k k4, zu_k k3, d3 1 (by omega), b3 1 (by omega), hm2, zu_k k2, zu_k k1, zu_a (by decide), a2 1 (by decide)]
  have G515 : m5' 1 15 = m1 := by rw [hm5, zu_k (by decide), zu_k (by decide), d3 1 (by omega), b3 1 (by omega), hm2, zu_k (by decide), zu_s]
  have G516 : m5' 1 16 = m1 := by rw [hm5, zu_k (by decide), zu_k (by decide), d3 1 (by omega), b3 1 (by omega), hm2, zu_s]
  have G517 : m5' 1 17 = nI 0 := by rw [hm5, zu_k (by decide), zu_s]
  have G518 : m5' 1 18 = m1 := by rw [hm5, zu_s]
  have G5408 : m5' 408 1 = nI 0 := by rw [hm5, zu_a (by decide), zu_a (by decide), d3 408 (by omega), b3 408 (by omega), hm2, zu_a (by decide), zu_a (by decide), zu_s]
  have e411 := G5 411 (by decide) (by decide) (by decide) (by decide)
  have e412 := G5 412 (by decide) (by decide) (by decide) (by decide)
  have e413 := G5 413 (by decide) (by decide) (by decide) (by decide)
  have e414 := G5 414 (by decide) (by decide) (by decide) (by decide)
  have s412 : g.2.1 412 = 400 := Sy_f hs (1, 412, 0, 400) rfl
  have s413 : g.2.1 413 = 400 := Sy_f hs (1, 413, 0, 400) rfl
  have s414 : g.2.1 414 = 60 := Sy_f hs (1, 414, 0, 60) rfl
  have hX : LWx g m5' 411 412 413 414 cd.length true (tD len l) (tV b len l) l.length L := by
    refine ⟨⟨⟨Sy_f hs (0, 411, 0, 9) rfl, Sy_f hs (2, 411, 0, 412) rfl, by decide, Sy_f hs (2, 411, 1, 413) rfl, by decide⟩, ⟨Sy_f hs (0, 412, 0, 21) rfl, Sy_f hs (0, 413, 0, 21) rfl, ⟨by omega, by omega⟩, ⟨by omega, by omega⟩⟩, by rw [e411]; exact a4, a8⟩, ⟨⟨Sy_f hs (2, 411, 2, 414) rfl, by decide⟩, Sy_f hs (0, 414, 0, 21) rfl, by omega, by omega⟩, ⟨by rw [e411]; exact a5, a9⟩, by rw [e414]; exact a7, tDT, cd, by rw [e412, e413]; exact a6, Nat.le_refl _, he⟩
  have hU : RU g m5' 25 26 v1 := RU_x hI.2.2.1 w2 (fun k _ _ => by rw [G5m 25 (by decide) (by decide) (by decide) (by decide) (by decide)]) (fun _ _ => rfl) (fun a q1 _ => G5m a (by omega) (by omega) (by omega) (by omega) (by omega)) (fun _ _ _ => ⟨rfl, rfl, rfl⟩) (Nat.le_refl _)
  have hW5 : WR m5' 2 v1 := WR_congv (WR_cong hR (fun a q1 q2 => G5m a (by omega) (by omega) (by omega) (by omega) (by omega))) w1
  have hC5 : HC m5' f m H := HC_c hC (G5m 30 (by decide) (by decide) (by decide) (by decide) (by decide)) (G5m 32 (by decide) (by decide) (by decide) (by decide) (by decide)) (fun i hi a q1 q2 => by
    have := slt_lt f i
    exact G5m a (by omega) (by omega) (by omega) (by omega) (by omega))
  have hOC : OC g m5' cd.length (tD len l) (tV b len l) l.length L v1 m H f 0 m1 := ⟨hX, hW5, hC5, hU, G517, G518⟩
  have hOG : OG (3000 * c) v1 m H := ⟨WI_c hWI (fun t ht => w1 t (by omega)), ⟨e, he1, Ed_c he2 w1⟩, hV⟩
  have R := o_list (L := L) (lz := lz) (ml := ml) hs hn hT4 tDT 12 0 0 0 L cd [] n v1 m f 0 (3000 * c) H m1 m5' (by omega) (by omega) he rfl (by omega) hOC hOG (by omega) w3
  rcases R with ⟨cl, r1, ⟨mi', ml', r2, r3⟩, r4⟩ | ⟨v', m', H', f', d', lt', ⟨r1, r2, r3⟩, ⟨mi', ml', r4, r5, r6⟩, r7⟩
  · have K12 : ∀ a, 12 ≤ a → a < 22 → mi' a = m3' a := fun a q1 q2 => by rw [r3.1 a (by omega), hm5, zu_a (by omega), zu_a (by omega), d3 a (by omega)]
    obtain ⟨m6', p1, p2, p3⟩ := c_copy (u := 2) (w := 12) (mi := mi') (ml := ml') (n := n) hs w2c w12c (by omega) (WR_cong b2 (fun a q1 q2 => K12 a q1 (by omega))) (WI_r hWI)
    have hD6 : HD m6' 203 f m H := HD_c d2 (fun a q1 q2 => by rw [p3 a (by omega), r3.1 a (by omega), hm5, zu_a (by omega), zu_a (by omega)])
    obtain ⟨m7', s1, s2, s3⟩ := c_hcp (ml := ml') (n := n) (b := 30) (b' := 203) hs (by omega) (HSt_30 hs) (HSt_203 hs) (by omega) hH129 hD6
    obtain ⟨A, hA⟩ : ∃ y, y = zu m7' 1 16 (nI cl) := ⟨_, rfl⟩
    refine Or.inl ⟨cl, A, ml', r1, ?_, ⟨fun a ha => ?_, fun k hk => ?_, ?_, ?_, ?_⟩, ⟨?_, ?_⟩, r4⟩
    · refine E.trans (r2.trans ?_)
      unfold fb_X11_orders_111
      simp only [li, ng3]
      rw [S_gR1_0 hs, S_gR1_1 hs, W_ck hs w2c, p1, zb_s, S_gR1_5 hs, S_gR1_6 hs, q_ck (HSt_30 hs).1.1, s1, zb_s, S_pI1 hs, ← hA, S_ck1 hs, told_F hs isF3, zb_s]
    · rw [hA, zu_a (by omega), s3 a (by omega), p3 a (by omega), r3.1 a (by omega), G5m a (by omega) (by omega) (by omega) (by omega) (by omega)]
    · rw [hA, zu_k (by omega), s3 1 (by omega), p3 1 (by omega), r3.2 k (by omega) (by omega), G51 k (by omega) (by omega) (by omega) (by omega)]
    · rw [hA, zu_a (by omega), s3 408 (by omega), p3 408 (by omega), r3.1 408 (by omega)]; exact G5408
    · rw [hA, zu_k (by omega), s3 1 (by omega), p3 1 (by omega), r3.2 15 (by omega) (by omega)]; exact G515
    · rw [hA, zu_s]
    · exact WR_cong p2 (fun a q1 q2 => by rw [hA, zu_a (by omega), s3 a (by omega)])
    · have s2' : HC m7' f m H := s2
      exact HC_c s2' (by rw [hA, zu_a (by omega)]) (by rw [hA, zu_a (by omega)]) (fun i hi a q1 q2 => by rw [hA, zu_a (by omega)])
  · have hLl := hX.2.2.1.2
    refine Or.inr ⟨v', m', H', f', d', lt', mi', ml', ⟨OG_w r1 (by omega), by omega, r3⟩, ?_, ⟨fun a ha => ?_, fun k hk => ?_, ?_, ?_, ?_⟩, ⟨r6.2.1, r6.2.2.1⟩, r7⟩
    · refine E.trans (r4.trans ?_)
      unfold fb_X11_orders_151
      rw [S_gI1 hs, r6.2.2.2.2.1, S_ck1 hs, told_G hs ⟨d', by omega, rfl⟩, zb_s]
    · rw [r5.1 a (by omega), G5m a (by omega) (by omega) (by omega) (by omega) (by omega)]
    · rw [r5.2 k (by omega) (by omega), G51 k (by omega) (by omega) (by omega) (by omega)]
    · rw [r5.1 408 (by omega)]; exact G5408
    · rw [r5.2 15 (by omega) (by omega)]; exact G515
    · rw [r5.2 16 (by omega) (by omega)]; exact G516
end
