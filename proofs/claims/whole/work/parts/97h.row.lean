/-! row -/
theorem IV_gen {c : Nat} {g : zS} {mi mi' : Nat → Nat → Int32} (h : IV c g mi) (F : ∀ a, (24 < a ∧ a < 30) ∨ (375 < a ∧ a < 408) ∨ a = 425 ∨ a = 426 ∨ 439 < a → mi' a = mi a) (V : ∀ k, 191 ≤ k → mi' 424 k = mi 424 k) (hW : PW (3000 * (c + 1)) mi' 2 (mi' 424)) (hH : HI (3000 * (c + 1)) mi') (hT : TA mi') (hS : SCa mi') (hSb : SCb mi') (hSc : SCc mi') : IV (c + 1) g mi' := by
  obtain ⟨h1, h2, h3, h4, h5, ⟨h6, h6'⟩, h7, h8, h9, h10⟩ := h
  have L : ∀ a, 439 < a → a ≤ g.2.2.2.1 → mi' a = mi a := fun a q _ => F a (by omega)
  exact ⟨RM_w h1, hW, RU_c h3 (fun k hk _ => V k (by omega)) (F 25 (by decide)) L, CU_c h4 (fun k hk _ => V k hk) (F 27 (by decide)) (F 28 (by decide)) (F 29 (by decide)), hH, ⟨IM_e h6 (by omega) (F 426 (by decide)) (F 376 (by decide)) (F 425 (by decide)) (fun a _ _ => F a (by omega)) (F 387 (by decide)) (F 388 (by decide)) (F 389 (by decide)) (F 390 (by decide)) L, IM_e h6' (by omega) (F 426 (by decide)) (F 392 (by decide)) (F 425 (by decide)) (fun a _ _ => F a (by omega)) (F 403 (by decide)) (F 404 (by decide)) (F 405 (by decide)) (F 406 (by decide)) L⟩, hT, hS, hSb, hSc⟩
theorem sb_t : ∀ x, x < 256 → sb x &&& nI 255 = nI x ∧ (128 ≤ x → sb x < 0 ∧ nI 100 ≤ nI x) := by decide +kernel
def FMt (M M' : Nat → Nat → Int32) : Prop := (∀ a, a ≠ 422 → a ≠ 424 → a ≠ 434 → M' a = M a) ∧ ∀ k, (k < 22 ∨ 25 < k) → k ≠ 6 → M' 422 k = M 422 k
section
variable {g : zS} {n : Nat} {m0 : Nat → Nat → Int32} {u0 : Nat → Int32} {KO : (Nat → Int32) → Nat → Nat → Int32} {BO : (Nat → Int32) → Nat → Bool}
theorem pair_sim (hs : Sy g) (hn : 24 < n) (HC : HCo g n m0 u0 2 KO BO) (HR : HRo g n u0 KO BO) {v : Nat → Int32} (hu : ∀ k, 191 ≤ k → v k = u0 k) (hI : WI v) {x y : Nat} (hx : x < 256) (hy : y < 256) : Sim g 2 m0 v (f_X10_putKey n 2 (nI x) (nI y) 25) (f_X12_puts n 422 (sb x) (sb y &&& nI 255)) := by
  rw [(sb_t y hy).1]
  by_cases q : x < 128
  · have : sb x = nI x := if_pos q
    rw [this]
    exact put_sim hs w2c (Or.inl rfl) hn HC HR hu hI _ _
  · obtain ⟨a1, a2⟩ := (sb_t x hx).2 (by omega)
    refine Sim_c m1 hI (fun mi ml _ => ?_) (fun M ml => ?_)
    · unfold f_X10_putKey
      simp only [lit, ng1, (ge_lt (N := 99) (by decide) a2).2.1, a2, if_T, if_F]
    · unfold f_X12_puts f_X12_isKey
      simp only [lit, ng1, r_lies0 a1, zb_s, zrZ0, if_T, if_pos]
theorem row_l (hs : Sy g) (hn : 24 < n) (HC : HCo g n m0 u0 2 KO BO) (HR : HRo g n u0 KO BO) {b : Nat → Nat} {len : Nat} (hT : TPc m0 b len) : ∀ (t j f : Nat) (v : Nat → Int32) (d tn : Nat), 2 * (j + t) ≤ len → len < 2 * (j + t) + 2 → t < f → d ≤ j → tn ≤ 1 + j → (∀ k, 191 ≤ k → v k = u0 k) → WI v → ∃ v' d' tn', d' ≤ 200 ∧ WI v' ∧ (∀ k, 191 ≤ k → v' k = v k) ∧ Gw (9 * t) v v' ∧ (∀ M ml, M 422 6 = nI tn → (∀ i, i < len → M 429 i = sb (b i)) → ∃ M', zlp4 (fb_X12_row_32 n) f 422 (nI len) (nI d) (nI (2 * j)) (g, zrw M 424 v, ml) = fb_X12_row_109 n 422 (nI d') (g, zrw M' 424 v', ml) ∧ FMt M M' ∧ M' 422 6 = nI tn') ∧ ∀ mi ml, FC 2 m0 mi → WR mi 2 v → ∃ mi' ml', zlp4 (fb_X11_row_31 n) f 1 (nI d) (nI tn) (nI (2 * j)) (g, mi, ml) = fb_X11_row_102 n 1 (nI d') (nI tn') (g, mi', ml') ∧ WR mi' 2 v' ∧ FC 2 mi mi'
  | t, j, 0, v, d, tn, _, _, h, _, _, _, _ => absurd h (by omega)
  | 0, j, f + 1, v, d, tn, h1, h2, h3, h4, h5, hu, hI => by
    have hl := hT.2.1
    refine ⟨v, d, tn, by omega, hI, fun _ _ => rfl, Gw_0 (fun _ _ => rfl), fun M ml e1 e2 => ⟨M, ?_, ⟨fun _ _ _ _ => rfl, fun _ _ _ => rfl⟩, e1⟩, fun mi ml hF hR => ⟨mi, ml, ?_, hR, fun _ _ _ => rfl⟩⟩
    · show fb_X12_row_32 n (zlp4 (fb_X12_row_32 n) f) 422 (nI len) (nI d) (nI (2 * j)) _ = _
      generalize zlp4 (fb_X12_row_32 n) f = K
      unfold fb_X12_row_32
      simp only [li]
      rw [nI_add, iLt1 (by omega) (by omega) (by omega)]
    · show fb_X11_row_31 n (zlp4 (fb_X11_row_31 n) f) 1 (nI d) (nI tn) (nI (2 * j)) _ = _
      generalize zlp4 (fb_X11_row_31 n) f = K
      have e : mi 408 1 = nI len := by rw [hF 408 (by decide) (by decide)]; exact hT.1
      unfold fb_X11_row_31
      simp only [li]
      rw [S_gR1_9 hs, S_gI408 hs, e, nI_add, iLe1 (by omega) (by omega) (by omega)]
  | t + 1, j, f + 1, v, d, tn, h1, h2, h3, h4, h5, hu, hI => by
    have hl := hT.2.1
    obtain ⟨x1, x2⟩ := hT.2.2 (2 * j) (by omega)
    obtain ⟨y1, y2⟩ := hT.2.2 (2 * j + 1) (by omega)
    obtain ⟨r, v1, s1, s2, s3, s4, s5⟩ := pair_sim hs hn HC HR hu hI x2 y2
    have ej : 2 * (j + 1) = 2 * j + 2 := by omega
    obtain ⟨d1, hd1⟩ : ∃ d1, d1 = if r < nI 0 then d else d + 1 := ⟨_, rfl⟩
    obtain ⟨t1, ht1⟩ : ∃ t1, t1 = if r < nI 0 then tn + 1 else tn := ⟨_, rfl⟩
    obtain ⟨v', d', tn', p0, p1, p2, p3, p4, p5⟩ := row_l hs hn HC HR hT t (j + 1) f v1 d1 t1 (by omega) (by omega) (by omega) (by rw [hd1]; split <;> omega) (by rw [ht1]; split <;> omega) (fun k hk => by rw [s3 k hk, hu k hk]) s2
    refine ⟨v', d', tn', p0, p1, fun k hk => by rw [p2 k hk, s3 k hk], Gw_w (Gw_t s1.1 p3) (by omega), fun M ml e1 e2 => ?_, fun mi ml hF hR => ?_⟩
    · obtain ⟨M1, q1, q2⟩ := s4 M ml
      have k6 : zrw M1 424 v1 422 6 = nI tn := by rw [zrw_a (by decide), q2.2 6 (by decide)]; exact e1
      obtain ⟨M', q3, q4, q5⟩ := p4 (zu M1 422 6 (nI t1)) ml (zu_s _ _ _ _) (fun i hi => by rw [zu_a (by decide), q2.1 429 (by decide) (by decide) (by decide)]; exact e2 i hi)
      refine ⟨M', ?_, ⟨fun a a1 a2 a3 => by rw [q4.1 a a1 a2 a3, zu_a a1, q2.1 a a1 a2 a3], fun k k1 k2 => by rw [q4.2 k k1 k2, zu_k k2, q2.2 k k1]⟩, q5⟩
      rw [← q3]
      show fb_X12_row_32 n (zlp4 (fb_X12_row_32 n) f) 422 (nI len) (nI d) (nI (2 * j)) _ = _
      generalize zlp4 (fb_X12_row_32 n) f = K
      have z1 : zrw M 424 v 429 (2 * j) = sb (b (2 * j)) := by rw [zrw_a (by decide)]; exact e2 _ (by omega)
      have z2 : zrw M 424 v 429 (2 * j + 1) = sb (b (2 * j + 1)) := by rw [zrw_a (by decide)]; exact e2 _ (by omega)
      have z3 : ∀ x, zu (zrw M1 424 v1) 422 6 x = zrw (zu M1 422 6 x) 424 v1 := fun x => by
        funext a
        by_cases q : a = 424
        · subst q; rw [zu_a (by decide), zrw_eq, zrw_eq]
        · rw [zrw_a q]
          by_cases q' : a = 422
          · subst q'; funext k
            by_cases qk : k = 6
            · subst qk; rw [zu_s, zu_s]
            · rw [zu_k qk, zu_k qk, zrw_a (by decide)]
          · rw [zu_a q', zu_a q', zrw_a q]
      unfold fb_X12_row_32
      simp only [li]
      rw [nI_add, iLt0 (by omega) (by omega) (by omega), S_gR422_11 hs, S_aI429 hs (by omega), S_gR422_11 hs, nI_add, S_aI429 hs (by omega), z1, z2, S_ck422 hs, q1, zb_s]
      by_cases q : r < nI 0
      · rw [if_pos q] at hd1 ht1
        rw [iP q]
        unfold fb_X12_row_69 fb_X12_row_82 fb_X12_row_99
        simp only [li, if_T]
        rw [nI_add, q_let, S_gI422 hs, k6, nI_add, S_pI422 hs, nI_add, hd1, ht1, z3, ej]
        rfl
      · rw [if_neg q] at hd1 ht1
        rw [iN q]
        unfold fb_X12_row_69 fb_X12_row_82 fb_X12_row_99
        simp only [li]
        rw [iN n01.symm, nI_add, q_let, S_gI422 hs, iN n01.symm, k6, nI_add, S_pI422 hs, nI_add, hd1, ht1, z3, ej]
        rfl
    · obtain ⟨mi1, ml1, q1, q2, q3⟩ := s5 mi ml hF hR
      obtain ⟨mi', ml', q4, q5, q6⟩ := p5 mi1 ml1 (fun a a1 a2 => by rw [q3 a a1 a2, hF a a1 a2]) q2
      refine ⟨mi', ml', ?_, q5, fun a a1 a2 => by rw [q6 a a1 a2, q3 a a1 a2]⟩
      rw [← q4]
      show fb_X11_row_31 n (zlp4 (fb_X11_row_31 n) f) 1 (nI d) (nI tn) (nI (2 * j)) _ = _
      generalize zlp4 (fb_X11_row_31 n) f = K
      have e : mi 408 1 = nI len := by rw [hF 408 (by decide) (by decide)]; exact hT.1
      have z1 : mi 409 (2 * j) = nI (b (2 * j)) := by rw [hF 409 (by decide) (by decide)]; exact x1
      have z2 : mi 409 (2 * j + 1) = nI (b (2 * j + 1)) := by rw [hF 409 (by decide) (by decide)]; exact y1
      unfold fb_X11_row_31
      simp only [li]
      rw [S_gR1_9 hs, S_gI408 hs, e, nI_add, iLe0 (by omega) (by omega) (by omega), iLe0 (by omega) (by omega) (by omega), S_gR1_0 hs, S_gR1_9 hs, S_gR408_0 hs, S_aI409 hs (by omega), S_gR1_9 hs, S_gR408_0 hs, S_aI409 hs (by omega), z1, z2, S_gR1_3 hs, W_ck hs w2c, q1, zb_s]
      by_cases q : r < nI 0
      · rw [if_pos q] at hd1 ht1
        rw [iP q]
        unfold fb_X11_row_96
        simp only [li]
        rw [nI_add, nI_add, hd1, ht1, ej]
      · rw [if_neg q] at hd1 ht1
        rw [iN q]
        unfold fb_X11_row_96
        simp only [li]
        rw [nI_add, nI_add, hd1, ht1, ej]
end
section
variable {n : Nat}
theorem cl_row (hn : 6000 < n) : CALL (f_X11_row n 1) (f_X12_row n 422) := by
  intro c g mi ml hc hI
  have hs := hI.1.1
  obtain ⟨hR, hWI, e, he1, he2⟩ := hI.2.1
  obtain ⟨b, len, t1, t2, t3⟩ := hI.2.2.2.2.2.2.1
  have hl := t1.2.1
  by_cases q : len = 0
  · subst q
    have hX : f_X11_row n 1 (g, mi, ml) = some (m6, (g, tF m6 mi, ml)) := by
      unfold f_X11_row
      simp only [li, ng6]
      rw [S_gR1_9 hs, S_gI408 hs, t1.1, iP rfl, S_ck1 hs, told_F hs isF6, zb_s]
    have e13 : tF m6 mi 422 13 = nI 0 := by rw [tF_a (by decide) (by decide)]; exact t3
    have hz : zu (tF m6 mi) 422 13 (nI 0) = tF m6 mi := by
      funext a
      by_cases z : a = 422
      · subst z; funext k
        by_cases zk : k = 13
        · subst zk; rw [zu_s, e13]
        · rw [zu_k zk]
      · rw [zu_a z]
    refine F_call hI isF6 hX ?_
    unfold f_X12_row
    simp only [li, ng6]
    rw [S_gI422 hs, S_pI422 hs, e13, hz, iP rfl, S_ck422 hs, ref_F hs isF6, zb_s]
  · obtain ⟨KO, BO, o1, o2⟩ := orac (n := n) (w := 2) hs (by omega) w2c (Or.inl rfl) hI.2.2.1
    obtain ⟨v', d', tn', p0, p1, p2, p3, p4, p5⟩ := row_l (b := b) (len := len) hs (by omega) o1 o2 t1 (len / 2) 0 n (mi 424) 0 (len % 2) (by omega) (by omega) (by omega) (by omega) (by omega) (fun _ _ => rfl) hWI
    obtain ⟨mi1, ml1, c1, c2, c3⟩ := p5 mi ml (fun _ _ _ => rfl) hR
    obtain ⟨j, hj, hE⟩ := p3 e he2
    have hrem : nI len - nI len / nI 2 * nI 2 = nI (len % 2) := pk_rem (by omega) (by decide) (by decide)
    obtain ⟨A, hA⟩ : ∃ A, A = tG (zu (zu (zu mi1 408 1 (nI 0)) 1 14 (nI tn')) 30 3 (nI 0)) := ⟨_, rfl⟩
    have hX : f_X11_row n 1 (g, mi, ml) = some (nI d', (g, A, ml1)) := by
      unfold f_X11_row
      simp only [li, ng6]
      rw [S_gR1_9 hs, S_gI408 hs, t1.1, iEq0 (by omega) (by omega) q, S_gR1_9 hs, S_gI408 hs, t1.1, q_let, hrem]
      refine c1.trans ?_
      unfold fb_X11_row_102 f_X2_clear
      simp only [li]
      rw [S_gR1_9 hs, S_pI408 hs, S_pI1 hs, S_gR1_5 hs, S_ck30 hs, S_pI30 hs, zb_s, S_ck1 hs, told_G hs ⟨d', by omega, rfl⟩, zb_s, hA]
    have FA : ∀ a, a ≠ 1 → a ≠ 23 → a ≠ 30 → a ≠ 408 → (a < 2 ∨ 12 ≤ a) → A a = mi a := fun a a1 a2 a3 a4 a5 => by rw [hA, tG_a a1, zu_a a3, zu_a a1, zu_a a4, c3 a a2 a5]
    have FW : ∀ a, 2 ≤ a → a < 12 → A a = mi1 a := fun a a1 a2 => by rw [hA, tG_a (by omega), zu_a (by omega), zu_a (by omega), zu_a (by omega)]
    have A1 : ∀ k, k ≠ 14 → k ≠ 19 → A 1 k = mi 1 k := fun k k1 k2 => by rw [hA, tG_1 k2, zu_a (by decide), zu_k k1, zu_a (by decide), c3 1 (by decide) (by decide)]
    have A14 : A 1 14 = nI tn' := by rw [hA, tG_1 (by decide), zu_a (by decide), zu_s]
    have A19 : A 1 19 = nI 0 := by rw [hA]; exact zu_s _ _ _ _
    have A30 : A 30 3 = nI 0 := by rw [hA, tG_a (by decide), zu_s]
    have A302 : A 30 2 = mi 30 2 := by rw [hA, tG_a (by decide), zu_k (by decide), zu_a (by decide), zu_a (by decide), c3 30 (by decide) (by decide)]
    have A408 : A 408 1 = nI 0 := by rw [hA, tG_a (by decide), zu_a (by decide), zu_a (by decide), zu_s]
    obtain ⟨M0, hM0⟩ : ∃ M0, M0 = zu (zu A 422 13 (nI 0)) 422 6 (nI (len % 2)) := ⟨_, rfl⟩
    have FM0 : ∀ a, a ≠ 422 → M0 a = A a := fun a h => by rw [hM0, zu_a h, zu_a h]
    have e424 : zrw M0 424 (mi 424) = M0 := by
      funext a
      by_cases z : a = 424
      · subst z; rw [zrw_eq, FM0 424 (by decide), FA 424 (by decide) (by decide) (by decide) (by decide) (by decide)]
      · rw [zrw_a z]
    obtain ⟨M', k1, k2, k3⟩ := p4 M0 ml1 (by rw [hM0, zu_s]) (fun i hi => by rw [FM0 429 (by decide), FA 429 (by decide) (by decide) (by decide) (by decide) (by decide)]; exact (t2.2.1 i hi).1)
    rw [e424] at k1
    have hY : f_X12_row n 422 (g, A, ml1) = some (nI d', (g, rG (zu (zrw M' 424 v') 422 31 (nI 0)), ml1)) := by
      have z1 : A 422 13 = nI len := by rw [FA 422 (by decide) (by decide) (by decide) (by decide) (by decide)]; exact t3
      unfold f_X12_row
      simp only [li, ng6]
      rw [S_gI422 hs, S_pI422 hs, z1, iEq0 (by omega) (by omega) q, S_pI422 hs, hrem, ← hM0]
      refine k1.trans ?_
      unfold fb_X12_row_109 f_X12_settled
      simp only [li]
      rw [S_ck422 hs, S_pI422 hs, S_ck422 hs, good_e hs, zb_s, zb_s]
    refine ⟨_, g, A, ml1, _, ml1, hX, hY, ?_⟩
    have Q : ∀ a, a ≠ 422 → a ≠ 424 → a ≠ 434 → rG (zu (zrw M' 424 v') 422 31 (nI 0)) a = A a := fun a a1 a2 a3 => by rw [rG_a a1, zu_a a1, zrw_a a2, k2.1 a a1 a2 a3, FM0 a a1]
    have Q4 : rG (zu (zrw M' 424 v') 422 31 (nI 0)) 424 = v' := by rw [rG_a (by decide), zu_a (by decide), zrw_eq]
    have Q2 : ∀ k, (k < 22 ∨ 25 < k) → k ≠ 0 → k ≠ 6 → k ≠ 13 → k ≠ 31 → rG (zu (zrw M' 424 v') 422 31 (nI 0)) 422 k = mi 422 k := fun k a1 a2 a3 a4 a5 => by rw [rG_2 a2, zu_k a5, zrw_a (by decide), k2.2 k a1 a3, hM0, zu_k a3, zu_k a4, FA 422 (by decide) (by decide) (by decide) (by decide) (by decide)]
    have Q31 : rG (zu (zrw M' 424 v') 422 31 (nI 0)) 422 31 = nI 0 := by rw [rG_2 (by decide), zu_s]
    have Q6 : rG (zu (zrw M' 424 v') 422 31 (nI 0)) 422 6 = nI tn' := by rw [rG_2 (by decide), zu_k (by decide), zrw_a (by decide)]; exact k3
    have Q13 : rG (zu (zrw M' 424 v') 422 31 (nI 0)) 422 13 = nI 0 := by rw [rG_2 (by decide), zu_k (by decide), zrw_a (by decide), k2.2 13 (by decide) (by decide), hM0, zu_k (by decide), zu_s]
    have G : ∀ a, 23 < a → a ≠ 30 → a ≠ 408 → a ≠ 422 → a ≠ 424 → a ≠ 434 → rG (zu (zrw M' 424 v') 422 31 (nI 0)) a = mi a := fun a a1 a2 a3 a4 a5 a6 => by rw [Q a a4 a5 a6, FA a (by omega) (by omega) a2 a3 (by omega)]
    refine IV_gen hI (fun a ha => G a (by omega) (by omega) (by omega) (by omega) (by omega) (by omega)) (fun k hk => by rw [Q4, p2 k hk]) ?_ ?_ ?_ ?_ ?_ ?_
    · rw [Q4]
      refine ⟨WR_cong c2 (fun a a1 a2 => by rw [Q a (by omega) (by omega) (by omega), FW a a1 (by omega)]), p1, e + j, by omega, hE⟩
    · obtain ⟨f, m, ⟨h1, h2, h3, h4⟩, h5, h6⟩ := hI.2.2.2.2.1
      refine ⟨f, 0, ⟨h1, by decide, by rw [Q 30 (by decide) (by decide) (by decide), A302]; exact h3, by rw [Q 30 (by decide) (by decide) (by decide)]; exact A30⟩, Q31, fun i hi => absurd hi (by omega)⟩
    · refine ⟨b, 0, ⟨by rw [Q 408 (by decide) (by decide) (by decide)]; exact A408, by decide, fun i hi => absurd hi (by omega)⟩, ⟨by decide, fun i hi => absurd hi (by omega), ?_⟩, Q13⟩
      rw [G 428 (by decide) (by decide) (by decide) (by decide) (by decide) (by decide)]
      exact t2.2.2
    · refine SCa_G hI.2.2.2.2.2.2.2.1 ?_ ?_ ?_
      · rw [zu_a (by decide), zrw_a (by decide), k2.1 1 (by decide) (by decide) (by decide), FM0 1 (by decide)]; exact A19
      · rw [zu_a (by decide), zrw_a (by decide), k2.1 419 (by decide) (by decide) (by decide), FM0 419 (by decide), FA 419 (by decide) (by decide) (by decide) (by decide) (by decide)]
      · rw [zu_a (by decide), zrw_a (by decide), k2.1 423 (by decide) (by decide) (by decide), FM0 423 (by decide), FA 423 (by decide) (by decide) (by decide) (by decide) (by decide)]
    · have h9 := hI.2.2.2.2.2.2.2.2.1
      unfold SCb at h9 ⊢
      rw [Q6, Q2 14 (by decide) (by decide) (by decide) (by decide) (by decide), Q2 33 (by decide) (by decide) (by decide) (by decide) (by decide), Q 1 (by decide) (by decide) (by decide), A14, A1 15 (by decide) (by decide), A1 16 (by decide) (by decide)]
      exact ⟨rfl, h9.2⟩
    · exact SCc_c hI.2.2.2.2.2.2.2.2.2 (G 420 (by decide) (by decide) (by decide) (by decide) (by decide) (by decide)) (Q2 41 (by decide) (by decide) (by decide) (by decide) (by decide)) (G 439 (by decide) (by decide) (by decide) (by decide) (by decide) (by decide))
end
