/-! calls that change: feed, end -/
def bt4 (x : Int32) (j : Nat) : Nat := (x.toBitVec.toNat / 2 ^ (24 - 8 * j)) % 256
def cb4 (x : Int32) (s : Nat) : Int32 := ((Int32.toUInt32 x >>> (Int32.toUInt32 (nI s) &&& Int32.toUInt32 (nI 31))).toInt32) &&& nI 255
def rb4 (x : Int32) (s : Nat) : Int32 := ((Int32.toInt8 (x >>> (nI s &&& nI 31))).toInt32).toInt8.toInt32
theorem bt4_lt (x : Int32) (j : Nat) : bt4 x j < 256 := Nat.mod_lt _ (by decide)
theorem cb4_e (x : Int32) {j : Nat} (hj : j < 4) : cb4 x (24 - 8 * j) = nI (bt4 x j) := by
  unfold cb4 bt4
  rw [pk_and _ 8 (by decide)]
  have : j = 0 ∨ j = 1 ∨ j = 2 ∨ j = 3 := by omega
  rcases this with e | e | e | e <;> subst e
  · exact congrArg (fun z => nI (z % 2 ^ 8)) (pk_ushr x (nI (24 - 8 * 0)) 24 (by decide))
  · exact congrArg (fun z => nI (z % 2 ^ 8)) (pk_ushr x (nI (24 - 8 * 1)) 16 (by decide))
  · exact congrArg (fun z => nI (z % 2 ^ 8)) (pk_ushr x (nI (24 - 8 * 2)) 8 (by decide))
  · exact congrArg (fun z => nI (z % 2 ^ 8)) (pk_ushr x (nI (24 - 8 * 3)) 0 (by decide))
theorem sb_i {y : Nat} (h : y < 256) : (sb y).toInt = if y < 128 then (y : Int) else (y : Int) - 256 := by
  unfold sb
  by_cases q : y < 128
  · rw [if_pos q, if_pos q, nI_toInt (by omega)]
  · rw [if_neg q, if_neg q, pk_sub_toInt (by omega) (by decide)]
    rfl
theorem rb4_e (x : Int32) {j : Nat} (hj : j < 4) : rb4 x (24 - 8 * j) = sb (bt4 x j) := by
  have hX : x.toInt = if 2 * x.toBitVec.toNat < 2 ^ 32 then (x.toBitVec.toNat : Int) else (x.toBitVec.toNat : Int) - ((2 ^ 32 : Nat) : Int) := BitVec.toInt_eq_toNat_cond x.toBitVec
  have hlt := x.toBitVec.isLt
  apply Int32.toInt_inj.mp
  rw [sb_i (bt4_lt x j)]
  unfold rb4 bt4
  rw [Int8.toInt_toInt32, Int32.toInt_toInt8, Int8.toInt_toInt32, Int32.toInt_toInt8]
  generalize x.toBitVec.toNat = X at hX hlt
  have key : ∀ k : Nat, (k = 0 ∨ k = 8 ∨ k = 16 ∨ k = 24) → ((x.toInt >>> k).bmod (2 ^ 8)).bmod (2 ^ 8) = if X / 2 ^ k % 256 < 128 then ((X / 2 ^ k % 256 : Nat) : Int) else ((X / 2 ^ k % 256 : Nat) : Int) - 256 := by
    intro k hk
    rw [Int.shiftRight_eq_div_pow, Int.bmod_def, Int.bmod_def, hX]
    rcases hk with e | e | e | e <;> subst e <;> simp only [Nat.reducePow] <;> (repeat' split) <;> omega
  have : j = 0 ∨ j = 1 ∨ j = 2 ∨ j = 3 := by omega
  rcases this with e | e | e | e <;> subst e
  · rw [pk_shr x _ 24 (by decide)]; exact key 24 (by decide)
  · rw [pk_shr x _ 16 (by decide)]; exact key 16 (by decide)
  · rw [pk_shr x _ 8 (by decide)]; exact key 8 (by decide)
  · rw [pk_shr x _ 0 (by decide)]; exact key 0 (by decide)
theorem WI_c {v v' : Nat → Int32} (h : WI v) (e : ∀ k, k < 189 → v' k = v k) : WI v' := by
  obtain ⟨l, lw, lc, hC, hP, hG⟩ := h
  refine ⟨l, lw, lc, CIr_cong hC (fun k hk => e k (by omega)), fun p hp => ?_, GIr_cong hG (fun k _ h2 => e k (by omega))⟩
  rw [e (97 + p) (by omega), e (113 + p) (by omega), e (121 + p) (by omega), e (105 + p) (by omega)]
  obtain ⟨h1, h2, h3, h4⟩ := hP p hp
  refine ⟨h1, h2, h3, fun q => ?_⟩
  obtain ⟨l', hl⟩ := h4 q
  exact ⟨l', Lk_only hl (fun j hj => e _ (by omega))⟩
/-- what one call keeps, by parts -/
theorem IV_tape {c : Nat} {g : zS} {mi mi' : Nat → Nat → Int32} (h : IV c g mi) (F : ∀ a, a ≠ 408 → a ≠ 409 → a ≠ 429 → a ≠ 430 → a ≠ 422 → mi' a = mi a) (F2 : ∀ k, k ≠ 13 → mi' 422 k = mi 422 k) (hT : TA mi') : IV (c + 1) g mi' := by
  obtain ⟨h1, h2, h3, h4, h5, ⟨h6, h6'⟩, h7, h8, h9, h10⟩ := h
  have G : ∀ a, a < 408 ∨ (409 < a ∧ a < 422) ∨ (422 < a ∧ a < 429) ∨ 430 < a → mi' a = mi a := fun a ha => F a (by omega) (by omega) (by omega) (by omega) (by omega)
  have e424 : mi' 424 = mi 424 := G 424 (by decide)
  have L : ∀ a, 439 < a → a ≤ g.2.2.2.1 → mi' a = mi a := fun a q _ => G a (by omega)
  refine ⟨RM_w h1, by rw [e424]; exact PW_e h2 (by omega) (fun a _ _ => G a (by omega)), by rw [e424]; exact RU_c h3 (fun _ _ _ => rfl) (G 25 (by decide)) L, by rw [e424]; exact CU_c h4 (fun _ _ _ => rfl) (G 27 (by decide)) (G 28 (by decide)) (G 29 (by decide)), HI_c h5 (by omega) (G 30 (by decide)) (G 32 (by decide)) (F2 31 (by decide)) (G 435 (by decide)) (fun a _ _ => G a (by omega)), ⟨IM_e h6 (by omega) (G 426 (by decide)) (G 376 (by decide)) (G 425 (by decide)) (fun a _ _ => G a (by omega)) (G 387 (by decide)) (G 388 (by decide)) (G 389 (by decide)) (G 390 (by decide)) L, IM_e h6' (by omega) (G 426 (by decide)) (G 392 (by decide)) (G 425 (by decide)) (fun a _ _ => G a (by omega)) (G 403 (by decide)) (G 404 (by decide)) (G 405 (by decide)) (G 406 (by decide)) L⟩, hT, SCa_c h8 (by rw [G 1 (by decide)]) (G 419 (by decide)) (F2 0 (by decide)) (G 423 (by decide)), ?_, SCc_c h10 (G 420 (by decide)) (F2 41 (by decide)) (G 439 (by decide))⟩
  unfold SCb at h9 ⊢
  rw [G 1 (by decide), F2 6 (by decide), F2 14 (by decide), F2 33 (by decide)]; exact h9
section
variable {g : zS} {mi : Nat → Nat → Int32} {ml : Nat → Nat → Int64} {n : Nat}
theorem cl_end (a : Int32) : CALL (f_X11_end n 1 a) (f_X12_end n 422 a) := by
  intro c g mi ml hc hI
  have hs := hI.1.1
  obtain ⟨b, len, t1, t2, t3⟩ := hI.2.2.2.2.2.2.1
  have hl := t1.2.1
  have uX : f_X11_end n 1 a (g, mi, ml) = if a < nI 0 then some (m1, (g, mi, ml)) else if a ≤ nI len then some (a, (g, zu mi 408 1 a, ml)) else some (m1, (g, mi, ml)) := by
    unfold f_X11_end
    simp only [li, ng1]
    rw [S_gR1_9 hs, S_gI408 hs, t1.1, S_gR1_9 hs, S_pI408 hs]
  have uY : ∀ mi, mi 422 13 = nI len → f_X12_end n 422 a (g, mi, ml) = if a < nI 0 then some (m1, (g, mi, ml)) else if nI len < a then some (m1, (g, mi, ml)) else some (a, (g, zu mi 422 13 a, ml)) := by
    intro mi hm
    unfold f_X12_end f_X12_lies
    simp only [li, ng1]
    rw [S_gI422 hs, hm]
    by_cases q : a < nI 0
    · rw [iP q, zb_s, iP rfl, iP q]
    · rw [iN q]
      by_cases q2 : nI len < a
      · rw [iP q2, zb_s, iP rfl, iN q, iP q2]
      · rw [iN q2, zb_s, iN n01.symm, S_pI422 hs, iN q, iN q2]
  by_cases q : a < nI 0
  · exact ⟨m1, g, mi, ml, mi, ml, by rw [uX, iP q], by rw [uY mi t3, iP q], IV_VE hI (VE_r mi)⟩
  obtain ⟨i, hi, rfl⟩ := nI_of q
  by_cases q2 : i ≤ len
  · have e1 : zu mi 408 1 (nI i) 422 13 = nI len := by rw [zu_a (by decide)]; exact t3
    refine ⟨nI i, g, zu mi 408 1 (nI i), ml, zu (zu mi 408 1 (nI i)) 422 13 (nI i), ml, by rw [uX, iN q, iLe1 (by omega) (by omega) q2], by rw [uY _ e1, iN q, iLt0 (by omega) (by omega) q2], ?_⟩
    refine IV_tape hI (fun a h1 h2 h3 h4 h5 => by rw [zu_a h5, zu_a h1]) (fun k hk => by rw [zu_k hk, zu_a (by decide)]) ⟨b, i, ⟨?_, by omega, fun j hj => ?_⟩, ⟨by omega, fun j hj => ?_, ?_⟩, zu_s _ _ _ _⟩
    · rw [zu_a (by decide), zu_s]
    · rw [zu_a (by decide), zu_a (by decide)]; exact t1.2.2 j (by omega)
    · rw [zu_a (by decide), zu_a (by decide)]; exact t2.2.1 j (by omega)
    · rw [zu_a (by decide), zu_a (by decide)]; exact t2.2.2
  · exact ⟨m1, g, mi, ml, mi, ml, by rw [uX, iN q, iLe0 (by omega) (by omega) (by omega)], by rw [uY mi t3, iN q, iLt1 (by omega) (by omega) (by omega)], IV_VE hI (VE_r mi)⟩
theorem c_a1 (hs : Sy g) {len s f : Nat} {x : Int32} (hl : len < 400) (h : mi 408 1 = nI len) (hs2 : s < 32) : zlp3 (fb_X7_addFour_3 n) (f + 1) 408 x (nI s) (g, mi, ml) = zlp3 (fb_X7_addFour_3 n) f 408 x (nI s + -nI 8) (g, zu (zu mi 409 len (cb4 x s)) 408 1 (nI (len + 1)), ml) := by
  show fb_X7_addFour_3 n (zlp3 (fb_X7_addFour_3 n) f) 408 x (nI s) (g, mi, ml) = _
  generalize zlp3 (fb_X7_addFour_3 n) f = K
  unfold fb_X7_addFour_3
  simp only [li]
  rw [iLt0 (by omega) (by omega) (by omega), S_gI408 hs, h, iLe0 (by omega) (by omega) (by omega), S_gR408_0 hs, S_gI408 hs, h, S_eI409 hs hl, S_gI408 hs, zu_a (by decide), h, S_pI408 hs, nI_add]
  rfl
theorem c_add4 (hs : Sy g) (hn : 3000 < n) {len : Nat} {x : Int32} (hl : len + 4 ≤ 400) (h : mi 408 1 = nI len) : ∃ mi', f_X7_addFour n 408 x (g, mi, ml) = some ((), (g, mi', ml)) ∧ (∀ a, a ≠ 408 → a ≠ 409 → mi' a = mi a) ∧ mi' 408 1 = nI (len + 4) ∧ (∀ i, i < len → mi' 409 i = mi 409 i) ∧ ∀ j, j < 4 → mi' 409 (len + j) = nI (bt4 x j) := by
  obtain ⟨f, hf⟩ : ∃ f, n = f + 5 := ⟨n - 5, by omega⟩
  have e0 : zlp3 (fb_X7_addFour_3 n) n 408 x (nI 24) (g, mi, ml) = zlp3 (fb_X7_addFour_3 n) (f + 5) 408 x (nI 24) (g, mi, ml) := by rw [← hf]
  have s1 : nI 24 + -nI 8 = nI 16 := by decide
  have s2 : nI 16 + -nI 8 = nI 8 := by decide
  have s3 : nI 8 + -nI 8 = nI 0 := by decide
  have eS : ∀ (m : Nat → Nat → Int32) (k : Nat) (z : Int32), zu m 408 1 z 408 1 = z := fun m k z => zu_s _ _ _ _
  refine ⟨zu (zu (zu (zu (zu (zu (zu (zu mi 409 len (cb4 x 24)) 408 1 (nI (len + 1))) 409 (len + 1) (cb4 x 16)) 408 1 (nI (len + 2))) 409 (len + 2) (cb4 x 8)) 408 1 (nI (len + 3))) 409 (len + 3) (cb4 x 0)) 408 1 (nI (len + 4)), ?_, fun a h1 h2 => ?_, zu_s _ _ _ _, fun i hi => ?_, fun j hj => ?_⟩
  · unfold f_X7_addFour
    simp only [li]
    rw [e0, c_a1 hs (by omega) h (by omega), s1, c_a1 hs (len := len + 1) (by omega) (zu_s _ _ _ _) (by omega), s2, c_a1 hs (len := len + 2) (by omega) (zu_s _ _ _ _) (by omega), s3, c_a1 hs (len := len + 3) (by omega) (zu_s _ _ _ _) (by omega)]
    show fb_X7_addFour_3 n (zlp3 (fb_X7_addFour_3 n) f) 408 x (nI 0 + -nI 8) _ = _
    unfold fb_X7_addFour_3
    rw [if_pos (by decide)]
  · rw [zu_a h1, zu_a h2, zu_a h1, zu_a h2, zu_a h1, zu_a h2, zu_a h1, zu_a h2]
  · rw [zu_a (by decide), zu_k (by omega), zu_a (by decide), zu_k (by omega), zu_a (by decide), zu_k (by omega), zu_a (by decide), zu_k (by omega)]
  · have : j = 0 ∨ j = 1 ∨ j = 2 ∨ j = 3 := by omega
    rcases this with e | e | e | e <;> subst e
    · rw [zu_a (by decide), zu_k (by omega), zu_a (by decide), zu_k (by omega), zu_a (by decide), zu_k (by omega), zu_a (by decide)]
      exact (zu_s _ _ _ _).trans (cb4_e x (j := 0) (by decide))
    · rw [zu_a (by decide), zu_k (by omega), zu_a (by decide), zu_k (by omega), zu_a (by decide)]
      exact (zu_s _ _ _ _).trans (cb4_e x (j := 1) (by decide))
    · rw [zu_a (by decide), zu_k (by omega), zu_a (by decide)]
      exact (zu_s _ _ _ _).trans (cb4_e x (j := 2) (by decide))
    · rw [zu_a (by decide)]
      exact (zu_s _ _ _ _).trans (cb4_e x (j := 3) (by decide))
theorem k4_t : ∀ k, k < 20 → nI k / nI 4 = nI (k / 4) ∧ (nI 24 - nI 8 * (nI k - nI (k / 4) * nI 4)) = nI (24 - 8 * (k % 4)) := by decide +kernel
theorem r_fd (hs : Sy g) {len : Nat} {xs : Nat → Int32} (hl : len + 20 ≤ 400) : ∀ (r k f : Nat) (mi : Nat → Nat → Int32), k + r = 20 → r < f → mi 422 13 = nI len → (∀ j, j < 5 → mi 430 j = xs j) → ∃ mi', zlp2 (fb_X12_feed_55 n) f 422 (nI k) (g, mi, ml) = some (nI (len + 20), (g, mi', ml)) ∧ (∀ a, a ≠ 422 → a ≠ 429 → mi' a = mi a) ∧ (∀ j, j ≠ 13 → mi' 422 j = mi 422 j) ∧ mi' 422 13 = nI (len + 20) ∧ (∀ i, i < len + k → mi' 429 i = mi 429 i) ∧ ∀ j, k ≤ j → j < 20 → mi' 429 (len + j) = sb (bt4 (xs (j / 4)) (j % 4))
  | r, k, 0, mi, _, h, _, _ => absurd h (by omega)
  | 0, k, f + 1, mi, h1, _, h3, h4 => by
    refine ⟨zu mi 422 13 (nI (len + 20)), ?_, fun a h5 _ => zu_a h5, fun j hj => zu_k hj, zu_s _ _ _ _, fun i _ => by rw [zu_a (by decide)], fun j h5 h6 => absurd h6 (by omega)⟩
    show fb_X12_feed_55 n (zlp2 (fb_X12_feed_55 n) f) 422 (nI k) (g, mi, ml) = _
    generalize zlp2 (fb_X12_feed_55 n) f = K
    unfold fb_X12_feed_55 fb_X12_feed_101
    simp only [li]
    rw [iLe1 (by omega) (by omega) (by omega), S_gI422 hs, h3, S_pI422 hs, S_gI422 hs, nI_add, zu_s]
  | r + 1, k, f + 1, mi, h1, h2, h3, h4 => by
    obtain ⟨t1, t2⟩ := k4_t k (by omega)
    obtain ⟨mi', p1, p2, p3, p4, p5, p6⟩ := r_fd (xs := xs) hs hl r (k + 1) f (zu mi 429 (len + k) (sb (bt4 (xs (k / 4)) (k % 4)))) (by omega) (by omega) (by rw [zu_a (by decide)]; exact h3) (fun j hj => by rw [zu_a (by decide)]; exact h4 j hj)
    refine ⟨mi', ?_, fun a h5 h6 => by rw [p2 a h5 h6, zu_a h6], fun j hj => by rw [p3 j hj, zu_a (by decide)], p4, fun i hi => by rw [p5 i (by omega), zu_k (by omega)], fun j h5 h6 => ?_⟩
    · rw [← p1]
      show fb_X12_feed_55 n (zlp2 (fb_X12_feed_55 n) f) 422 (nI k) (g, mi, ml) = _
      generalize zlp2 (fb_X12_feed_55 n) f = K
      unfold fb_X12_feed_55
      simp only [li]
      rw [iLe0 (by omega) (by omega) (by omega), S_gR422_11 hs, S_gI422 hs, h3, S_gR422_12 hs, t1, t2, S_aI430 hs (by omega), h4 _ (by omega), nI_add, S_eB429 hs (by omega), nI_add]
      have e := rb4_e (xs (k / 4)) (j := k % 4) (by omega)
      unfold rb4 at e
      rw [e]
    · by_cases q : j = k
      · subst q
        rw [p5 _ (by omega), zu_s]
      · exact p6 j (by omega) h6
theorem cl_feed (hn : 3000 < n) (a b d e x : Int32) : CALL (f_X11_feed n 1 a b d e x) (f_X12_feed n 422 a b d e x) := by
  intro c g mi ml hc hI
  have hs := hI.1.1
  obtain ⟨bb, len, t1, t2, t3⟩ := hI.2.2.2.2.2.2.1
  have hl := t1.2.1
  by_cases q : len + 20 ≤ 400
  · obtain ⟨m1', a1, a2, a3, a4, a5⟩ := c_add4 (ml := ml) (x := a) hs hn (by omega) t1.1
    obtain ⟨m2', b1, b2, b3, b4, b5⟩ := c_add4 (ml := ml) (x := b) hs hn (by omega) a3
    obtain ⟨m3', c1, c2, c3, c4, c5⟩ := c_add4 (ml := ml) (x := d) hs hn (by omega) b3
    obtain ⟨m4', d1, d2, d3, d4, d5⟩ := c_add4 (ml := ml) (x := e) hs hn (by omega) c3
    obtain ⟨m5', e1, e2, e3, e4, e5⟩ := c_add4 (ml := ml) (x := x) hs hn (by omega) d3
    have F5 : ∀ k, k ≠ 408 → k ≠ 409 → m5' k = mi k := fun k h1 h2 => by rw [e2 k h1 h2, d2 k h1 h2, c2 k h1 h2, b2 k h1 h2, a2 k h1 h2]
    have hX : f_X11_feed n 1 a b d e x (g, mi, ml) = some (nI (len + 20), (g, m5', ml)) := by
      unfold f_X11_feed
      simp only [li, ng1]
      rw [S_gR1_9 hs, S_gI408 hs, t1.1, nI_add, iLe1 (by omega) (by omega) q, S_gR1_9 hs, S_ck408 hs, a1, zb_s, S_gR1_9 hs, S_ck408 hs, b1, zb_s, S_gR1_9 hs, S_ck408 hs, c1, zb_s, S_gR1_9 hs, S_ck408 hs, d1, zb_s, S_gR1_9 hs, S_ck408 hs, e1, zb_s, S_gR1_9 hs, S_gI408 hs, e3]
    have xsd : ∃ xs : Nat → Int32, xs 0 = a ∧ xs 1 = b ∧ xs 2 = d ∧ xs 3 = e ∧ xs 4 = x := ⟨fun j => if j = 0 then a else if j = 1 then b else if j = 2 then d else if j = 3 then e else x, rfl, rfl, rfl, rfl, rfl⟩
    obtain ⟨xs, x0, x1, x2, x3, x4⟩ := xsd
    have hf5 : ∀ j, j < 5 → zu (zu (zu (zu (zu m5' 430 0 a) 430 1 b) 430 2 d) 430 3 e) 430 4 x 430 j = xs j := by
      intro j hj
      have : j = 0 ∨ j = 1 ∨ j = 2 ∨ j = 3 ∨ j = 4 := by omega
      rcases this with z | z | z | z | z <;> subst z
      · rw [zu_k (by decide), zu_k (by decide), zu_k (by decide), zu_k (by decide), zu_s, x0]
      · rw [zu_k (by decide), zu_k (by decide), zu_k (by decide), zu_s, x1]
      · rw [zu_k (by decide), zu_k (by decide), zu_s, x2]
      · rw [zu_k (by decide), zu_s, x3]
      · rw [zu_s, x4]
    have fr430 : ∀ k, k ≠ 430 → zu (zu (zu (zu (zu m5' 430 0 a) 430 1 b) 430 2 d) 430 3 e) 430 4 x k = m5' k := fun k hk => by rw [zu_a hk, zu_a hk, zu_a hk, zu_a hk, zu_a hk]
    have t35 : m5' 422 13 = nI len := by rw [F5 422 (by decide) (by decide)]; exact t3
    obtain ⟨m6', f1, f2, f3, f4, f5, f6⟩ := r_fd (ml := ml) (n := n) hs q 20 0 n (zu (zu (zu (zu (zu m5' 430 0 a) 430 1 b) 430 2 d) 430 3 e) 430 4 x) rfl (by omega) (by rw [fr430 422 (by decide)]; exact t35) hf5
    have hY : f_X12_feed n 422 a b d e x (g, m5', ml) = some (nI (len + 20), (g, m6', ml)) := by
      unfold f_X12_feed
      simp only [li, ng1]
      rw [S_gI422 hs, t35, nI_add, iLe1 (by omega) (by omega) q, S_gR422_12 hs, S_eI430 hs (by decide), S_gR422_12 hs, S_eI430 hs (by decide), S_gR422_12 hs, S_eI430 hs (by decide), S_gR422_12 hs, S_eI430 hs (by decide), S_gR422_12 hs, S_eI430 hs (by decide), f1]
    refine ⟨_, g, m5', ml, m6', ml, hX, hY, ?_⟩
    have F6 : ∀ k, k ≠ 408 → k ≠ 409 → k ≠ 429 → k ≠ 430 → k ≠ 422 → m6' k = mi k := fun k h1 h2 h3 h4 h5 => by rw [f2 k h5 h3, fr430 k h4, F5 k h1 h2]
    have e408 : m6' 408 = m5' 408 := by rw [f2 408 (by decide) (by decide), fr430 408 (by decide)]
    have e409 : m6' 409 = m5' 409 := by rw [f2 409 (by decide) (by decide), fr430 409 (by decide)]
    have e429 : ∀ i, i < len → m6' 429 i = mi 429 i := fun i hi => by rw [f5 i (by omega), fr430 429 (by decide), F5 429 (by decide) (by decide)]
    have e428 : m6' 428 = mi 428 := F6 428 (by decide) (by decide) (by decide) (by decide) (by decide)
    have new : ∀ j, j < 20 → m5' 409 (len + j) = nI (bt4 (xs (j / 4)) (j % 4)) := by
      intro j hj
      by_cases z0 : j < 4
      · have : j / 4 = 0 ∧ j % 4 = j := by omega
        rw [this.1, this.2, x0, e4 _ (by omega), d4 _ (by omega), c4 _ (by omega), b4 _ (by omega)]
        exact a5 j z0
      by_cases z1 : j < 8
      · have : j / 4 = 1 ∧ j % 4 = j - 4 ∧ len + j = len + 4 + (j - 4) := by omega
        rw [this.1, this.2.1, this.2.2, x1, e4 _ (by omega), d4 _ (by omega), c4 _ (by omega)]
        exact b5 (j - 4) (by omega)
      by_cases z2 : j < 12
      · have : j / 4 = 2 ∧ j % 4 = j - 8 ∧ len + j = len + 4 + 4 + (j - 8) := by omega
        rw [this.1, this.2.1, this.2.2, x2, e4 _ (by omega), d4 _ (by omega)]
        exact c5 (j - 8) (by omega)
      by_cases z3 : j < 16
      · have : j / 4 = 3 ∧ j % 4 = j - 12 ∧ len + j = len + 4 + 4 + 4 + (j - 12) := by omega
        rw [this.1, this.2.1, this.2.2, x3, e4 _ (by omega)]
        exact d5 (j - 12) (by omega)
      · have : j / 4 = 4 ∧ j % 4 = j - 16 ∧ len + j = len + 4 + 4 + 4 + 4 + (j - 16) := by omega
        rw [this.1, this.2.1, this.2.2, x4]
        exact e5 (j - 16) (by omega)
    refine IV_tape hI F6 (fun k hk => by rw [f3 k hk, fr430 422 (by decide), F5 422 (by decide) (by decide)]) ⟨fun i => if i < len then bb i else bt4 (xs ((i - len) / 4)) ((i - len) % 4), len + 20, ⟨by rw [e408]; exact e3, q, fun i hi => ?_⟩, ⟨q, fun i hi => ?_, by rw [e428]; exact t2.2.2⟩, f4⟩
    · rw [e409]
      by_cases z : i < len
      · simp only [z, if_T]
        rw [e4 _ (by omega), d4 _ (by omega), c4 _ (by omega), b4 _ (by omega), a4 _ (by omega)]
        exact t1.2.2 i z
      · simp only [z, if_F]
        have : len + (i - len) = i := by omega
        have e := new (i - len) (by omega)
        rw [this] at e
        exact ⟨e, bt4_lt _ _⟩
    · by_cases z : i < len
      · simp only [z, if_T]
        rw [e429 i z]
        exact t2.2.1 i z
      · simp only [z, if_F]
        have : len + (i - len) = i := by omega
        have e := f6 (i - len) (by omega) (by omega)
        rw [this] at e
        exact ⟨e, bt4_lt _ _⟩
  · refine ⟨m1, g, mi, ml, mi, ml, ?_, ?_, IV_VE hI (VE_r mi)⟩
    · unfold f_X11_feed
      simp only [li, ng1]
      rw [S_gR1_9 hs, S_gI408 hs, t1.1, nI_add, iLe0 (by omega) (by omega) (by omega)]
    · unfold f_X12_feed
      simp only [li, ng1]
      rw [S_gI422 hs, t3, nI_add, iLe0 (by omega) (by omega) (by omega)]
end
