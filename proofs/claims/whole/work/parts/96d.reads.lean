/-! calls that only look: least, why, count -/
theorem and1_t : ∀ m, m < 4 → (nI m &&& nI 1 = nI 0 ↔ Nat.testBit m 0 = false) := by decide
theorem lf_t : ∀ a, a < 4 → ∀ b, b < 4 → ∀ c, c < 4 → ∀ d, d < 4 → ∀ q, q < 4 → (nI (a + 4 * b + 16 * c + 64 * d) >>> ((nI 2 * nI q) &&& nI 31)) &&& nI 3 = nI (if q = 0 then a else if q = 1 then b else if q = 2 then c else d) := by decide +kernel
theorem hl_t : ∀ b, b < 256 → ∀ q, q < 4 → ((nI b >>> ((nI 2 * nI q) &&& nI 31)) &&& nI 1 = nI 0 ↔ Nat.testBit b (2 * q) = false) := by decide +kernel
def chd (m : Nat) : Nat := if Nat.testBit m 0 = true then 0 else 1
theorem chd_le (m : Nat) : chd m ≤ 1 := by unfold chd; split <;> omega
section
variable {g : zS} {mi : Nat → Nat → Int32} {v : Nat → Int32} {ml : Nat → Nat → Int64} {n : Nat} {N : Nat → Nat}
theorem r_isOn (hs : Sy g) (hv : mi 424 = v) {p : Nat} (hp : p < 8) : f_X12_isOn n 422 (nI p) (g, mi, ml) = some (if v (97 + p) = nI 1 then nI 1 else nI 0, (g, mi, ml)) := by
  unfold f_X12_isOn
  simp only [li]
  rw [S_gR422_2 hs, nI_add, S_aI424 hs (by omega), hv]
  by_cases q : v (97 + p) = nI 1
  · rw [iP q, iP q]
  · rw [iN q, iN q]
theorem r_isPk (hs : Sy g) (hv : mi 424 = v) {p : Nat} (hp : p < 8) : f_X12_isParked n 422 (nI p) (g, mi, ml) = some (if v (113 + p) = nI 1 then nI 1 else nI 0, (g, mi, ml)) := by
  unfold f_X12_isParked
  simp only [li]
  rw [S_gR422_2 hs, nI_add, S_aI424 hs (by omega), hv]
  by_cases q : v (113 + p) = nI 1
  · rw [iP q, iP q]
  · rw [iN q, iN q]
theorem bI_i (b p : Nat) : (if bI b p = nI 1 then nI 1 else nI 0) = (if Nat.testBit b p = true then nI 1 else nI 0) := by unfold bI; cases Nat.testBit b p <;> rfl
theorem m1_n : m1 = nI 4294967295 := by decide
theorem cl_least (hn : 3000 < n) : LOOKV (f_X11_least n 1) (f_X12_least n 422) := by
  intro g mi ml v hv hs hR hI
  obtain ⟨l, lw, lc, hC, hP, hG⟩ := hI
  have em : zrw mi 424 v = mi := by rw [← hv]; exact u24
  obtain ⟨N, hN⟩ := GIr_N hG
  obtain ⟨u1, u2⟩ := un_b (fun s h1 h2 => (hN.1 s h1 h2).1)
  have hr := r_runs0 (ml := ml) (n := n) hs hv (GIr_r hG)
  rcases GIr_r hG with q | q
  · refine ⟨m1, ?_, ?_⟩
    · unfold f_X11_least
      simp only [li, ng1]
      rw [S_gR1_0 hs, W_gI hs w2c, rd_runs hR, iP q]
    · unfold f_X12_least
      simp only [li, ng1]
      rw [S_ck422 hs, hr, zb_s, iP q]
  · obtain ⟨a, a1, a2, a3⟩ := hR.2.2.1
    obtain ⟨b, b1', b2, b3⟩ := hR.2.2.2.1
    obtain ⟨d, d1, d2, d3⟩ := hR.2.2.2.2
    have hW : (nI a &&& (nI b ^^^ m1)) &&& nI (un N) = nI ((a &&& (b ^^^ 4294967295)) &&& un N) := by
      rw [m1_n, nI_xor, nI_and, nI_and]
    have hWl : (a &&& (b ^^^ 4294967295)) &&& un N < 256 := Nat.and_lt_two_pow (n := 8) _ u1
    have hWt : ∀ p, p < 8 → Nat.testBit ((a &&& (b ^^^ 4294967295)) &&& un N) p = (Nat.testBit a p && !Nat.testBit b p && Nat.testBit (un N) p) := fun p hp => by
      have : Nat.testBit 4294967295 p = true := by
        have : ∀ p, p < 8 → Nat.testBit 4294967295 p = true := by decide
        exact this p hp
      rw [Nat.testBit_and, Nat.testBit_and, Nat.testBit_xor, this]
      cases Nat.testBit b p <;> rfl
    have lY : ∀ (r p f x : Nat), p + r = 8 → r < f → zlp3 (fb_X12_least_13 n) f 422 (nI x) (nI p) (g, mi, ml) = some (nI (sm (fun p => b1 (Nat.testBit (un N) p) + (b1 (Nat.testBit d p) + b1 (Nat.testBit ((a &&& (b ^^^ 4294967295)) &&& un N) p))) r p x), (g, mi, ml)) := by
      intro r
      induction r with
      | zero =>
        intro p f x h1 h2
        cases f with
        | zero => omega
        | succ f =>
          show fb_X12_least_13 n (zlp3 (fb_X12_least_13 n) f) 422 (nI x) (nI p) (g, mi, ml) = _
          unfold fb_X12_least_13
          simp only [li]
          rw [iLe1 (by omega) (by omega) (by omega)]
          rfl
      | succ r ih =>
        intro p f x h1 h2
        cases f with
        | zero => omega
        | succ f =>
          have hp : p < 8 := by omega
          have e1 := r_hasReported (M := mi) (v := v) (ml := ml) (n := n) hs hN hp
          have e2 := r_isHeld (M := mi) (v := v) (ml := ml) (n := n) hs hp
          rw [em] at e1 e2
          have e3 := r_isOn (ml := ml) (n := n) hs hv hp
          have e4 := r_isPk (ml := ml) (n := n) hs hv hp
          rw [d3 p hp, bI_i] at e2
          rw [a3 p hp, bI_i] at e3
          rw [b3 p hp, bI_i] at e4
          rw [← u2 p hp] at e1
          have hHB : Nat.testBit d p = true → Nat.testBit b p = true := fun z => by
            have := (hP p hp).2.2.1 (by rw [d3 p hp, bI_1]; exact z)
            rw [b3 p hp, bI_1] at this
            exact this
          show fb_X12_least_13 n (zlp3 (fb_X12_least_13 n) f) 422 (nI x) (nI p) (g, mi, ml) = some (nI (sm _ r (p + 1) (x + (b1 (Nat.testBit (un N) p) + (b1 (Nat.testBit d p) + b1 (Nat.testBit ((a &&& (b ^^^ 4294967295)) &&& un N) p))))), _)
          rw [hWt p hp]
          generalize hK : zlp3 (fb_X12_least_13 n) f = K
          unfold fb_X12_least_13 fb_X12_least_33 fb_X12_least_68 fb_X12_least_72 fb_X12_least_73
          simp only [li, q_let]
          have ih' : ∀ y, K 422 (nI y) (nI (p + 1)) (g, mi, ml) = some (nI (sm (fun p => b1 (Nat.testBit (un N) p) + (b1 (Nat.testBit d p) + b1 (Nat.testBit ((a &&& (b ^^^ 4294967295)) &&& un N) p))) r (p + 1) y), (g, mi, ml)) := fun y => by rw [← hK]; exact ih (p + 1) f y (by omega) (by omega)
          rw [iLe0 (by omega) (by omega) (by omega)]
          simp only [↓S_ck422 hs, e1, e2, e3, e4, zb_s, nI_add, ih']
          revert hHB
          cases Nat.testBit (un N) p <;> cases Nat.testBit d p <;> cases Nat.testBit a p <;> cases Nat.testBit b p <;> intro hHB <;> first | rfl | exact absurd (hHB rfl) (by simp)
    refine ⟨nI (sm (fun p => b1 (Nat.testBit (un N) p)) 8 0 0 + sm (fun p => b1 (Nat.testBit d p)) 8 0 0 + sm (fun p => b1 (Nat.testBit ((a &&& (b ^^^ 4294967295)) &&& un N) p)) 8 0 0), ?_, ?_⟩
    · unfold f_X11_least
      simp only [li, ng1]
      rw [S_gR1_0 hs, W_gI hs w2c, rd_runs hR, iN (by rw [q]; exact n01.symm), S_gR1_0 hs, W_ck hs w2c, c_unreported hs w2c hR hN, zb_s, S_gR1_0 hs, W_gI hs w2c, S_gR1_0 hs, W_gI hs w2c, q_let, bcE_e, zb_s, S_gR1_0 hs, W_gI hs w2c, bcE_e, zb_s, bcE_e, zb_s, a2, b2, d2, hW, bc_t _ u1, bc_t _ d1, bc_t _ hWl, nI_add, nI_add]
    · unfold f_X12_least
      simp only [li, ng1]
      rw [S_ck422 hs, hr, zb_s, iN (by rw [q]; exact n01.symm), lY 8 0 n 0 rfl (by omega), sm_3]
/-- what is behind a node -/
def bhn (N : Nat → Nat) (v : Nat → Int32) (q : Nat) : Nat := if q < 4 then 2 * q + chd (N q) else if N q = 0 then 20 + (if v (121 + 2 * (q - 4)) = nI 0 then 2 * (q - 4) + 1 else 2 * (q - 4)) else 10 + 2 * (q - 4) + chd (N q)
theorem r_bhn (hs : Sy g) (hv : mi 424 = v) (hN : GN v N) (hP : PIr v) {q : Nat} (h0 : 0 < q) (hq : q < 8) : f_X12_behindNode n 422 (nI q) (g, mi, ml) = some (nI (bhn N v q), (g, mi, ml)) := by
  have em : zrw mi 424 v = mi := by rw [← hv]; exact u24
  obtain ⟨n1, n2⟩ := hN.1 q h0 hq
  have e22 : ∀ s, s ≤ 1 → fb_X12_behindNode_22 n 422 (nI q) (nI s) (g, mi, ml) = some (nI (if q < 4 then 2 * q + s else if N q = 0 then 20 + (if v (121 + 2 * (q - 4)) = nI 0 then 2 * (q - 4) + 1 else 2 * (q - 4)) else 10 + 2 * (q - 4) + s), (g, mi, ml)) := by
    intro s hs1
    unfold fb_X12_behindNode_22
    simp only [li]
    by_cases z : q < 4
    · rw [iLe0 (by omega) (by omega) z, if_pos z, pk_mul, nI_add]
    · rw [iLe1 (by omega) (by omega) (by omega), if_neg z, q_let, S_gR422_2 hs, nI_add, S_aI424 hs (by omega), hv, n2, nI_sub (by omega), pk_mul, S_ck422 hs]
      have e2 := r_isHeld (M := mi) (v := v) (ml := ml) (n := n) hs (show 2 * (q - 4) < 8 by omega)
      rw [em] at e2
      by_cases y : N q = 0
      · rw [iEq1 y, if_pos y, e2, zb_s, nI_add, nI_add, nI_add]
        rcases (hP (2 * (q - 4)) (by omega)).1.2.2 with x | x
        · rw [if_pos x, iN (show ¬ v (121 + 2 * (q - 4)) = nI 1 by rw [x]; exact n01), iP rfl]
        · rw [if_neg (show ¬ v (121 + 2 * (q - 4)) = nI 0 by rw [x]; exact n01.symm), iP x, iN n01.symm]
      · rw [iEq0 (by omega) (by omega) y, if_neg y, nI_add, nI_add]
  unfold f_X12_behindNode f_X12_isIn
  simp only [li]
  rw [S_gR422_2 hs, nI_add, S_aI424 hs (by omega), hv, n2]
  unfold bhn chd
  by_cases z : Nat.testBit (N q) 0 = true
  · rw [iP ((isin_t (N q) n1 0 (by decide)).mpr z), zb_s, iN n01.symm, e22 0 (by decide), if_pos z]
  · rw [iN (fun y => z ((isin_t (N q) n1 0 (by decide)).mp y)), zb_s, iP rfl, e22 1 (by decide), if_neg z]
theorem un_e {q : Nat} (hq : q < 4) (N : Nat → Nat) : (if q = 0 then N 4 else if q = 1 then N 5 else if q = 2 then N 6 else N 7) = N (4 + q) := by
  have : q = 0 ∨ q = 1 ∨ q = 2 ∨ q = 3 := by omega
  rcases this with e | e | e | e <;> subst e <;> rfl
theorem c_whyLeaf (hs : Sy g) (hR : WR mi 2 v) (hN : GN v N) {q : Nat} (h0 : 4 ≤ q) (hq : q < 8) : f_X10_whyLeaf n 2 (nI q) (g, mi, ml) = some (nI (bhn N v q), (g, mi, ml)) := by
  obtain ⟨b, b1', b2, b3⟩ := hR.2.2.2.2
  obtain ⟨n1, n2⟩ := hN.1 q (by omega) hq
  have u : (nI (un N) >>> ((nI 2 * nI (q - 4)) &&& nI 31)) &&& nI 3 = nI (N q) := by
    have h4 := (hN.1 4 (by omega) (by omega)).1
    have h5 := (hN.1 5 (by omega) (by omega)).1
    have h6 := (hN.1 6 (by omega) (by omega)).1
    have h7 := (hN.1 7 (by omega) (by omega)).1
    have e := lf_t _ h4 _ h5 _ h6 _ h7 (q - 4) (by omega)
    rw [un_e (by omega)] at e
    have : 4 + (q - 4) = q := by omega
    rw [this] at e
    exact e
  have ht := hl_t b b1' (q - 4) (by omega)
  unfold f_X10_whyLeaf
  simp only [li]
  rw [nI_sub h0, q_let, W_ck hs w2c, c_unreported hs w2c hR hN, zb_s, q_let, u, W_gI hs w2c, b2]
  unfold bhn chd
  rw [if_neg (show ¬ q < 4 by omega)]
  by_cases y : N q = 0
  · rw [iEq1 y, if_pos y, pk_mul, nI_add, nI_add, nI_add, ← pk_mul, b3 _ (by omega)]
    by_cases z : Nat.testBit b (2 * (q - 4)) = false
    · rw [iP (ht.mpr z), if_pos (show bI b (2 * (q - 4)) = nI 0 by rw [bI_0]; exact z), Nat.add_assoc]
    · rw [iN (fun w => z (ht.mp w)), if_neg (show ¬ bI b (2 * (q - 4)) = nI 0 by rw [bI_0]; exact z), Nat.add_zero]
  · rw [iEq0 (by omega) (by omega) y, if_neg y, pk_mul, nI_add, nI_add, nI_add]
    by_cases z : Nat.testBit (N q) 0 = true
    · rw [iN (fun w => by rw [(and1_t _ n1).mp w] at z; exact absurd z (by simp)), if_pos z]
    · rw [iP ((and1_t _ n1).mpr (by simpa using z)), if_neg z]
theorem cl_why (hn : 3000 < n) (a : Int32) : LOOKV (f_X11_why n 1 a) (f_X12_why n 422 a) := by
  intro g mi ml v hv hs hR hI
  obtain ⟨l, lw, lc, hC, hP, hG⟩ := hI
  obtain ⟨N, hN⟩ := GIr_N hG
  have hr := r_runs0 (ml := ml) (n := n) hs hv (GIr_r hG)
  have sX : ∀ (i q k f : Nat), 0 < q → q < 4 → k < i → i < 4 → zlp4 (fb_X11_why_25 n) (f + 1) 1 (nI i) (nI q) (nI k) (g, mi, ml) = zlp4 (fb_X11_why_25 n) f 1 (nI i) (nI (bhn N v q)) (nI (k + 1)) (g, mi, ml) := by
    intro i q k f h0 hq hk hi
    obtain ⟨n1, n2⟩ := hN.1 q h0 (by omega)
    show fb_X11_why_25 n (zlp4 (fb_X11_why_25 n) f) 1 (nI i) (nI q) (nI k) (g, mi, ml) = _
    generalize zlp4 (fb_X11_why_25 n) f = K
    unfold fb_X11_why_25 fb_X11_why_57
    simp only [li, q_let]
    rw [iLe0 (by omega) (by omega) hk, iLe0 (by omega) (by omega) hq, S_gR1_0 hs, W_gR2 hs w2c, A_aI9 hs w2c (by omega), rd_miss hR h0 (by omega), n2, pk_mul, nI_add, nI_add, nI_add]
    unfold bhn chd
    rw [if_pos hq]
    by_cases z : Nat.testBit (N q) 0 = true
    · rw [iN (fun w => by rw [(and1_t _ n1).mp w] at z; exact absurd z (by simp)), if_pos z]
    · rw [iP ((and1_t _ n1).mpr (by simpa using z)), if_neg z]
  have xX : ∀ (i q k f : Nat), (i ≤ k ∨ (4 ≤ q ∧ q < 8)) → q < 8 → k < 4 → i < 4 → (i = 3 → 4 ≤ q) → zlp4 (fb_X11_why_25 n) (f + 1) 1 (nI i) (nI q) (nI k) (g, mi, ml) = some (nI (if i = 3 then bhn N v q else q), (g, mi, ml)) := by
    intro i q k f h1 h2 h3 h4 h5
    have e65 : fb_X11_why_65 n 1 (nI i) (nI q) (g, mi, ml) = some (nI (if i = 3 then bhn N v q else q), (g, mi, ml)) := by
      unfold fb_X11_why_65
      simp only [li]
      by_cases z : i = 3
      · rw [iLe1 (by omega) (by omega) (by omega), if_pos z, S_gR1_0 hs, W_ck hs w2c, c_whyLeaf hs hR hN (h5 z) h2, zb_s]
      · rw [iLe0 (by omega) (by omega) (by omega), if_neg z]
    show fb_X11_why_25 n (zlp4 (fb_X11_why_25 n) f) 1 (nI i) (nI q) (nI k) (g, mi, ml) = _
    unfold fb_X11_why_25
    simp only [li]
    rw [e65]
    by_cases z : i ≤ k
    · rw [iLe1 (by omega) (by omega) z]
    · rw [iLe0 (by omega) (by omega) (by omega), iLe1 (by omega) (by omega) (by omega)]
  have sY : ∀ (i q k f : Nat), 0 < q → q < 8 → k < i → k < 100 → i < 2147483648 → zlp4 (fb_X12_why_17 n) (f + 1) 422 (nI i) (nI q) (nI k) (g, mi, ml) = zlp4 (fb_X12_why_17 n) f 422 (nI i) (nI (bhn N v q)) (nI (k + 1)) (g, mi, ml) := by
    intro i q k f h0 hq hk hk2 hi
    show fb_X12_why_17 n (zlp4 (fb_X12_why_17 n) f) 422 (nI i) (nI q) (nI k) (g, mi, ml) = _
    generalize zlp4 (fb_X12_why_17 n) f = K
    unfold fb_X12_why_17
    simp only [li]
    rw [iLe0 (by omega) (by omega) hk, iLt1 (by omega) (by omega) (by omega), S_ck422 hs, r_bhn hs hv hN hP h0 hq, zb_s, nI_add]
  have xY : ∀ (i q k f : Nat), i ≤ k → k < 100 → q < 100 → zlp4 (fb_X12_why_17 n) (f + 1) 422 (nI i) (nI q) (nI k) (g, mi, ml) = some (nI q, (g, mi, ml)) := by
    intro i q k f h1 h2 h3
    show fb_X12_why_17 n (zlp4 (fb_X12_why_17 n) f) 422 (nI i) (nI q) (nI k) (g, mi, ml) = _
    unfold fb_X12_why_17
    simp only [li]
    rw [iLe1 (by omega) (by omega) h1]
  obtain ⟨f, hf⟩ : ∃ f, n = f + 5 := ⟨n - 5, by omega⟩
  have hlX : ∀ i : Int32, zlp4 (fb_X11_why_25 n) n 1 i (nI 1) (nI 0) (g, mi, ml) = zlp4 (fb_X11_why_25 n) (f + 5) 1 i (nI 1) (nI 0) (g, mi, ml) := fun i => by rw [← hf]
  have hlY : ∀ i : Int32, zlp4 (fb_X12_why_17 n) n 422 i (nI 1) (nI 0) (g, mi, ml) = zlp4 (fb_X12_why_17 n) (f + 5) 422 i (nI 1) (nI 0) (g, mi, ml) := fun i => by rw [← hf]
  have w1 : 2 ≤ bhn N v 1 ∧ bhn N v 1 < 4 := by
    have := chd_le (N 1)
    unfold bhn; rw [if_pos (by decide)]; omega
  have w2 : 4 ≤ bhn N v (bhn N v 1) ∧ bhn N v (bhn N v 1) < 8 := by
    have := chd_le (N (bhn N v 1))
    generalize bhn N v 1 = z at w1 this
    unfold bhn; rw [if_pos w1.2]; omega
  have w3 : 10 ≤ bhn N v (bhn N v (bhn N v 1)) ∧ bhn N v (bhn N v (bhn N v 1)) < 100 := by
    have := chd_le (N (bhn N v (bhn N v 1)))
    generalize bhn N v (bhn N v 1) = z at w2 this
    unfold bhn
    rw [if_neg (by omega)]
    by_cases y : N z = 0
    · rw [if_pos y]
      by_cases x : v (121 + 2 * (z - 4)) = nI 0
      · rw [if_pos x]; omega
      · rw [if_neg x]; omega
    · rw [if_neg y]; omega
  unfold f_X11_why f_X12_why
  simp only [li, ng1]
  rw [S_gR1_0 hs, W_gI hs w2c, rd_runs hR, S_ck422 hs, hr, zb_s]
  by_cases h : a < nI 0
  · rw [iP h, iP h]
    by_cases q : v 129 = nI 0
    · rw [iP q]; exact ⟨_, rfl, rfl⟩
    · rw [iN q]; exact ⟨_, rfl, rfl⟩
  rw [iN h, iN h]
  by_cases q : v 129 = nI 0
  · rw [iP q, iP q]; exact ⟨_, rfl, rfl⟩
  rw [iN q, iN q]
  obtain ⟨i, hi, rfl⟩ := nI_of h
  by_cases h4 : i < 4
  · rw [iLe1 (by omega) (by omega) (by omega), hlX, hlY]
    have : i = 0 ∨ i = 1 ∨ i = 2 ∨ i = 3 := by omega
    rcases this with e | e | e | e <;> subst e
    · exact ⟨_, xX 0 1 0 _ (Or.inl (by omega)) (by omega) (by omega) (by omega) (by omega), xY 0 1 0 _ (by omega) (by omega) (by omega)⟩
    · refine ⟨_, (sX 1 1 0 _ (by omega) (by omega) (by omega) (by omega)).trans (xX 1 _ 1 _ (Or.inl (by omega)) (by omega) (by omega) (by omega) (by omega)), ?_⟩
      exact (sY 1 1 0 _ (by omega) (by omega) (by omega) (by omega) (by omega)).trans (xY 1 _ 1 _ (by omega) (by omega) (by omega))
    · refine ⟨_, ((sX 2 1 0 _ (by omega) (by omega) (by omega) (by omega)).trans (sX 2 _ 1 _ (by omega) (by omega) (by omega) (by omega))).trans (xX 2 _ 2 _ (Or.inl (by omega)) (by omega) (by omega) (by omega) (by omega)), ?_⟩
      exact ((sY 2 1 0 _ (by omega) (by omega) (by omega) (by omega) (by omega)).trans (sY 2 _ 1 _ (by omega) (by omega) (by omega) (by omega) (by omega))).trans (xY 2 _ 2 _ (by omega) (by omega) (by omega))
    · refine ⟨_, ((sX 3 1 0 _ (by omega) (by omega) (by omega) (by omega)).trans (sX 3 _ 1 _ (by omega) (by omega) (by omega) (by omega))).trans (xX 3 _ 2 _ (Or.inr w2) (by omega) (by omega) (by omega) (fun _ => w2.1)), ?_⟩
      exact (((sY 3 1 0 _ (by omega) (by omega) (by omega) (by omega) (by omega)).trans (sY 3 _ 1 _ (by omega) (by omega) (by omega) (by omega) (by omega))).trans (sY 3 _ 2 _ (by omega) (by omega) (by omega) (by omega) (by omega))).trans (xY 3 _ 3 _ (by omega) (by omega) w3.2)
  · rw [iLe0 (by omega) (by omega) (by omega), hlY]
    refine ⟨m1, rfl, ?_⟩
    rw [sY i 1 0 _ (by omega) (by omega) (by omega) (by omega) (by omega), sY i _ 1 _ (by omega) (by omega) (by omega) (by omega) (by omega), sY i _ 2 _ (by omega) (by omega) (by omega) (by omega) (by omega)]
    show fb_X12_why_17 n (zlp4 (fb_X12_why_17 n) _) 422 (nI i) _ (nI 3) (g, mi, ml) = _
    unfold fb_X12_why_17
    simp only [li, ng1]
    rw [iLe0 (by omega) (by omega) (by omega), iLt0 (by omega) (by omega) w3.1]
end
