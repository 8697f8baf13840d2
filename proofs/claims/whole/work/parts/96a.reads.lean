/-! calls that only look -/
def CALL {ρ : Type} (X Y : zH → Option (ρ × zH)) : Prop := ∀ c g mi ml, c < 512 → IV c g mi → ∃ r g' mi' ml' mi'' ml'', X (g, mi, ml) = some (r, (g', mi', ml')) ∧ Y (g', mi', ml') = some (r, (g', mi'', ml'')) ∧ IV (c + 1) g' mi''
def LOOK (X Y : zH → Option (Int32 × zH)) : Prop := ∀ g mi ml, Sy g → WR mi 2 (mi 424) → WI (mi 424) → ∃ r, X (g, mi, ml) = some (r, (g, mi, ml)) ∧ Y (g, mi, ml) = some (r, (g, mi, ml))
theorem CALL_l {X Y : zH → Option (Int32 × zH)} (h : LOOK X Y) : CALL X Y := by
  intro c g mi ml _ hI
  obtain ⟨r, h1, h2⟩ := h g mi ml hI.1.1 hI.2.1.1 hI.2.1.2.1
  exact ⟨r, g, mi, ml, mi, ml, h1, h2, IV_VE hI (VE_r mi)⟩
theorem w2c : zWL.contains 2 = true := by decide
section
variable {g : zS} {mi : Nat → Nat → Int32} {v : Nat → Int32} {ml : Nat → Nat → Int64} {n : Nat}
theorem c_bit {x : Int32} {k p : Nat} (h : Bt x v k) (hp : p < 8) {H : zH} : f_X11_bitOf n x (nI 1 <<< (nI p &&& nI 31)) H = some (v (k + p), H) := by
  have h1 := Bt_c h hp
  obtain ⟨b, -, -, h3⟩ := h
  unfold f_X11_bitOf
  simp only [li]
  rcases bI_or b p with q | q
  · rw [h3 p hp, q] at h1 ⊢
    rw [iP (by rw [h1])]
  · rw [h3 p hp, q] at h1 ⊢
    rw [iN (by rw [h1]; exact n01.symm)]
theorem u24 : zrw mi 424 (mi 424) = mi := u_self mi 424
theorem cl_of (a b : Int32) : LOOK (f_X11_of n 1 a b) (f_X12_of n 422 a b) := by
  intro g mi ml hs hR hI
  obtain ⟨l, lw, lc, hC, hP, hG⟩ := hI
  obtain ⟨N, hN⟩ := GIr_N hG
  rcases pk_ix a (n := 8) (by decide) with ha | ha | ⟨p, hp, ha⟩
  · refine ⟨m1, ?_, ?_⟩
    · unfold f_X11_of
      simp only [li, ng1]
      rw [c_isP0 ha, zb_s, iP rfl]
    · unfold f_X12_of
      simp only [li, ng1]
      rw [r_isP0 ha, zb_s, iP rfl]
  · refine ⟨m1, ?_, ?_⟩
    · unfold f_X11_of
      simp only [li, ng1]
      rw [c_isP1 ha, zb_s, iP rfl]
    · unfold f_X12_of
      simp only [li, ng1]
      rw [r_isP1 ha, zb_s, iP rfl]
  subst ha
  obtain ⟨⟨p1, p2, p3⟩, p4, p5, p6⟩ := hP p hp
  have uX : f_X11_of n 1 (nI p) b (g, mi, ml) = if b = nI 0 then some (mi 424 (97 + p), (g, mi, ml)) else if b = nI 1 then some (if mi 424 (97 + p) = nI 0 then m1 else mi 424 (105 + p), (g, mi, ml)) else if b = nI 2 then some (mi 424 (113 + p), (g, mi, ml)) else if b = nI 3 then some (mi 424 (121 + p), (g, mi, ml)) else if b = nI 4 then some (if Nat.testBit (N (4 + p / 2)) (p % 2) = true then nI 0 else nI 1, (g, mi, ml)) else some (m1, (g, mi, ml)) := by
    unfold f_X11_of
    simp only [li, ng1, zswl]
    rw [c_isP hp, zb_s, iN n01.symm, q_let, S_gR1_0 hs, W_gI hs w2c, c_bit hR.2.2.1 hp, S_gR1_0 hs, W_ck hs w2c, c_cellOf hs w2c hR hp, S_gR1_0 hs, W_gI hs w2c, c_bit hR.2.2.2.1 hp, S_gR1_0 hs, W_gI hs w2c, c_bit hR.2.2.2.2 hp, S_gR1_0 hs, W_ck hs w2c, c_unreported hs w2c hR hN]
    obtain ⟨u1, u2⟩ := un_b (fun s h1 h2 => (hN.1 s h1 h2).1)
    have e4 : (zb (some (nI (un N), ((g, mi, ml) : zH))) fun r20 h21 => zb (f_X11_bitOf n r20 (nI 1 <<< (nI p &&& nI 31)) h21) fun r22 h23 => some (nI 1 - r22, h23)) = some (if Nat.testBit (N (4 + p / 2)) (p % 2) = true then nI 0 else nI 1, (g, mi, ml)) := by
      rw [zb_s]
      unfold f_X11_bitOf
      simp only [li]
      rw [anb_t (un N) u1 p hp, u2 p hp]
      by_cases z : Nat.testBit (N (4 + p / 2)) (p % 2) = true
      · rw [iP z, iN (sh_ne p hp), iP z, zb_s, show nI 1 - nI 1 = nI 0 by decide]
      · rw [iN z, iP rfl, iN z, zb_s, show nI 1 - nI 0 = nI 1 by decide]
    rw [e4]
    rfl
  have uY : f_X12_of n 422 (nI p) b (g, mi, ml) = if b = nI 0 then some (mi 424 (97 + p), (g, mi, ml)) else if b = nI 1 then some (if mi 424 (97 + p) = nI 1 then mi 424 (105 + p) else m1, (g, mi, ml)) else if b = nI 2 then some (mi 424 (113 + p), (g, mi, ml)) else if b = nI 3 then some (mi 424 (121 + p), (g, mi, ml)) else if b = nI 4 then some (if Nat.testBit (N (4 + p / 2)) (p % 2) = true then nI 0 else nI 1, (g, mi, ml)) else some (m1, (g, mi, ml)) := by
    have e1 := r_cellOf (M := mi) (v := mi 424) (ml := ml) (n := n) hs hp
    have e2 := r_hasReported (M := mi) (v := mi 424) (ml := ml) (n := n) hs hN hp
    rw [u24] at e1 e2
    unfold f_X12_of
    simp only [li, ng1, zswl]
    rw [r_isP hp, zb_s, iN n01.symm, nI_add, nI_add, nI_add, S_gR422_2 hs, S_aI424 hs (by omega), S_ck422 hs, e1, zb_s, S_gR422_2 hs, S_aI424 hs (by omega), S_gR422_2 hs, S_aI424 hs (by omega), S_ck422 hs, e2, zb_s]
    have e4 : (if (if Nat.testBit (N (4 + p / 2)) (p % 2) = true then nI 0 else nI 1) = nI 0 then some (nI 0, ((g, mi, ml) : zH)) else some (nI 1, (g, mi, ml))) = some (if Nat.testBit (N (4 + p / 2)) (p % 2) = true then nI 0 else nI 1, (g, mi, ml)) := by
      by_cases z : Nat.testBit (N (4 + p / 2)) (p % 2) = true
      · rw [iP z, iP rfl]
      · rw [iN z, iN n01.symm]
    rw [e4]
  have e97 : (if mi 424 (97 + p) = nI 0 then m1 else mi 424 (105 + p)) = (if mi 424 (97 + p) = nI 1 then mi 424 (105 + p) else m1) := by
    rcases p1 with q | q
    · rw [q, iP rfl, iN n01]
    · rw [q, iN n01.symm, iP rfl]
  rw [uX, uY, e97]
  by_cases q0 : b = nI 0
  · rw [iP q0]; exact ⟨_, rfl, rfl⟩
  rw [iN q0]
  by_cases q1 : b = nI 1
  · rw [iP q1]; exact ⟨_, rfl, rfl⟩
  rw [iN q1]
  by_cases q2 : b = nI 2
  · rw [iP q2]; exact ⟨_, rfl, rfl⟩
  rw [iN q2]
  by_cases q3 : b = nI 3
  · rw [iP q3]; exact ⟨_, rfl, rfl⟩
  rw [iN q3]
  by_cases q4 : b = nI 4
  · rw [iP q4]; exact ⟨_, rfl, rfl⟩
  rw [iN q4]
  exact ⟨_, rfl, rfl⟩
theorem c_isCell0 {x : Int32} {h : zH} (hx : x < 0) : f_X11_isCell n x h = some (nI 0, h) := if_pos hx
theorem c_isCell1 {x : Int32} {h : zH} (hx : nI 24 ≤ x) : f_X11_isCell n x h = some (nI 0, h) := by
  unfold f_X11_isCell
  simp only [li]
  rw [iN (ge_lt (N := 23) (by decide) hx).2.1, iP hx]
theorem r_isCell {c : Nat} (hc : c < 24) {h : zH} : f_X12_isCell n (nI c) h = some (nI 1, h) := by
  unfold f_X12_isCell
  simp only [li]
  rw [r_lies2 (by decide) (by omega), zb_s, zrZ1]
theorem r_isCell0 {x : Int32} {h : zH} (hx : x < 0) : f_X12_isCell n x h = some (nI 0, h) := by
  unfold f_X12_isCell
  simp only [li]
  rw [r_lies0 hx, zb_s, zrZ0]
theorem r_isCell1 {x : Int32} {h : zH} (hx : nI 24 ≤ x) : f_X12_isCell n x h = some (nI 0, h) := by
  unfold f_X12_isCell
  simp only [li]
  rw [r_lies1 (N := 23) (by decide) hx, zb_s, zrZ0]
theorem cl_cell (a b : Int32) : LOOK (f_X11_cell n 1 a b) (f_X12_cell n 422 a b) := by
  intro g mi ml hs hR hI
  rcases pk_ix a (n := 24) (by decide) with ha | ha | ⟨c, hc, ha⟩
  · refine ⟨m1, ?_, ?_⟩
    · unfold f_X11_cell
      simp only [li, ng1]
      rw [c_isCell0 ha, zb_s, iP rfl]
    · unfold f_X12_cell
      simp only [li, ng1]
      rw [r_isCell0 ha, zb_s, iP rfl]
  · refine ⟨m1, ?_, ?_⟩
    · unfold f_X11_cell
      simp only [li, ng1]
      rw [c_isCell1 ha, zb_s, iP rfl]
    · unfold f_X12_cell
      simp only [li, ng1]
      rw [r_isCell1 ha, zb_s, iP rfl]
  subst ha
  have uX : f_X11_cell n 1 (nI c) b (g, mi, ml) = if b = nI 0 then some (mi 424 c, (g, mi, ml)) else if mi 424 c = nI 0 then some (m1, (g, mi, ml)) else if b = nI 1 then some (mi 424 (24 + c), (g, mi, ml)) else if b = nI 2 then some (mi 424 (48 + c), (g, mi, ml)) else if b = nI 3 then some (mi 424 (72 + c), (g, mi, ml)) else some (m1, (g, mi, ml)) := by
    unfold f_X11_cell
    simp only [li, ng1, zswl]
    rw [c_isCell hc, zb_s, iN n01.symm]
    simp only [↓S_gR1_0 hs, ↓W_gR0 hs w2c, ↓C_gR0 hs w2c, ↓A_aI2 hs w2c hc, ↓C_gR1 hs w2c, ↓A_aI3 hs w2c hc, ↓C_gR2 hs w2c, ↓A_aI4 hs w2c hc, ↓C_gR3 hs w2c, ↓A_aI5 hs w2c hc, rd_kind hR hc, rd_key hR hc, rd_val hR hc, rd_next hR hc]
  have uY : f_X12_cell n 422 (nI c) b (g, mi, ml) = if b = nI 0 then some (mi 424 c, (g, mi, ml)) else if mi 424 c = nI 0 then some (m1, (g, mi, ml)) else if b = nI 1 then some (mi 424 (24 + c), (g, mi, ml)) else if b = nI 2 then some (mi 424 (48 + c), (g, mi, ml)) else if b = nI 3 then some (mi 424 (72 + c), (g, mi, ml)) else some (m1, (g, mi, ml)) := by
    unfold f_X12_cell
    simp only [li, ng1, zswl, nI_add, Nat.zero_add]
    rw [r_isCell hc, zb_s, iN n01.symm]
    simp (disch := omega) only [↓S_gR422_2 hs, ↓S_aI424 hs]
  rw [uX, uY]
  by_cases q0 : b = nI 0
  · rw [iP q0]; exact ⟨_, rfl, rfl⟩
  rw [iN q0]
  by_cases q1 : mi 424 c = nI 0
  · rw [iP q1]; exact ⟨_, rfl, rfl⟩
  rw [iN q1]
  by_cases q2 : b = nI 1
  · rw [iP q2]; exact ⟨_, rfl, rfl⟩
  rw [iN q2]
  by_cases q3 : b = nI 2
  · rw [iP q3]; exact ⟨_, rfl, rfl⟩
  rw [iN q3]
  by_cases q4 : b = nI 3
  · rw [iP q4]; exact ⟨_, rfl, rfl⟩
  rw [iN q4]
  exact ⟨_, rfl, rfl⟩
/-- the i-th of a row of cells -/
def nth (l : List Nat) (i : Nat) : Int32 := match l.drop i with
  | [] => m1
  | c :: _ => nI c
theorem nth_nil (i : Nat) : nth [] i = m1 := by unfold nth; rw [List.drop_nil]
theorem nth_len {l : List Nat} {i : Nat} (h : l.length ≤ i) : nth l i = m1 := by unfold nth; rw [List.drop_eq_nil_of_le h]
theorem c_al38 {l : List Nat} {x : Int32} (hl : Lk v x l) {i : Int32} {H : zH} (hi : ¬ i < nI 0) (hi2 : ¬ nI 24 ≤ i) : fb_X0_along_38 n i x H = some (nth l 0, H) := by
  unfold fb_X0_along_38
  simp only [li, ng1]
  rw [iN hi, iN hi2]
  cases l with
  | nil =>
    have hl : x = m1 := hl
    subst hl
    rw [c_isCellN, zb_s, iP rfl]
    rfl
  | cons c l =>
    obtain ⟨h1, h2, -⟩ := hl
    subst h1
    rw [c_isCell h2, zb_s, iN n01.symm]
    rfl
theorem c_alg (hs : Sy g) (hR : WR mi 2 v) {i : Nat} (hi : i < 24) : ∀ (r k f : Nat) (l : List Nat) (x : Int32), k + r = i → r < f → Lk v x l → zlp4 (fb_X0_along_5 n) f 3 (nI i) x (nI k) (g, mi, ml) = some (nth l r, (g, mi, ml))
  | r, k, 0, l, x, _, h, _ => absurd h (by omega)
  | 0, k, f + 1, l, x, h1, _, hl => by
    show fb_X0_along_5 n (zlp4 (fb_X0_along_5 n) f) 3 (nI i) x (nI k) (g, mi, ml) = _
    unfold fb_X0_along_5
    simp only [li]
    rw [iLe1 (by omega) (by omega) (by omega), c_al38 hl (by rw [nLt (by omega) (by omega)]; omega) (by rw [nLe (by omega) (by omega)]; omega)]
  | r + 1, k, f + 1, l, x, h1, h2, hl => by
    show fb_X0_along_5 n (zlp4 (fb_X0_along_5 n) f) 3 (nI i) x (nI k) (g, mi, ml) = _
    unfold fb_X0_along_5
    simp only [li]
    rw [iLe0 (by omega) (by omega) (by omega), iLe0 (by omega) (by omega) (by omega)]
    cases l with
    | nil =>
      have hl' : x = m1 := hl
      subst hl'
      rw [c_isCellN, zb_s, iP rfl, c_al38 hl (by rw [nLt (by omega) (by omega)]; omega) (by rw [nLe (by omega) (by omega)]; omega), nth_nil, nth_nil]
    | cons c l =>
      obtain ⟨e1, e2, e3⟩ := hl
      subst e1
      rw [c_isCell e2, zb_s, iN n01.symm, C_gR3 (w := 2) hs w2c, A_aI5 (w := 2) hs w2c e2, rd_next hR e2, nI_add]
      exact c_alg hs hR hi r (k + 1) f l _ (by omega) (by omega) e3
theorem c_along (hs : Sy g) (hn : 3000 < n) (hR : WR mi 2 v) {l : List Nat} {x : Int32} (hl : Lk v x l) (i : Nat) (hi : i < 2147483648) : f_X0_along n 3 x (nI i) (g, mi, ml) = some (if i < 24 then nth l i else m1, (g, mi, ml)) := by
  unfold f_X0_along
  simp only [li]
  by_cases q : i < 24
  · rw [if_pos q, c_alg hs hR q i 0 n l x (by omega) (by omega) hl]
  · rw [if_neg q]
    have key : ∀ (r k f : Nat) (l : List Nat) (x : Int32), k + r = 24 → r < f → Lk v x l → zlp4 (fb_X0_along_5 n) f 3 (nI i) x (nI k) (g, mi, ml) = some (m1, (g, mi, ml)) := by
      intro r
      induction r with
      | zero =>
        intro k f l x h1 h2 hl
        cases f with
        | zero => omega
        | succ f =>
          show fb_X0_along_5 n (zlp4 (fb_X0_along_5 n) f) 3 (nI i) x (nI k) (g, mi, ml) = _
          unfold fb_X0_along_5 fb_X0_along_38
          simp only [li, ng1]
          rw [iLt0 (by omega) (by omega) (by omega), iLe1 (a := 24) (b := i) (by omega) (by omega) (by omega), iLe1 (a := 24) (b := k) (by omega) (by omega) (by omega)]
          by_cases z : nI i ≤ nI k
          · rw [iP z]
          · rw [iN z]
      | succ r ih =>
        intro k f l x h1 h2 hl
        cases f with
        | zero => omega
        | succ f =>
          show fb_X0_along_5 n (zlp4 (fb_X0_along_5 n) f) 3 (nI i) x (nI k) (g, mi, ml) = _
          unfold fb_X0_along_5 fb_X0_along_38
          simp only [li, ng1]
          rw [iLt0 (by omega) (by omega) (by omega), iLe1 (a := 24) (b := i) (by omega) (by omega) (by omega), iLe0 (a := i) (b := k) (by omega) (by omega) (by omega), iLe0 (a := 24) (b := k) (by omega) (by omega) (by omega)]
          cases l with
          | nil =>
            have hl : x = m1 := hl
            subst hl
            rw [c_isCellN, zb_s, iP rfl, iLt0 (by omega) (by omega) (by omega), iLe1 (a := 24) (b := i) (by omega) (by omega) (by omega)]
          | cons c l =>
            obtain ⟨e1, e2, e3⟩ := hl
            subst e1
            rw [c_isCell e2, zb_s, iN n01.symm, C_gR3 (w := 2) hs w2c, A_aI5 (w := 2) hs w2c e2, rd_next hR e2, nI_add]
            exact ih (k + 1) f l _ (by omega) (by omega) e3
    exact key 24 0 n l x (by omega) (by omega) hl
theorem c_along0 {x i : Int32} (hn : 3000 < n) (hi : i < 0) : f_X0_along n 3 x i (g, mi, ml) = some (m1, (g, mi, ml)) := by
  unfold f_X0_along
  obtain ⟨f, rfl⟩ : ∃ f, n = f + 1 := ⟨n - 1, by omega⟩
  show fb_X0_along_5 (f + 1) (zlp4 (fb_X0_along_5 (f + 1)) f) 3 i x 0 (g, mi, ml) = _
  unfold fb_X0_along_5 fb_X0_along_38
  rw [if_pos (show i ≤ 0 by rw [Int32.lt_iff_toInt_lt] at hi; rw [Int32.le_iff_toInt_le]; omega), if_pos hi]
  rfl
theorem r_al (hs : Sy g) {i : Nat} (hi : i < 2147483648) : ∀ (l : List Nat) (k f : Nat) (x : Int32), k ≤ i → l.length < f → Lk v x l → zlp4 (fb_X12_list_16 n) f 422 (nI i) x (nI k) (g, zrw mi 424 v, ml) = some (nth l (i - k), (g, zrw mi 424 v, ml))
  | l, k, 0, x, _, h, _ => absurd h (by omega)
  | [], k, f + 1, x, h1, _, hl => by
    have hl : x = m1 := hl
    subst hl
    show fb_X12_list_16 n (zlp4 (fb_X12_list_16 n) f) 422 (nI i) m1 (nI k) _ = _
    unfold fb_X12_list_16
    simp only [li, ng1]
    rw [nth_nil, if_T]
    by_cases z : nI i ≤ nI k
    · rw [iP z]
    · rw [iN z]
  | c :: l, k, f + 1, x, h1, h2, hl => by
    obtain ⟨e1, e2, e3⟩ := hl
    subst e1
    show fb_X12_list_16 n (zlp4 (fb_X12_list_16 n) f) 422 (nI i) (nI c) (nI k) _ = _
    unfold fb_X12_list_16
    simp only [li, ng1]
    by_cases z : i = k
    · rw [iLe1 (by omega) (by omega) (by omega), z, Nat.sub_self]
      rfl
    · rw [iLe0 (by omega) (by omega) (by omega), iN (show ¬ nI c = m1 from nI_nm (by omega)), S_gR422_2 hs, nI_add, R_a hs (by omega), nI_add]
      have ih := r_al hs hi l (k + 1) f _ (by omega) (by simpa using h2) e3
      refine Eq.trans ih ?_
      have : i - k = (i - (k + 1)) + 1 := by omega
      rw [this]
      rfl
theorem nth_c {l : List Nat} {x : Int32} (h : Lk v x l) (i : Nat) : (if i < 24 then nth l i else m1) = nth l i := by
  by_cases q : i < 24
  · rw [if_pos q]
  · rw [if_neg q, nth_len (by have := Lk_len h; omega)]
theorem cl_list (hn : 3000 < n) (a : Int32) : LOOK (f_X11_list n 1 a) (f_X12_list n 422 a) := by
  intro g mi ml hs hR hI
  obtain ⟨l, lw, lc, hC, hP, hG⟩ := hI
  have uX : f_X11_list n 1 a (g, mi, ml) = f_X0_along n 3 (mi 424 96) a (g, mi, ml) := by
    unfold f_X11_list
    rw [S_gR1_0 hs, W_gR0 hs w2c, S_gR1_0 hs, W_gR0 hs w2c, C_gI hs w2c, rd_head hR, C_ck hs w2c, zb_id]
  by_cases q : a < 0
  · refine ⟨m1, by rw [uX, c_along0 hn q], ?_⟩
    unfold f_X12_list
    rw [if_neg (by rw [Int32.lt_iff_toInt_lt] at q; rw [Int32.le_iff_toInt_le]; omega)]
    rfl
  · obtain ⟨i, hi, rfl⟩ := nI_of q
    refine ⟨nth l i, by rw [uX, c_along hs hn hR hC.1.1 i hi, nth_c hC.1.1], ?_⟩
    have e := r_al (mi := mi) (v := mi 424) (ml := ml) (n := n) hs hi l 0 n _ (by omega) (by have := Lk_len hC.1.1; omega) hC.1.1
    rw [u24, Nat.sub_zero] at e
    unfold f_X12_list
    simp only [li]
    rw [iLe1 (by omega) (by omega) (by omega), S_gR422_2 hs, S_aI424 hs (by omega), e]
theorem cl_node (a : Int32) : LOOK (f_X11_node n 1 a) (f_X12_node n 422 a) := by
  intro g mi ml hs hR hI
  obtain ⟨l, lw, lc, hC, hP, N, g1, g2⟩ := hI
  have bad : (a < nI 1 ∨ nI 8 ≤ a) → f_X11_node n 1 a (g, mi, ml) = some (m1, (g, mi, ml)) ∧ f_X12_node n 422 a (g, mi, ml) = some (m1, (g, mi, ml)) := by
    intro h
    unfold f_X11_node f_X12_node f_X11_isNode f_X12_lies
    simp only [li, ng1]
    rcases h with h | h
    · rw [iP h, iP h, zb_s, iP rfl, zb_s, iP rfl]
      exact ⟨rfl, rfl⟩
    · have t1 : ¬ a < nI 1 := fun q => by
        rw [Int32.lt_iff_toInt_lt, nI_toInt (by decide)] at q; rw [Int32.le_iff_toInt_le, nI_toInt (by decide)] at h; omega
      have t2 : nI 7 < a := by
        rw [Int32.lt_iff_toInt_lt, nI_toInt (by decide)]; rw [Int32.le_iff_toInt_le, nI_toInt (by decide)] at h; omega
      rw [iN t1, iP h, zb_s, iP rfl, iN t1, iP t2, zb_s, iP rfl]
      exact ⟨rfl, rfl⟩
  by_cases q1 : a < nI 1
  · exact ⟨m1, (bad (Or.inl q1)).1, (bad (Or.inl q1)).2⟩
  by_cases q2 : nI 8 ≤ a
  · exact ⟨m1, (bad (Or.inr q2)).1, (bad (Or.inr q2)).2⟩
  obtain ⟨q, hq, rfl⟩ : ∃ q : Nat, q < 2147483648 ∧ a = nI q := nI_of (fun z => q1 (lt_neg (by decide) z))
  rw [nLt (by omega) (by omega)] at q1
  rw [nLe (by omega) (by omega)] at q2
  refine ⟨nI (N q), ?_, ?_⟩
  · unfold f_X11_node f_X11_isNode
    simp only [li, ng1]
    rw [iLt0 (by omega) (by omega) (by omega), iLe0 (by omega) (by omega) (by omega), zb_s, iN n01.symm, S_gR1_0 hs, W_gI hs w2c, rd_runs hR, S_gR1_0 hs, W_gR2 hs w2c, A_aI9 hs w2c (by omega), rd_miss hR (by omega) (by omega), (g1 q (by omega) (by omega)).2]
    rcases g2 with ⟨x1, x2, x3, x4⟩ | ⟨x1, x2⟩
    · rw [iP x1, x3 q (by omega) (by omega)]
    · rw [iN (by rw [x1]; exact n01.symm)]
  · unfold f_X12_node f_X12_lies
    simp only [li, ng1]
    rw [iLt0 (by omega) (by omega) (by omega), iLt0 (by omega) (by omega) (by omega), zb_s, iN n01.symm, S_gR422_2 hs, nI_add, S_aI424 hs (by omega), (g1 q (by omega) (by omega)).2]
end
