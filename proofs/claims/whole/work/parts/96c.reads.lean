/-! calls that only look: reach, holders, least, why, count -/
theorem nI_or (a b : Nat) : nI a ||| nI b = nI (a ||| b) := by
  show Int32.ofBitVec (BitVec.ofNat 32 a ||| BitVec.ofNat 32 b) = Int32.ofBitVec (BitVec.ofNat 32 (a ||| b))
  rw [BitVec.ofNat_or]
theorem nI_and (a b : Nat) : nI a &&& nI b = nI (a &&& b) := by
  show Int32.ofBitVec (BitVec.ofNat 32 a &&& BitVec.ofNat 32 b) = Int32.ofBitVec (BitVec.ofNat 32 (a &&& b))
  rw [BitVec.ofNat_and]
theorem nI_xor (a b : Nat) : nI a ^^^ nI b = nI (a ^^^ b) := by
  show Int32.ofBitVec (BitVec.ofNat 32 a ^^^ BitVec.ofNat 32 b) = Int32.ofBitVec (BitVec.ofNat 32 (a ^^^ b))
  rw [BitVec.ofNat_xor]
/-- a set told bit by bit -/
def fs (P : Nat → Bool) : Nat → Nat → Int32 → Int32
  | 0, _, a => a
  | r + 1, p, a => fs P r (p + 1) (if P p then a ||| (nI 1 <<< (nI p &&& nI 31)) else a)
theorem fs_c {P Q : Nat → Bool} : ∀ (r p : Nat) (a : Int32), (∀ k, p ≤ k → k < p + r → P k = Q k) → fs P r p a = fs Q r p a
  | 0, p, a, _ => rfl
  | r + 1, p, a, h => by
    show fs P r (p + 1) _ = fs Q r (p + 1) _
    rw [h p (by omega) (by omega)]
    exact fs_c r (p + 1) _ (fun k h1 h2 => h k (by omega) (by omega))
theorem fs_t : ∀ x, x < 256 → fs (Nat.testBit x) 8 0 (nI 0) = nI x := by decide +kernel
def sm (f : Nat → Nat) : Nat → Nat → Nat → Nat
  | 0, _, a => a
  | r + 1, p, a => sm f r (p + 1) (a + f p)
theorem sm_c {f h : Nat → Nat} : ∀ (r p a : Nat), (∀ k, p ≤ k → k < p + r → f k = h k) → sm f r p a = sm h r p a
  | 0, p, a, _ => rfl
  | r + 1, p, a, e => by
    show sm f r (p + 1) _ = sm h r (p + 1) _
    rw [e p (by omega) (by omega)]
    exact sm_c r (p + 1) _ (fun k h1 h2 => e k (by omega) (by omega))
theorem sm_3 (f h k : Nat → Nat) : sm (fun p => f p + (h p + k p)) 8 0 0 = sm f 8 0 0 + sm h 8 0 0 + sm k 8 0 0 := by
  simp only [sm]; omega
theorem sm_b {f : Nat → Nat} {B : Nat} : ∀ (r p a : Nat), (∀ k, f k ≤ B) → sm f r p a ≤ a + B * r
  | 0, p, a, _ => by show a ≤ _; omega
  | r + 1, p, a, h => by
    have := sm_b (f := f) (B := B) r (p + 1) (a + f p) h
    have := h p
    show sm f r (p + 1) (a + f p) ≤ _
    rw [Nat.mul_succ]
    omega
def b1 (b : Bool) : Nat := if b then 1 else 0
theorem b1_le (b : Bool) : b1 b ≤ 1 := by cases b <;> decide
theorem bc_t : ∀ x, x < 256 → bcE (nI x) = nI (sm (fun p => b1 (Nat.testBit x p)) 8 0 0) := by decide +kernel
section
variable {g : zS} {mi : Nat → Nat → Int32} {v : Nat → Int32} {ml : Nat → Nat → Int64} {n : Nat}
theorem c_ld (hs : Sy g) (hR : WR mi 2 v) {c : Nat} (hc : c < 24) : ∀ (l : List Nat) (k f : Nat) (x : Int32), k + l.length ≤ 24 → l.length < f → Lk v x l → zlp4 (fb_X0_leadsTo_5 n) f 3 (nI c) x (nI k) (g, mi, ml) = some (if c ∈ l then nI 1 else nI 0, (g, mi, ml))
  | l, k, 0, x, _, h, _ => absurd h (by omega)
  | [], k, f + 1, x, h1, _, hl => by
    have hl : x = m1 := hl
    subst hl
    show fb_X0_leadsTo_5 n (zlp4 (fb_X0_leadsTo_5 n) f) 3 (nI c) m1 (nI k) (g, mi, ml) = _
    unfold fb_X0_leadsTo_5
    simp only [li]
    rw [c_isCellN, zb_s, iP rfl, if_neg (show ¬ c ∈ ([] : List Nat) by simp)]
    by_cases z : nI 24 ≤ nI k
    · rw [iP z]
    · rw [iN z]
  | d :: l, k, f + 1, x, h1, h2, hl => by
    obtain ⟨e1, e2, e3⟩ := hl
    subst e1
    have h1 : k + (l.length + 1) ≤ 24 := h1
    show fb_X0_leadsTo_5 n (zlp4 (fb_X0_leadsTo_5 n) f) 3 (nI c) (nI d) (nI k) (g, mi, ml) = _
    unfold fb_X0_leadsTo_5
    simp only [li]
    rw [iLe0 (by omega) (by omega) (by omega), c_isCell e2, zb_s, iN n01.symm]
    by_cases z : d = c
    · rw [iEq1 z, if_pos (by rw [z]; exact List.mem_cons_self)]
    · rw [iEq0 (by omega) (by omega) z, C_gR3 (w := 2) hs w2c, A_aI5 (w := 2) hs w2c e2, rd_next hR e2, nI_add]
      refine Eq.trans (c_ld hs hR hc l (k + 1) f _ (by omega) (by simpa using h2) e3) ?_
      have : (c ∈ d :: l) = (c ∈ l) := by simp [Ne.symm z]
      simp only [this]
theorem r_sc (hs : Sy g) {c : Nat} (hc : c < 24) : ∀ (l : List Nat) (f : Nat) (x : Int32), l.length < f → Lk v x l → zlp3 (fb_X12_seesCell_6 n) f 422 (nI c) x (g, zrw mi 424 v, ml) = some (if c ∈ l then nI 1 else nI 0, (g, zrw mi 424 v, ml))
  | l, 0, x, h, _ => absurd h (by omega)
  | [], f + 1, x, _, hl => by
    have hl : x = m1 := hl
    subst hl
    show fb_X12_seesCell_6 n (zlp3 (fb_X12_seesCell_6 n) f) 422 (nI c) m1 _ = _
    unfold fb_X12_seesCell_6 fb_X12_seesCell_29
    simp only [li, ng1]
    rw [if_T, if_T, if_neg (show ¬ c ∈ ([] : List Nat) by simp)]
  | d :: l, f + 1, x, h2, hl => by
    obtain ⟨e1, e2, e3⟩ := hl
    subst e1
    show fb_X12_seesCell_6 n (zlp3 (fb_X12_seesCell_6 n) f) 422 (nI c) (nI d) _ = _
    unfold fb_X12_seesCell_6 fb_X12_seesCell_29
    simp only [li, ng1]
    rw [iN (show ¬ nI d = m1 from nI_nm (by omega))]
    by_cases z : d = c
    · rw [iEq1 z, iN (show ¬ nI d = m1 from nI_nm (by omega)), if_pos (by rw [z]; exact List.mem_cons_self)]
    · rw [iEq0 (by omega) (by omega) z, S_gR422_2 hs, nI_add, R_a hs (by omega)]
      refine Eq.trans (r_sc hs hc l f _ (by simpa using h2) e3) ?_
      have : (c ∈ d :: l) = (c ∈ l) := by simp [Ne.symm z]
      simp only [this]
theorem sh0 (a : Int32) : a ||| nI 0 = a := Int32.or_zero
theorem cl_reach (hn : 3000 < n) (a : Int32) : LOOKV (f_X11_reach n 1 a) (f_X12_reach n 422 a) := by
  classical
  intro g mi ml v hv hs hR hI
  obtain ⟨l, lw, lc, hC, hP, hG⟩ := hI
  have em : zrw mi 424 v = mi := by rw [← hv]; exact u24
  have bad : (∀ H, f_X11_isCell n a H = some (nI 0, H)) → (∀ H, f_X12_isCell n a H = some (nI 0, H)) → ∃ r, f_X11_reach n 1 a (g, mi, ml) = some (r, (g, mi, ml)) ∧ f_X12_reach n 422 a (g, mi, ml) = some (r, (g, mi, ml)) := by
    intro h1 h2
    refine ⟨m1, ?_, ?_⟩
    · unfold f_X11_reach
      simp only [li, ng1]
      rw [h1, zb_s, iP rfl]
    · unfold f_X12_reach
      simp only [li, ng1]
      rw [h2, zb_s, iP rfl]
  rcases pk_ix a (n := 24) (by decide) with ha | ha | ⟨c, hc, ha⟩
  · exact bad (fun _ => c_isCell0 ha) (fun _ => r_isCell0 ha)
  · exact bad (fun _ => c_isCell1 ha) (fun _ => r_isCell1 ha)
  subst ha
  have hQ : ∃ P : Nat → Bool, ∀ p, p < 8 → f_X0_leadsTo n 3 (if v (97 + p) = nI 0 then m1 else v (105 + p)) (nI c) (g, mi, ml) = some (if P p = true then nI 1 else nI 0, (g, mi, ml)) ∧ f_X12_seesCell n 422 (nI p) (nI c) (g, mi, ml) = some (if P p = true then nI 1 else nI 0, (g, mi, ml)) := by
    refine ⟨fun p => if h : p < 8 then decide (c ∈ Classical.choose (rdr_l hP h)) else false, fun p hp => ?_⟩
    have hlp := Classical.choose_spec (rdr_l hP hp)
    have e0 : (if (fun p => if h : p < 8 then decide (c ∈ Classical.choose (rdr_l hP h)) else false) p = true then nI 1 else nI 0) = (if c ∈ Classical.choose (rdr_l hP hp) then nI 1 else nI 0) := by
      simp only [dif_pos hp, decide_eq_true_eq]
    rw [e0]
    generalize Classical.choose (rdr_l hP hp) = lp at hlp
    obtain ⟨h1, h2⟩ := hlp
    have hlen := Lk_len h1
    refine ⟨?_, ?_⟩
    · unfold f_X0_leadsTo
      simp only [li]
      exact c_ld hs hR hc lp 0 n _ (by omega) (by omega) h1
    · have e1 := r_cellOf (M := mi) (v := v) (ml := ml) (n := n) hs hp
      have e2 := r_sc (mi := mi) (v := v) (ml := ml) (n := n) hs hc lp n _ (by omega) h1
      rw [em] at e1 e2
      unfold f_X12_seesCell
      rw [S_ck422 hs, e1, zb_s, ← h2, e2]
  obtain ⟨P, hPP⟩ := hQ
  have lX : ∀ (r p f : Nat) (acc : Int32), p + r = 8 → r < f → zlp4 (fb_X11_reach_13 n) f 1 (nI c) acc (nI p) (g, mi, ml) = some (fs P r p acc, (g, mi, ml)) := by
    intro r
    induction r with
    | zero =>
      intro p f acc h1 h2
      cases f with
      | zero => omega
      | succ f =>
        show fb_X11_reach_13 n (zlp4 (fb_X11_reach_13 n) f) 1 (nI c) acc (nI p) (g, mi, ml) = _
        unfold fb_X11_reach_13
        simp only [li]
        rw [iLe1 (by omega) (by omega) (by omega)]
        rfl
    | succ r ih =>
      intro p f acc h1 h2
      cases f with
      | zero => omega
      | succ f =>
        show fb_X11_reach_13 n (zlp4 (fb_X11_reach_13 n) f) 1 (nI c) acc (nI p) (g, mi, ml) = _
        generalize hK : zlp4 (fb_X11_reach_13 n) f = K
        unfold fb_X11_reach_13 fb_X11_reach_47
        simp only [li]
        rw [iLe0 (by omega) (by omega) (by omega), S_gR1_0 hs, W_gR0 hs w2c, S_gR1_0 hs, W_ck hs w2c, c_cellOf hs w2c hR (by omega), zb_s, C_ck hs w2c, (hPP p (by omega)).1, zb_s, nI_add, ← hK, q_let, ih (p + 1) f _ (by omega) (by omega), ih (p + 1) f _ (by omega) (by omega)]
        show _ = some (fs P r (p + 1) (if P p then _ else _), _)
        cases P p
        · rw [iN (c := false = true) (by simp), iP rfl]; rfl
        · rw [iP rfl, iN n01.symm]; rfl
  have lY : ∀ (r p f : Nat) (acc : Int32), p + r = 8 → r < f → zlp4 (fb_X12_reach_13 n) f 422 (nI c) acc (nI p) (g, mi, ml) = some (fs P r p acc, (g, mi, ml)) := by
    intro r
    induction r with
    | zero =>
      intro p f acc h1 h2
      cases f with
      | zero => omega
      | succ f =>
        show fb_X12_reach_13 n (zlp4 (fb_X12_reach_13 n) f) 422 (nI c) acc (nI p) (g, mi, ml) = _
        unfold fb_X12_reach_13
        simp only [li]
        rw [iLe1 (by omega) (by omega) (by omega)]
        rfl
    | succ r ih =>
      intro p f acc h1 h2
      cases f with
      | zero => omega
      | succ f =>
        show fb_X12_reach_13 n (zlp4 (fb_X12_reach_13 n) f) 422 (nI c) acc (nI p) (g, mi, ml) = _
        generalize hK : zlp4 (fb_X12_reach_13 n) f = K
        unfold fb_X12_reach_13 fb_X12_reach_36
        simp only [li]
        rw [iLe0 (by omega) (by omega) (by omega), S_ck422 hs, (hPP p (by omega)).2, zb_s, nI_add, q_let, q_let, ← hK, ih (p + 1) f _ (by omega) (by omega), ih (p + 1) f _ (by omega) (by omega), sh0]
        show _ = some (fs P r (p + 1) (if P p then _ else _), _)
        cases P p
        · rw [iN (c := false = true) (by simp), iP rfl]; rfl
        · rw [iP rfl, iN n01.symm]; rfl
  refine ⟨fs P 8 0 (nI 0), ?_, ?_⟩
  · unfold f_X11_reach
    simp only [li, ng1]
    rw [c_isCell hc, zb_s, iN n01.symm, lX 8 0 n _ rfl (by omega)]
  · unfold f_X12_reach
    simp only [li, ng1]
    rw [r_isCell hc, zb_s, iN n01.symm, lY 8 0 n _ rfl (by omega)]
theorem r_runs0 (hs : Sy g) (hv : mi 424 = v) (h : v 129 = nI 0 ∨ v 129 = nI 1) : f_X12_runs0 n 422 (g, mi, ml) = some (v 129, (g, mi, ml)) := by
  unfold f_X12_runs0
  simp only [li]
  rw [S_gR422_2 hs, S_aI424 hs (by decide), hv]
  rcases h with q | q
  · rw [q, iN n01]
  · rw [q, iP rfl]
theorem GIr_r {lc : List Nat} (h : GIr v lc) : v 129 = nI 0 ∨ v 129 = nI 1 := by
  obtain ⟨N, -, g2⟩ := h
  rcases g2 with ⟨a, -⟩ | ⟨a, -⟩
  · exact Or.inl a
  · exact Or.inr a
theorem cl_holders (hn : 3000 < n) : LOOKV (f_X11_holders n 1) (f_X12_holders n 422) := by
  intro g mi ml v hv hs hR hI
  obtain ⟨l, lw, lc, hC, hP, hG⟩ := hI
  have em : zrw mi 424 v = mi := by rw [← hv]; exact u24
  obtain ⟨N, hN⟩ := GIr_N hG
  obtain ⟨u1, u2⟩ := un_b (fun s h1 h2 => (hN.1 s h1 h2).1)
  have hr := r_runs0 (ml := ml) (n := n) hs hv (GIr_r hG)
  obtain ⟨f, hf⟩ : ∃ f, n = f + 1 := ⟨n - 1, by omega⟩
  rcases GIr_r hG with q | q
  · refine ⟨nI 0, ?_, ?_⟩
    · unfold f_X11_holders
      simp only [li]
      rw [S_gR1_0 hs, W_gI hs w2c, rd_runs hR, iP q]
    · unfold f_X12_holders
      simp only [li]
      have : zlp3 (fb_X12_holders_4 n) n 422 (nI 0) (nI 0) (g, mi, ml) = fb_X12_holders_4 n (zlp3 (fb_X12_holders_4 n) f) 422 (nI 0) (nI 0) (g, mi, ml) := by
        conv => lhs; arg 2; rw [hf]
        rfl
      rw [this]
      unfold fb_X12_holders_4
      simp only [li]
      rw [iLe0 (by omega) (by omega) (by omega), S_ck422 hs, hr, zb_s, iP q]
  · obtain ⟨b, b1, b2, b3⟩ := hR.2.2.2.2
    have hP8 : ∀ p, p < 8 → Nat.testBit (un N ||| b) p = (Nat.testBit (N (4 + p / 2)) (p % 2) || Nat.testBit b p) := fun p hp => by
      rw [Nat.testBit_or, u2 p hp]
    have lY : ∀ (r p f : Nat) (acc : Int32), p + r = 8 → r < f → zlp3 (fb_X12_holders_4 n) f 422 acc (nI p) (g, mi, ml) = some (fs (Nat.testBit (un N ||| b)) r p acc, (g, mi, ml)) := by
      intro r
      induction r with
      | zero =>
        intro p f acc h1 h2
        cases f with
        | zero => omega
        | succ f =>
          show fb_X12_holders_4 n (zlp3 (fb_X12_holders_4 n) f) 422 acc (nI p) (g, mi, ml) = _
          unfold fb_X12_holders_4
          simp only [li]
          rw [iLe1 (by omega) (by omega) (by omega)]
          rfl
      | succ r ih =>
        intro p f acc h1 h2
        cases f with
        | zero => omega
        | succ f =>
          have e1 := r_hasReported (M := mi) (v := v) (ml := ml) (n := n) hs hN (show p < 8 by omega)
          have e2 := r_isHeld (M := mi) (v := v) (ml := ml) (n := n) hs (show p < 8 by omega)
          rw [em] at e1 e2
          show fb_X12_holders_4 n (zlp3 (fb_X12_holders_4 n) f) 422 acc (nI p) (g, mi, ml) = _
          generalize hK : zlp3 (fb_X12_holders_4 n) f = K
          unfold fb_X12_holders_4 fb_X12_holders_34 fb_X12_holders_41
          simp only [li, q_let]
          rw [iLe0 (by omega) (by omega) (by omega), S_ck422 hs, hr, zb_s, iN (by rw [q]; exact n01.symm), S_ck422 hs, e1, zb_s, S_ck422 hs, e2, zb_s, nI_add, ← hK, sh0, ih (p + 1) f _ (by omega) (by omega), ih (p + 1) f _ (by omega) (by omega), b3 p (by omega)]
          show _ = some (fs _ r (p + 1) (if Nat.testBit (un N ||| b) p then _ else _), _)
          have hb : (if bI b p = nI 1 then nI 1 else nI 0) = (if Nat.testBit b p = true then nI 1 else nI 0) := by unfold bI; cases Nat.testBit b p <;> rfl
          rw [hP8 p (by omega), hb]
          cases Nat.testBit (N (4 + p / 2)) (p % 2) <;> cases Nat.testBit b p
          · rw [iN (c := false = true) (by simp), iN n01.symm, iN (c := false = true) (by simp), iP rfl]; rfl
          · rw [iN (c := false = true) (by simp), iN n01.symm, iP rfl, iN n01.symm]; rfl
          · rw [iP rfl, iP rfl]; rfl
          · rw [iP rfl, iP rfl]; rfl
    refine ⟨nI (un N ||| b), ?_, ?_⟩
    · unfold f_X11_holders
      simp only [li]
      rw [S_gR1_0 hs, W_gI hs w2c, rd_runs hR, iN (by rw [q]; exact n01.symm), S_gR1_0 hs, W_ck hs w2c, c_unreported hs w2c hR hN, zb_s, S_gR1_0 hs, W_gI hs w2c, b2, nI_or]
    · unfold f_X12_holders
      simp only [li]
      rw [lY 8 0 n _ rfl (by omega), fs_t _ (Nat.or_lt_two_pow (n := 8) u1 b1)]
end
