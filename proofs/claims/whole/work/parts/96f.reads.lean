/-! what was seen: canBe, ask -/
theorem uP_t : ∀ a b c d e f h i : Bool, (b1 a + 2 * b1 b + 4 * b1 c + 8 * b1 d + 16 * b1 e + 32 * b1 f + 64 * b1 h + 128 * b1 i < 256) ∧ Nat.testBit (b1 a + 2 * b1 b + 4 * b1 c + 8 * b1 d + 16 * b1 e + 32 * b1 f + 64 * b1 h + 128 * b1 i) 0 = a ∧ Nat.testBit (b1 a + 2 * b1 b + 4 * b1 c + 8 * b1 d + 16 * b1 e + 32 * b1 f + 64 * b1 h + 128 * b1 i) 1 = b ∧ Nat.testBit (b1 a + 2 * b1 b + 4 * b1 c + 8 * b1 d + 16 * b1 e + 32 * b1 f + 64 * b1 h + 128 * b1 i) 2 = c ∧ Nat.testBit (b1 a + 2 * b1 b + 4 * b1 c + 8 * b1 d + 16 * b1 e + 32 * b1 f + 64 * b1 h + 128 * b1 i) 3 = d ∧ Nat.testBit (b1 a + 2 * b1 b + 4 * b1 c + 8 * b1 d + 16 * b1 e + 32 * b1 f + 64 * b1 h + 128 * b1 i) 4 = e ∧ Nat.testBit (b1 a + 2 * b1 b + 4 * b1 c + 8 * b1 d + 16 * b1 e + 32 * b1 f + 64 * b1 h + 128 * b1 i) 5 = f ∧ Nat.testBit (b1 a + 2 * b1 b + 4 * b1 c + 8 * b1 d + 16 * b1 e + 32 * b1 f + 64 * b1 h + 128 * b1 i) 6 = h ∧ Nat.testBit (b1 a + 2 * b1 b + 4 * b1 c + 8 * b1 d + 16 * b1 e + 32 * b1 f + 64 * b1 h + 128 * b1 i) 7 = i := by decide +kernel
theorem fs_u (P : Nat → Bool) : ∃ U, U < 256 ∧ fs P 8 0 (nI 0) = nI U := by
  obtain ⟨h, h0, h1, h2, h3, h4, h5, h6, h7⟩ := uP_t (P 0) (P 1) (P 2) (P 3) (P 4) (P 5) (P 6) (P 7)
  generalize b1 (P 0) + 2 * b1 (P 1) + 4 * b1 (P 2) + 8 * b1 (P 3) + 16 * b1 (P 4) + 32 * b1 (P 5) + 64 * b1 (P 6) + 128 * b1 (P 7) = U at h h0 h1 h2 h3 h4 h5 h6 h7
  refine ⟨U, h, ?_⟩
  rw [← fs_t U h]
  refine fs_c 8 0 _ (fun k _ hk => ?_)
  have : k = 0 ∨ k = 1 ∨ k = 2 ∨ k = 3 ∨ k = 4 ∨ k = 5 ∨ k = 6 ∨ k = 7 := by omega
  rcases this with e | e | e | e | e | e | e | e <;> subst e
  · exact h0.symm
  · exact h1.symm
  · exact h2.symm
  · exact h3.symm
  · exact h4.symm
  · exact h5.symm
  · exact h6.symm
  · exact h7.symm
def rcl (v : Nat → Int32) (p : Nat) : Int32 := if v (97 + p) = nI 0 then m1 else v (105 + p)
def fct (v : Nat → Int32) (p : Nat) (x : Int32) : Int32 := if x = nI 0 then v (97 + p) else if x = nI 1 then v (113 + p) else if rcl v p = m1 then nI 100 else v (24 + (rcl v p).toNatClampNeg)
def allf (Q : Nat → Bool) : Nat → Nat → Bool → Bool
  | 0, _, b => b
  | r + 1, i, b => allf Q r (i + 1) (b && Q i)
def mxf (F : Nat → Nat) : Nat → Nat → Nat → Nat
  | 0, _, a => a
  | r + 1, p, a => mxf F r (p + 1) (if a < F p then F p else a)
theorem mxf_b {F : Nat → Nat} {B : Nat} : ∀ (r p a : Nat), a ≤ B → (∀ k, F k ≤ B) → mxf F r p a ≤ B
  | 0, p, a, h, _ => h
  | r + 1, p, a, h, hF => by
    refine mxf_b r (p + 1) _ ?_ hF
    have := hF p
    split <;> omega
theorem is8_t : ∀ u, u < 256 → ∀ p, p < 8 → ((nI u >>> (nI p &&& nI 31)) &&& nI 1 = nI 1 ↔ Nat.testBit u p = true) := by decide +kernel
section
variable {g : zS} {mi : Nat → Nat → Int32} {v : Nat → Int32} {ml : Nat → Nat → Int64} {n : Nat}
theorem c_fact (hs : Sy g) (hR : WR mi 2 v) (hP : PIr v) {p : Nat} (hp : p < 8) (x : Int32) : f_X1_factOf n 2 (nI p) x (g, mi, ml) = some (fct v p x, (g, mi, ml)) := by
  unfold f_X1_factOf fct
  simp only [li]
  rw [W_gI hs w2c, c_bit hR.2.2.1 hp, zb_s, W_gI hs w2c, c_bit hR.2.2.2.1 hp, zb_s, W_ck hs w2c, c_cellOf hs w2c hR hp, zb_s]
  by_cases q0 : x = nI 0
  · rw [iP q0, iP q0]
  rw [iN q0, iN q0]
  by_cases q1 : x = nI 1
  · rw [iP q1, iP q1]
  rw [iN q1, iN q1]
  obtain ⟨lp, h1, -⟩ := rdr_l hP hp
  have hr : (if v (97 + p) = nI 0 then m1 else v (105 + p)) = rcl v p := rfl
  rw [hr] at h1 ⊢
  cases lp with
  | nil =>
    have h1 : rcl v p = m1 := h1
    rw [h1, c_isCellN, zb_s, iP rfl, iP rfl]
  | cons c lp =>
    obtain ⟨e1, e2, -⟩ := h1
    rw [e1, c_isCell e2, zb_s, iN n01.symm, iN (show ¬ nI c = m1 from nI_nm (by omega)), W_gR0 hs w2c, C_gR1 hs w2c, A_aI3 hs w2c e2, rd_key hR e2, nI_clamp (by omega)]
theorem r_fact (hs : Sy g) (hv : mi 424 = v) (hP : PIr v) {p : Nat} (hp : p < 8) (x : Int32) : f_X12_factOf n 422 (nI p) x (g, mi, ml) = some (fct v p x, (g, mi, ml)) := by
  have em : zrw mi 424 v = mi := by rw [← hv]; exact u24
  obtain ⟨lp, h1, h2⟩ := rdr_l hP hp
  have e1 := r_cellOf (M := mi) (v := v) (ml := ml) (n := n) hs hp
  rw [em, ← h2] at e1
  have hr : (if v (97 + p) = nI 0 then m1 else v (105 + p)) = rcl v p := rfl
  rw [hr] at h1 e1
  unfold f_X12_factOf fct
  simp only [li, ng1, zswl]
  rw [S_gR422_2 hs, nI_add, S_aI424 hs (by omega), S_gR422_2 hs, nI_add, S_aI424 hs (by omega), hv, S_ck422 hs, e1, zb_s]
  by_cases q0 : x = nI 0
  · rw [iP q0, iP q0]
  rw [iN q0, iN q0]
  by_cases q1 : x = nI 1
  · rw [iP q1, iP q1]
  rw [iN q1, iN q1]
  cases lp with
  | nil =>
    have h1 : rcl v p = m1 := h1
    rw [h1, iP rfl, iP rfl]
  | cons c lp =>
    obtain ⟨e2, e3, -⟩ := h1
    rw [iN (show ¬ rcl v p = m1 by rw [e2]; exact nI_nm (by omega)), iN (show ¬ rcl v p = m1 by rw [e2]; exact nI_nm (by omega)), S_gR422_2 hs, S_ck422 hs, e1, zb_s, e2, nI_add, S_aI424 hs (by omega), hv, nI_clamp (by omega)]
theorem fit_X (hs : Sy g) (hn : 3000 < n) (hR : WR mi 2 v) (hP : PIr v) {m : Nat} (hm : m ≤ 6) (h27 : mi 27 2 = nI m) : f_X1_fitting n 27 2 (g, mi, ml) = some (fs (fun p => allf (fun i => decide (fct v p (mi 28 i) = mi 29 i)) m 0 true) 8 0 (nI 0), (g, mi, ml)) := by
  have inn : ∀ (k4 : Nat → Nat → Int32 → Int32 → zH → Option (Int32 × zH)) (acc : Int32) (p : Nat), p < 8 → ∀ (r i f : Nat) (b : Bool), i + r = m → r < f → zlp6 (fb_X1_fitting_16 n k4) f 27 2 acc (nI p) (tB b) (nI i) (g, mi, ml) = fb_X1_fitting_72 n k4 27 2 acc (nI p) (tB (allf (fun i => decide (fct v p (mi 28 i) = mi 29 i)) r i b)) (g, mi, ml) := by
    intro k4 acc p hp r
    induction r with
    | zero =>
      intro i f b h1 h2
      cases f with
      | zero => omega
      | succ f =>
        show fb_X1_fitting_16 n k4 (zlp6 (fb_X1_fitting_16 n k4) f) 27 2 acc (nI p) (tB b) (nI i) (g, mi, ml) = _
        generalize zlp6 (fb_X1_fitting_16 n k4) f = K
        unfold fb_X1_fitting_16
        rw [S_gI27 hs, h27, if_pos (by rw [nLe (by omega) (by omega)]; omega)]
        rfl
    | succ r ih =>
      intro i f b h1 h2
      cases f with
      | zero => omega
      | succ f =>
        have ih := fun b => ih (i + 1) f b (by omega) (by omega)
        show fb_X1_fitting_16 n k4 (zlp6 (fb_X1_fitting_16 n k4) f) 27 2 acc (nI p) (tB b) (nI i) (g, mi, ml) = fb_X1_fitting_72 n k4 27 2 acc (nI p) (tB (allf _ r (i + 1) (b && decide (fct v p (mi 28 i) = mi 29 i)))) (g, mi, ml)
        generalize zlp6 (fb_X1_fitting_16 n k4) f = K at ih
        rw [← ih]
        unfold fb_X1_fitting_16 fb_X1_fitting_63 fb_X1_fitting_64
        simp only [li]
        rw [S_gI27 hs, h27, iLe0 (by omega) (by omega) (by omega), iLe0 (by omega) (by omega) (by omega), S_gR27_0 hs, S_aI28 hs (by omega), c_fact hs hR hP hp, zb_s, S_gR27_1 hs, S_aI29 hs (by omega), nI_add]
        cases b
        · rw [iP (show tB false = nI 0 from rfl)]; rfl
        · rw [iN (show ¬ tB true = nI 0 from n01.symm)]
          by_cases z : fct v p (mi 28 i) = mi 29 i
          · rw [iP z, decide_eq_true z]; rfl
          · rw [iN z, decide_eq_false z]; rfl
  have out : ∀ (r p f : Nat) (acc : Int32), p + r = 8 → r < f → zlp4 (fb_X1_fitting_4 n) f 27 2 acc (nI p) (g, mi, ml) = some (fs (fun p => allf (fun i => decide (fct v p (mi 28 i) = mi 29 i)) m 0 true) r p acc, (g, mi, ml)) := by
    intro r
    induction r with
    | zero =>
      intro p f acc h1 h2
      cases f with
      | zero => omega
      | succ f =>
        show fb_X1_fitting_4 n (zlp4 (fb_X1_fitting_4 n) f) 27 2 acc (nI p) (g, mi, ml) = _
        unfold fb_X1_fitting_4
        rw [if_pos (show (8 : Int32) ≤ nI p from (nI_leI (a := 8) (by omega) (by omega)).mpr (by omega))]
        rfl
    | succ r ih =>
      intro p f acc h1 h2
      cases f with
      | zero => omega
      | succ f =>
        have ih := fun acc => ih (p + 1) f acc (by omega) (by omega)
        show fb_X1_fitting_4 n (zlp4 (fb_X1_fitting_4 n) f) 27 2 acc (nI p) (g, mi, ml) = some (fs _ r (p + 1) (if allf (fun i => decide (fct v p (mi 28 i) = mi 29 i)) m 0 true = true then acc ||| (nI 1 <<< (nI p &&& nI 31)) else acc), (g, mi, ml))
        generalize zlp4 (fb_X1_fitting_4 n) f = K at ih
        rw [← ih]
        have e := inn K acc p (by omega) m 0 n true (by omega) (by omega)
        unfold fb_X1_fitting_4
        rw [if_neg (show ¬ (8 : Int32) ≤ nI p from fun q => by have := (nI_leI (a := 8) (by omega) (by omega)).mp q; omega)]
        refine Eq.trans e ?_
        unfold fb_X1_fitting_72 fb_X1_fitting_85
        simp only [li, q_let]
        rw [nI_add, sh0]
        cases allf (fun i => decide (fct v p (mi 28 i) = mi 29 i)) m 0 true
        · rw [iP (show tB false = nI 0 from rfl)]; rfl
        · rw [iN (show ¬ tB true = nI 0 from n01.symm)]; rfl
  unfold f_X1_fitting
  exact out 8 0 n (nI 0) rfl (by omega)
theorem fit_Y (hs : Sy g) (hn : 3000 < n) (hv : mi 424 = v) (hP : PIr v) {m : Nat} (hm : m ≤ 6) (h205 : v 205 = nI m) : f_X12_canBeNow n 422 (g, mi, ml) = some (fs (fun p => allf (fun i => decide (fct v p (v (191 + 2 * i)) = v (192 + 2 * i))) m 0 true) 8 0 (nI 0), (g, mi, ml)) := by
  have inn : ∀ (k4 : Nat → Int32 → Int32 → zH → Option (Int32 × zH)) (acc : Int32) (p : Nat), p < 8 → ∀ (r i f : Nat) (b : Bool), i + r = m → r < f → zlp5 (fb_X12_canBeNow_15 n k4) f 422 acc (nI p) (tB b) (nI i) (g, mi, ml) = fb_X12_canBeNow_80 n k4 422 acc (nI p) (tB (allf (fun i => decide (fct v p (v (191 + 2 * i)) = v (192 + 2 * i))) r i b)) (g, mi, ml) := by
    intro k4 acc p hp r
    induction r with
    | zero =>
      intro i f b h1 h2
      cases f with
      | zero => omega
      | succ f =>
        show fb_X12_canBeNow_15 n k4 (zlp5 (fb_X12_canBeNow_15 n k4) f) 422 acc (nI p) (tB b) (nI i) (g, mi, ml) = _
        generalize zlp5 (fb_X12_canBeNow_15 n k4) f = K
        unfold fb_X12_canBeNow_15
        simp only [li]
        rw [S_gR422_2 hs, S_aI424 hs (by decide), hv, h205, iLe1 (by omega) (by omega) (by omega)]
        rfl
    | succ r ih =>
      intro i f b h1 h2
      cases f with
      | zero => omega
      | succ f =>
        have ih := fun b => ih (i + 1) f b (by omega) (by omega)
        show fb_X12_canBeNow_15 n k4 (zlp5 (fb_X12_canBeNow_15 n k4) f) 422 acc (nI p) (tB b) (nI i) (g, mi, ml) = fb_X12_canBeNow_80 n k4 422 acc (nI p) (tB (allf _ r (i + 1) (b && decide (fct v p (v (191 + 2 * i)) = v (192 + 2 * i))))) (g, mi, ml)
        generalize zlp5 (fb_X12_canBeNow_15 n k4) f = K at ih
        rw [← ih]
        unfold fb_X12_canBeNow_15 fb_X12_canBeNow_72 fb_X12_canBeNow_73
        simp only [li, pk_mul, nI_add]
        have e192 : 191 + 2 * i + 1 = 192 + 2 * i := by omega
        rw [S_gR422_2 hs, S_aI424 hs (by decide), hv, h205, iLe0 (by omega) (by omega) (by omega), S_gR422_2 hs, S_aI424 hs (by omega), hv, S_ck422 hs, r_fact hs hv hP hp, zb_s, S_gR422_2 hs, e192, S_aI424 hs (by omega), hv]
        cases b
        · rw [iP (show tB false = nI 0 from rfl)]; rfl
        · rw [iN (show ¬ tB true = nI 0 from n01.symm)]
          by_cases z : fct v p (v (191 + 2 * i)) = v (192 + 2 * i)
          · rw [iP z, decide_eq_true z]; rfl
          · rw [iN z, decide_eq_false z]; rfl
  have out : ∀ (r p f : Nat) (acc : Int32), p + r = 8 → r < f → zlp3 (fb_X12_canBeNow_4 n) f 422 acc (nI p) (g, mi, ml) = some (fs (fun p => allf (fun i => decide (fct v p (v (191 + 2 * i)) = v (192 + 2 * i))) m 0 true) r p acc, (g, mi, ml)) := by
    intro r
    induction r with
    | zero =>
      intro p f acc h1 h2
      cases f with
      | zero => omega
      | succ f =>
        show fb_X12_canBeNow_4 n (zlp3 (fb_X12_canBeNow_4 n) f) 422 acc (nI p) (g, mi, ml) = _
        unfold fb_X12_canBeNow_4
        rw [if_pos (show (8 : Int32) ≤ nI p from (nI_leI (a := 8) (by omega) (by omega)).mpr (by omega))]
        rfl
    | succ r ih =>
      intro p f acc h1 h2
      cases f with
      | zero => omega
      | succ f =>
        have ih := fun acc => ih (p + 1) f acc (by omega) (by omega)
        show fb_X12_canBeNow_4 n (zlp3 (fb_X12_canBeNow_4 n) f) 422 acc (nI p) (g, mi, ml) = some (fs _ r (p + 1) (if allf (fun i => decide (fct v p (v (191 + 2 * i)) = v (192 + 2 * i))) m 0 true = true then acc ||| (nI 1 <<< (nI p &&& nI 31)) else acc), (g, mi, ml))
        generalize zlp3 (fb_X12_canBeNow_4 n) f = K at ih
        rw [← ih]
        have e := inn K acc p (by omega) m 0 n true (by omega) (by omega)
        unfold fb_X12_canBeNow_4
        rw [if_neg (show ¬ (8 : Int32) ≤ nI p from fun q => by have := (nI_leI (a := 8) (by omega) (by omega)).mp q; omega)]
        refine Eq.trans e ?_
        unfold fb_X12_canBeNow_80 fb_X12_canBeNow_92
        simp only [li, q_let]
        rw [nI_add, sh0]
        cases allf (fun i => decide (fct v p (v (191 + 2 * i)) = v (192 + 2 * i))) m 0 true
        · rw [iP (show tB false = nI 0 from rfl)]; rfl
        · rw [iN (show ¬ tB true = nI 0 from n01.symm)]; rfl
  unfold f_X12_canBeNow
  exact out 8 0 n (nI 0) rfl (by omega)
theorem allf_c {Q Q' : Nat → Bool} : ∀ (r i : Nat) (b : Bool), (∀ k, i ≤ k → k < i + r → Q k = Q' k) → allf Q r i b = allf Q' r i b
  | 0, i, b, _ => rfl
  | r + 1, i, b, h => by
    show allf Q r (i + 1) (b && Q i) = allf Q' r (i + 1) (b && Q' i)
    rw [h i (by omega) (by omega)]
    exact allf_c r (i + 1) _ (fun k h1 h2 => h k (by omega) (by omega))
theorem fit_2 {c : Nat} (hn : 3000 < n) (hI : IV c g mi) : ∃ U, U < 256 ∧ f_X1_fitting n 27 2 (g, mi, ml) = some (nI U, (g, mi, ml)) ∧ f_X12_canBeNow n 422 (g, mi, ml) = some (nI U, (g, mi, ml)) := by
  obtain ⟨h1, ⟨hR, ⟨l, lw, lc, hC, hP, hG⟩, -⟩, -, ⟨m, c1, c2, c3, c4⟩, -⟩ := hI
  have hs := h1.1
  obtain ⟨U, u1, u2⟩ := fs_u (fun p => allf (fun i => decide (fct (mi 424) p (mi 28 i) = mi 29 i)) m 0 true)
  refine ⟨U, u1, by rw [fit_X hs hn hR hP c1 c2, u2], ?_⟩
  rw [fit_Y hs hn rfl hP c1 c3, ← u2]
  congr 2
  refine fs_c 8 0 _ (fun p _ hp => allf_c m 0 true (fun i _ hi => ?_))
  obtain ⟨a1, a2⟩ := c4 i (by omega)
  rw [a1, a2]
theorem cl_canBe (hn : 3000 < n) : LOOKI (f_X11_canBe n 1) (f_X12_canBe n 422) := by
  intro c g mi ml hI
  obtain ⟨U, u1, u2, u3⟩ := fit_2 (ml := ml) hn hI
  have hs := hI.1.1
  refine ⟨nI U, ?_, ?_⟩
  · unfold f_X11_canBe
    rw [S_gR1_4 hs, S_gR1_0 hs, S_ck27 hs, u2]
    rfl
  · unfold f_X12_canBe
    rw [S_ck422 hs, u3]
    rfl
end
