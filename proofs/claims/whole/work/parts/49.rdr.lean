/-! readers: enter, step, park -/
theorem CIr_cong {v v' : Nat → Int32} {l lw lc : List Nat} (h : CIr v l lw lc) (e : ∀ k, (k < 97 ∨ 139 ≤ k ∧ k < 189) → v' k = v k) : CIr v' l lw lc := by
  obtain ⟨⟨h1, h2⟩, ⟨a1, a2, a3, a4⟩, b1, b2, b3, b4, b5, b6⟩ := h
  have lt := Lk_lt h1
  have h5 := List.nodup_append.mp b5
  have n1 : lw.length ≤ 24 := nd_len 24 h5.1 (fun c hc => b6 c (List.mem_append_left _ hc))
  have n2 : lc.length ≤ 24 := nd_len 24 h5.2.1 (fun c hc => b6 c (List.mem_append_right _ hc))
  refine ⟨⟨?_, ?_⟩, ⟨fun c hc => ?_, fun c hc => ?_, fun c hc => ?_, fun c hc => ?_⟩, ?_, ?_, ?_, ?_, b5, b6⟩
  · rw [e _ (by omega)]
    exact Lk_only h1 (fun j hj => e _ (by omega))
  · exact h2.imp_of_mem (fun {a b} ha hb q => by rw [e _ (by have := lt a ha; omega), e _ (by have := lt b hb; omega)]; exact q)
  · rw [e _ (by omega)]; exact a1 c hc
  · rw [e _ (by omega)]; exact a2 c hc
  · rw [e _ (by omega)]; exact a3 c hc
  · rw [e _ (by omega)]; exact a4 c hc
  · exact Ls_cong b1 (fun j q1 q2 => e _ (by omega))
  · rw [e _ (by omega)]; exact b2
  · exact Ls_cong b3 (fun j q1 q2 => e _ (by omega))
  · rw [e _ (by omega)]; exact b4
theorem Bt_c {x : Int32} {v : Nat → Int32} {k p : Nat} (h : Bt x v k) (hp : p < 8) : (x &&& (nI 1 <<< (nI p &&& nI 31)) = nI 0) = (v (k + p) = nI 0) := by
  obtain ⟨b, h1, h2, h3⟩ := h
  rw [h2, h3 p hp, bI_0]
  exact propext (bt_and b h1 p hp)
theorem Bt_set {x : Int32} {v : Nat → Int32} {k p : Nat} (h : Bt x v k) (hp : p < 8) : Bt (x ||| (nI 1 <<< (nI p &&& nI 31))) (upd v (k + p) (nI 1)) k := by
  obtain ⟨b, h1, h2, h3⟩ := h
  refine ⟨b ||| 2 ^ p, (bt_or b h1 p hp).2, by rw [h2]; exact (bt_or b h1 p hp).1, fun q hq => ?_⟩
  unfold bI
  rw [bt_orT b h1 p hp q hq]
  by_cases e : q = p
  · rw [e, upd_eq]; simp
  · rw [upd_ne (by omega), h3 q hq]
    unfold bI
    simp [e]
theorem Bt_clr {x : Int32} {v : Nat → Int32} {k p : Nat} (h : Bt x v k) (hp : p < 8) : Bt (x &&& ((nI 1 <<< (nI p &&& nI 31)) ^^^ m1)) (upd v (k + p) (nI 0)) k := by
  obtain ⟨b, h1, h2, h3⟩ := h
  refine ⟨b &&& (255 - 2 ^ p), (bt_nd b h1 p hp).2, by rw [h2]; exact (bt_nd b h1 p hp).1, fun q hq => ?_⟩
  unfold bI
  rw [bt_ndT b h1 p hp q hq]
  by_cases e : q = p
  · rw [e, upd_eq]; simp
  · rw [upd_ne (by omega), h3 q hq]
    unfold bI
    simp [e]
theorem c_isP {n p : Nat} {h : zH} (hp : p < 8) : f_X11_isProcessor n (nI p) h = some (nI 1, h) := by
  unfold f_X11_isProcessor
  simp (disch := omega) only [lit, nLt, nLe, if_neg]
theorem c_isP0 {n : Nat} {x : Int32} {h : zH} (hx : x < 0) : f_X11_isProcessor n x h = some (nI 0, h) := if_pos hx
theorem c_isP1 {n : Nat} {x : Int32} {h : zH} (hx : nI 8 ≤ x) : f_X11_isProcessor n x h = some (nI 0, h) := by
  unfold f_X11_isProcessor
  simp only [lit, (ge_lt (N := 7) (by decide) hx).2.1, hx, if_T, if_F]
theorem r_isP {n p : Nat} {h : zH} (hp : p < 8) : f_X12_isProcessor n (nI p) h = some (nI 1, h) := by
  unfold f_X12_isProcessor
  simp (disch := omega) only [lit, r_lies2, zb_s, zrZ1]
theorem r_isP0 {n : Nat} {x : Int32} {h : zH} (hx : x < 0) : f_X12_isProcessor n x h = some (nI 0, h) := by
  unfold f_X12_isProcessor
  simp only [lit, r_lies0 hx, zb_s, zrZ0]
theorem r_isP1 {n : Nat} {x : Int32} {h : zH} (hx : nI 8 ≤ x) : f_X12_isProcessor n x h = some (nI 0, h) := by
  unfold f_X12_isProcessor
  simp only [lit, r_lies1 (N := 7) (by decide) hx, zb_s, zrZ0]
theorem leaf_t : ∀ p, p < 8 → nI 4 + nI p / nI 2 = nI (4 + p / 2) := by decide
theorem rem_t : ∀ p, p < 8 → nI p - nI p / nI 2 * nI 2 = nI (p % 2) ∧ nI p &&& nI 1 = nI (p % 2) ∧ nI p - (nI p - nI p / nI 2 * nI 2) = nI (2 * (p / 2)) ∧ nI p / nI 2 = nI (p / 2) := by decide
theorem isin_t : ∀ m, m < 4 → ∀ k, k < 2 → ((nI m >>> (nI k &&& nI 31)) &&& nI 1 = nI 1 ↔ Nat.testBit m k = true) := by decide
theorem un_t : ∀ a, a < 4 → ∀ b, b < 4 → ∀ c, c < 4 → ∀ d, d < 4 → nI a ||| (nI b <<< (nI 2 &&& nI 31)) ||| (nI c <<< (nI 4 &&& nI 31)) ||| (nI d <<< (nI 6 &&& nI 31)) = nI (a + 4 * b + 16 * c + 64 * d) := by decide +kernel
def un (N : Nat → Nat) : Nat := N 4 + 4 * N 5 + 16 * N 6 + 64 * N 7
theorem unb_t : ∀ a, a < 4 → ∀ b, b < 4 → ∀ c, c < 4 → ∀ d, d < 4 → ((List.range 8).all fun p => Nat.testBit (a + 4 * b + 16 * c + 64 * d) p == Nat.testBit (if p < 2 then a else if p < 4 then b else if p < 6 then c else d) (p % 2)) = true := by decide +kernel
theorem un_b {N : Nat → Nat} (h : ∀ q, 0 < q → q < 8 → N q < 4) : un N < 256 ∧ ∀ p, p < 8 → Nat.testBit (un N) p = Nat.testBit (N (4 + p / 2)) (p % 2) := by
  have h4 := h 4 (by decide) (by decide)
  have h5 := h 5 (by decide) (by decide)
  have h6 := h 6 (by decide) (by decide)
  have h7 := h 7 (by decide) (by decide)
  refine ⟨by unfold un; omega, fun p hp => ?_⟩
  have h8 := List.all_eq_true.mp (unb_t (N 4) h4 (N 5) h5 (N 6) h6 (N 7) h7) p (List.mem_range.mpr hp)
  have h9 := eq_of_beq h8
  unfold un
  rw [h9]
  have : p = 0 ∨ p = 1 ∨ p = 2 ∨ p = 3 ∨ p = 4 ∨ p = 5 ∨ p = 6 ∨ p = 7 := by omega
  rcases this with e | e | e | e | e | e | e | e <;> subst e <;> rfl
theorem anb_t : ∀ u, u < 256 → ∀ p, p < 8 → nI u &&& (nI 1 <<< (nI p &&& nI 31)) = if Nat.testBit u p then nI 1 <<< (nI p &&& nI 31) else nI 0 := by decide +kernel
def bcE (x : Int32) : Int32 := ((f_J6_bitCount_0f7a4 0 x zh0).getD (0, zh0)).1
theorem bcE_e (n : Nat) (x : Int32) (h : zH) : f_J6_bitCount_0f7a4 n x h = some (bcE x, h) := rfl
theorem bc_pair : ∀ b, b < 256 → ∀ p, p < 8 → bcE (nI b &&& (nI 3 <<< ((nI 2 * (nI (4 + p / 2) - nI 4)) &&& nI 31))) = bI b (2 * (p / 2)) + bI b (2 * (p / 2) + 1) := by decide +kernel
section
variable {g : zS} {mi M : Nat → Nat → Int32} {v : Nat → Int32} {ml : Nat → Nat → Int64} {n w : Nat} {m0 : Nat → Nat → Int32} {N : Nat → Nat}
def GN (v : Nat → Int32) (N : Nat → Nat) : Prop := (∀ q, 0 < q → q < 8 → N q < 4 ∧ v (131 + q) = nI (N q)) ∧ ((v 129 = nI 0 ∧ ∀ q, 0 < q → q < 8 → N q = 0) ∨ v 129 = nI 1)
theorem GIr_N {lc : List Nat} (h : GIr v lc) : ∃ N, GN v N := by
  obtain ⟨N, h1, h2⟩ := h
  refine ⟨N, h1, ?_⟩
  rcases h2 with ⟨a, b, c, d⟩ | ⟨a, b⟩
  · exact Or.inl ⟨a, c⟩
  · exact Or.inr a
theorem c_unreported (hs : Sy g) (hw : zWL.contains w = true) (hR : WR mi w v) (hN : GN v N) : f_X10_unreported n w (g, mi, ml) = some (nI (un N), (g, mi, ml)) := by
  obtain ⟨h1, h2⟩ := hN
  unfold f_X10_unreported
  rcases h2 with ⟨a, b⟩ | a
  · have e : un N = 0 := by
      unfold un
      rw [b 4 (by decide) (by decide), b 5 (by decide) (by decide), b 6 (by decide) (by decide), b 7 (by decide) (by decide)]
    simp only [lit, W_gI hs hw, rd_runs hR, a, if_T, e]
  · simp (disch := omega) only [lit, W_gI hs hw, rd_runs hR, a, nEq, if_neg, W_gR2 hs hw, A_aI9 hs hw, rd_miss hR, (h1 4 (by decide) (by decide)).2, (h1 5 (by decide) (by decide)).2, (h1 6 (by decide) (by decide)).2, (h1 7 (by decide) (by decide)).2]
    rw [un_t _ (h1 4 (by decide) (by decide)).1 _ (h1 5 (by decide) (by decide)).1 _ (h1 6 (by decide) (by decide)).1 _ (h1 7 (by decide) (by decide)).1]
    rfl
theorem r_hasReported (hs : Sy g) (hN : GN v N) {p : Nat} (hp : p < 8) : f_X12_hasReported n 422 (nI p) (g, zrw M 424 v, ml) = some (if Nat.testBit (N (4 + p / 2)) (p % 2) = true then nI 0 else nI 1, (g, zrw M 424 v, ml)) := by
  obtain ⟨h1, h2⟩ := hN
  unfold f_X12_hasReported f_X12_runs0 f_X12_leafOf f_X12_isIn
  have h3 := h1 (4 + p / 2) (by omega) (by omega)
  rcases h2 with ⟨a, b⟩ | a
  · rw [b (4 + p / 2) (by omega) (by omega)]
    simp (disch := omega) only [lit, S_ck422 hs, S_gR422_2 hs, R_a hs, a, nEq, if_neg, zb_s, if_T, Nat.zero_testBit]
    rfl
  · simp (disch := omega) only [lit, S_ck422 hs, S_gR422_2 hs, R_a hs, a, nEq, if_neg, zb_s, if_T, leaf_t p hp, (rem_t p hp).1, nI_add, h3.2, isin_t _ h3.1 (p % 2) (Nat.mod_lt _ (by decide))]
    by_cases q : Nat.testBit (N (4 + p / 2)) (p % 2) = true
    · simp (disch := omega) only [q, if_T, zb_s, nEq, if_neg]
    · rw [if_neg q, if_neg q, zb_s]
      exact if_pos rfl
theorem enter_sim (hs : Sy g) (hw : zWL.contains w = true) (hI : WI v) (a : Int32) : Sim g w m0 v (f_X10_goIn n w a) (f_X12_enters n 422 a) := by
  rcases pk_ix a (n := 8) (by decide) with ha | ha | ⟨p, hp, ha⟩
  · refine Sim_c m1 hI (fun mi ml _ => ?_) (fun M ml => ?_)
    · unfold f_X10_goIn
      simp only [lit, ng1, c_isP0 ha, zb_s, if_T]
    · unfold f_X12_enters
      simp only [lit, ng1, r_isP0 ha, zb_s, if_T]
  · refine Sim_c m1 hI (fun mi ml _ => ?_) (fun M ml => ?_)
    · unfold f_X10_goIn
      simp only [lit, ng1, c_isP1 ha, zb_s, if_T]
    · unfold f_X12_enters
      simp only [lit, ng1, r_isP1 ha, zb_s, if_T]
  subst ha
  have hI' := hI
  obtain ⟨l, lw, lc, hC, hP, hG⟩ := hI
  obtain ⟨⟨p1, p2, p3⟩, p4, p5, p6⟩ := hP p hp
  rcases p1 with q | q
  · have k1 : v (113 + p) = nI 0 := by
      rcases p2 with z | z
      · exact z
      · exact absurd (q.symm.trans (p4 z)) n01
    have k2 : v (121 + p) = nI 0 := by
      rcases p3 with z | z
      · exact z
      · exact absurd (k1.symm.trans (p5 z)) n01
    have hlo : ∀ j, j ≠ 97 + p → j ≠ 105 + p → j ≠ 113 + p → upd (upd (upd v (97 + p) (nI 1)) (105 + p) (v 96)) (113 + p) (nI 0) j = v j := fun j a b c => by rw [upd_ne c, upd_ne b, upd_ne a]
    refine ⟨nI 1 + v 96, upd (upd (upd v (97 + p) (nI 1)) (105 + p) (v 96)) (113 + p) (nI 0), Ra_0 (fun j hj => hlo j (by omega) (by omega) (by omega)) (Or.inr (Or.inr (Or.inr (Lk_r hC.1.1)))), ⟨l, lw, lc, CIr_cong hC (fun j hj => hlo j (by omega) (by omega) (by omega)), fun r hr => ?_, GIr_cong hG (fun j h1 h2 => hlo j (by omega) (by omega) (by omega))⟩, fun j hj => hlo j (by omega) (by omega) (by omega), fun M ml => ⟨M, ?_, FM_r M⟩, fun mi ml hF hR => ?_⟩
    · by_cases e : r = p
      · subst e
        have s1 : upd (upd (upd v (97 + r) (nI 1)) (105 + r) (v 96)) (113 + r) (nI 0) (97 + r) = nI 1 := by rw [upd_ne (by omega), upd_ne (by omega), upd_eq]
        have s2 : upd (upd (upd v (97 + r) (nI 1)) (105 + r) (v 96)) (113 + r) (nI 0) (105 + r) = v 96 := by rw [upd_ne (by omega), upd_eq]
        rw [s1, s2, upd_eq, hlo (121 + r) (by omega) (by omega) (by omega), k2]
        exact ⟨⟨Or.inr rfl, Or.inl rfl, Or.inl rfl⟩, fun _ => rfl, fun z => absurd z n01, fun _ => ⟨l, Lk_only hC.1.1 (fun j hj => hlo _ (by omega) (by omega) (by omega))⟩⟩
      · rw [hlo (97 + r) (by omega) (by omega) (by omega), hlo (113 + r) (by omega) (by omega) (by omega), hlo (121 + r) (by omega) (by omega) (by omega), hlo (105 + r) (by omega) (by omega) (by omega)]
        obtain ⟨r1, r2, r3, r4⟩ := hP r hr
        refine ⟨r1, r2, r3, fun z => ?_⟩
        obtain ⟨l', hl'⟩ := r4 z
        exact ⟨l', Lk_only hl' (fun j hj => hlo _ (by omega) (by omega) (by omega))⟩
    · unfold f_X12_enters f_X12_isOn
      simp (disch := omega) only [lit, ng1, ng3, r_isP hp, zb_s, nEq, if_neg, S_ck422 hs, S_gR422_2 hs, R_a hs, R_e hs, nI_add, q, if_T, if_F, upd_ne]
    · have e1 := hR.2.2.1
      have h1 := L_in hR (Bt_set e1 hp) (fun j h1 h2 => upd_ne (by omega))
      have h2 := L_pl (x := v 96) h1 (pl_at (w := w) hp) (by omega) (by omega)
      refine ⟨_, ml, ?_, WR_congv h2 (fun j hj => ?_), FC_w (Fw_t (Fw_zu (by omega) (by omega)) (Fw_zu (by omega) (by omega)))⟩
      · unfold f_X10_goIn
        simp (disch := omega) only [lit, ng1, ng3, c_isP hp, zb_s, nEq, if_neg, q_let, W_gI hs hw, Bt_c e1 hp, q, if_T, W_pI hs hw, W_gR0 hs hw, W_gR1 hs hw, C_gI hs hw, zu_a, rd_head hR, A_eI8 hs hw, A_aI8 hs hw, zu_s]
      · by_cases z : j = 113 + p
        · rw [z, upd_eq, upd_ne (by omega), upd_ne (by omega), k1]
        · rw [upd_ne z]
  · refine Sim_c m3 hI' (fun mi ml hR => ?_) (fun M ml => ?_)
    · unfold f_X10_goIn
      simp (disch := omega) only [lit, ng1, ng3, c_isP hp, zb_s, nEq, if_neg, q_let, W_gI hs hw, Bt_c hR.2.2.1 hp, q]
    · unfold f_X12_enters f_X12_isOn
      simp (disch := omega) only [lit, ng1, ng3, r_isP hp, zb_s, nEq, if_neg, S_ck422 hs, S_gR422_2 hs, R_a hs, nI_add, q, if_T]
end
