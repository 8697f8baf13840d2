/-! the law's loop -/
theorem sw_step {α : Type} {x k : Int32} {j : Nat} {E Xd : Option α} {r : List (Int32 × Nat × Option α)} {P : Option α → Prop} (h1 : P E) (h2 : P (zswl x r Xd)) : P (zswl x ((k, j, E) :: r) Xd) := by
  show P (if x = k then E else zswl x r Xd)
  by_cases q : x = k
  · rw [if_pos q]; exact h1
  · rw [if_neg q]; exact h2
theorem q_sc {ρ : Type} {L i : Nat} {xs : Nat → Int32} {K : Int32 → Option ρ} (hi : i < L) (hL : L ≤ 3072) : zsc L xs (nI i) K = K (xs i) := by
  unfold zsc
  have e : (nI i).toNatClampNeg = i := nI_clamp (by omega)
  rw [e, if_pos (by intro q; rcases q with q | q; exact nI_pos (by omega) q; omega)]
def GoL (c : Nat) (p : Nat) (K : Nat → Nat → Int32 → zH → Option (Int32 × zH)) (Z : Option (Int32 × zH)) : Prop := ∃ g' mi' ml', IV (c + 1) g' mi' ∧ Z = K 1 422 (nI (p + 6)) (g', mi', ml')
section
variable {n L c p : Nat} {xs : Nat → Int32} {K : Nat → Nat → Int32 → zH → Option (Int32 × zH)} {g : zS} {mi : Nat → Nat → Int32} {ml : Nat → Nat → Int64}
theorem lw_1220 (h : zH) : fb_L_law_1220 n L xs K 1 422 (nI p) h = K 1 422 (nI (p + 6)) h := by
  unfold fb_L_law_1220
  simp only [li]
  rw [nI_add]
theorem lw_call {X Y : zH → Option (Int32 × zH)} (hC : CALL X Y) (hc : c < 512) (hI : IV c g mi) : GoL c p K (zck (g, mi, ml) 12 1 (zb (X (g, mi, ml)) fun r4 h5 => zck h5 13 422 (zb (Y h5) fun r8 h9 => if r4 = r8 then fb_L_law_1220 n L xs K 1 422 (nI p) h9 else some (nI 0, h9)))) := by
  obtain ⟨r, g', mi', ml', mi'', ml'', h1, h2, h3⟩ := hC c g mi ml hc hI
  have hs' : Sy g' := h3.1.1
  refine ⟨g', mi'', ml'', h3, ?_⟩
  rw [S_ck1 hI.1.1, h1, zb_s, S_ck422 hs', h2, zb_s, if_pos rfl, lw_1220]
theorem lw_few {X Y : zH → Option (Int64 × zH)} (hC : CALL X Y) (hc : c < 512) (hI : IV c g mi) : GoL c p K (zck (g, mi, ml) 12 1 (zb (X (g, mi, ml)) fun r4 h5 => zck h5 13 422 (zb (Y h5) fun r8 h9 => if lg_cmp r4 r8 = nI 0 then fb_L_law_1220 n L xs K 1 422 (nI p) h9 else some (nI 0, h9)))) := by
  obtain ⟨r, g', mi', ml', mi'', ml'', h1, h2, h3⟩ := hC c g mi ml hc hI
  have hs' : Sy g' := h3.1.1
  have e : lg_cmp r r = nI 0 := by
    unfold lg_cmp
    rw [if_neg (by rw [gt_iff_lt, Int64.lt_iff_toInt_lt]; omega), if_pos rfl]
    rfl
  refine ⟨g', mi'', ml'', h3, ?_⟩
  rw [S_ck1 hI.1.1, h1, zb_s, S_ck422 hs', h2, zb_s, if_pos e, lw_1220]
set_option maxHeartbeats 4000000 in
theorem lw_step (hn : 6000 < n) (hL : L ≤ 3072) (hp : p + 6 ≤ L) (hc : c < 512) (hI : IV c g mi) : GoL c p K (fb_L_law_18 n L xs K 1 422 (nI p) (g, mi, ml)) := by
  have s0 : ∀ (K : Int32 → Option (Int32 × zH)), zsc L xs (nI p) K = K (xs p) := fun K => q_sc (by omega) hL
  have s1 : ∀ (K : Int32 → Option (Int32 × zH)), zsc L xs (nI p + nI 1) K = K (xs (p + 1)) := fun K => by rw [nI_add]; exact q_sc (by omega) hL
  have s2 : ∀ (K : Int32 → Option (Int32 × zH)), zsc L xs (nI p + nI 2) K = K (xs (p + 2)) := fun K => by rw [nI_add]; exact q_sc (by omega) hL
  have s3 : ∀ (K : Int32 → Option (Int32 × zH)), zsc L xs (nI p + nI 3) K = K (xs (p + 3)) := fun K => by rw [nI_add]; exact q_sc (by omega) hL
  have s4 : ∀ (K : Int32 → Option (Int32 × zH)), zsc L xs (nI p + nI 4) K = K (xs (p + 4)) := fun K => by rw [nI_add]; exact q_sc (by omega) hL
  have s5 : ∀ (K : Int32 → Option (Int32 × zH)), zsc L xs (nI p + nI 5) K = K (xs (p + 5)) := fun K => by rw [nI_add]; exact q_sc (by omega) hL
  have hcond : ¬ (Int32.ofNat L - nI 6 < nI p) := by
    have e : Int32.ofNat L - nI 6 = nI (L - 6) := nI_sub (a := L) (b := 6) (by omega)
    rw [e, nLt (by omega) (by omega)]
    omega
  unfold fb_L_law_18
  simp only [li]
  rw [iN hcond]
  simp only [s0, s1, s2, s3, s4, s5]
  refine sw_step (P := GoL c p K) (lw_call (CALL_l (cl_of (n := n) (xs (p + 1)) (xs (p + 2)))) hc hI) ?_
  refine sw_step (P := GoL c p K) (lw_call (CALL_l (cl_cell (n := n) (xs (p + 1)) (xs (p + 2)))) hc hI) ?_
  refine sw_step (P := GoL c p K) (lw_call (CALL_l (cl_list (n := n) (by omega) (xs (p + 1)))) hc hI) ?_
  refine sw_step (P := GoL c p K) (lw_call (CALL_l (LOOK_v (cl_find (n := n) (by omega) (xs (p + 1))))) hc hI) ?_
  refine sw_step (P := GoL c p K) (lw_call (CALL_l (cl_node (n := n) (xs (p + 1)))) hc hI) ?_
  refine sw_step (P := GoL c p K) (lw_call (CALL_l (LOOK_v (cl_old (n := n) (xs (p + 1)) (xs (p + 2))))) hc hI) ?_
  refine sw_step (P := GoL c p K) (lw_call (cl_terms (n := n) (xs (p + 1)) (xs (p + 2))) hc hI) ?_
  refine sw_step (P := GoL c p K) (lw_call (cl_feed (n := n) (by omega) (xs (p + 1)) (xs (p + 2)) (xs (p + 3)) (xs (p + 4)) (xs (p + 5))) hc hI) ?_
  refine sw_step (P := GoL c p K) (lw_call (cl_end (n := n) (xs (p + 1))) hc hI) ?_
  refine sw_step (P := GoL c p K) (lw_call (cl_row (n := n) (by omega)) hc hI) ?_
  refine sw_step (P := GoL c p K) (lw_call (CALL_i (cl_tears (n := n))) hc hI) ?_
  refine sw_step (P := GoL c p K) (lw_call (cl_law (n := n) (by omega)) hc hI) ?_
  refine sw_step (P := GoL c p K) (lw_call (cl_orders (n := n) (by omega)) hc hI) ?_
  refine sw_step (P := GoL c p K) (lw_call (CALL_i (cl_fault (n := n))) hc hI) ?_
  refine sw_step (P := GoL c p K) (lw_call (CALL_i (cl_stopped (n := n))) hc hI) ?_
  refine sw_step (P := GoL c p K) (lw_call (cl_force (n := n) (xs (p + 1))) hc hI) ?_
  refine sw_step (P := GoL c p K) (lw_call (cl_put (n := n) (by omega) (xs (p + 1)) (xs (p + 2))) hc hI) ?_
  refine sw_step (P := GoL c p K) (lw_call (cl_drop (n := n) (by omega) (xs (p + 1))) hc hI) ?_
  refine sw_step (P := GoL c p K) (lw_call (cl_enter (n := n) (by omega) (xs (p + 1))) hc hI) ?_
  refine sw_step (P := GoL c p K) (lw_call (cl_step (n := n) (by omega) (xs (p + 1))) hc hI) ?_
  refine sw_step (P := GoL c p K) (lw_call (cl_park (n := n) (by omega) (xs (p + 1))) hc hI) ?_
  refine sw_step (P := GoL c p K) (lw_call (cl_leave (n := n) (by omega) (xs (p + 1))) hc hI) ?_
  refine sw_step (P := GoL c p K) (lw_call (cl_tick (n := n) (by omega) (xs (p + 1))) hc hI) ?_
  refine sw_step (P := GoL c p K) (lw_call (cl_begin (n := n) (by omega)) hc hI) ?_
  refine sw_step (P := GoL c p K) (lw_call (cl_hurry (n := n) (by omega)) hc hI) ?_
  refine sw_step (P := GoL c p K) (lw_call (cl_undo (n := n) (by omega)) hc hI) ?_
  refine sw_step (P := GoL c p K) (lw_call (CALL_l (LOOK_v (cl_sees (n := n) (by omega) (xs (p + 1)) (xs (p + 2))))) hc hI) ?_
  refine sw_step (P := GoL c p K) (lw_call (CALL_l (LOOK_v (cl_reach (n := n) (by omega) (xs (p + 1))))) hc hI) ?_
  refine sw_step (P := GoL c p K) (lw_call (CALL_l (LOOK_v (cl_holders (n := n) (by omega)))) hc hI) ?_
  refine sw_step (P := GoL c p K) (lw_call (CALL_l (LOOK_v (cl_why (n := n) (by omega) (xs (p + 1))))) hc hI) ?_
  refine sw_step (P := GoL c p K) (lw_call (CALL_l (LOOK_v (cl_least (n := n) (by omega)))) hc hI) ?_
  refine sw_step (P := GoL c p K) (lw_call (cl_seen (n := n) (xs (p + 1)) (xs (p + 2))) hc hI) ?_
  refine sw_step (P := GoL c p K) (lw_call (cl_forget (n := n)) hc hI) ?_
  refine sw_step (P := GoL c p K) (lw_call (CALL_i (cl_canBe (n := n) (by omega))) hc hI) ?_
  refine sw_step (P := GoL c p K) (lw_call (CALL_i (cl_ask (n := n) (by omega) (xs (p + 1)))) hc hI) ?_
  refine sw_step (P := GoL c p K) (lw_few (cl_few (n := n) (by omega) (xs (p + 1)) (xs (p + 2))) hc hI) ?_
  refine sw_step (P := GoL c p K) (lw_call (cl_compare (n := n) (by omega) (xs (p + 1)) (xs (p + 2)) (xs (p + 3))) hc hI) ?_
  refine sw_step (P := GoL c p K) (lw_call (cl_days (n := n) (by omega) (xs (p + 1)) (xs (p + 2))) hc hI) ?_
  refine sw_step (P := GoL c p K) (lw_call (CALL_i (cl_drawn (n := n) (xs (p + 1)))) hc hI) ?_
  refine sw_step (P := GoL c p K) (lw_call (cl_image (n := n) (by omega) (xs (p + 1))) hc hI) ?_
  refine sw_step (P := GoL c p K) (lw_call (cl_back (n := n) (by omega) (xs (p + 1))) hc hI) ?_
  refine sw_step (P := GoL c p K) (lw_call (CALL_i (cl_count (n := n) (by omega) (xs (p + 1)))) hc hI) ?_
  refine sw_step (P := GoL c p K) (lw_call (CALL_i (cl_status (n := n))) hc hI) ?_
  show GoL c p K (fb_L_law_1220 n L xs K 1 422 (nI p) (g, mi, ml))
  exact ⟨g, mi, ml, IV_VE hI (VE_r mi), lw_1220 _⟩
theorem lw_loop (hn : 6000 < n) (hL : L ≤ 3072) : ∀ (r c p f : Nat) (g : zS) (mi : Nat → Nat → Int32) (ml : Nat → Nat → Int64), p = 6 * c → p + 6 * r ≤ L → L < p + 6 * r + 6 → r < f → IV c g mi → ∃ h', zlp3 (fb_L_law_18 n L xs) f 1 422 (nI p) (g, mi, ml) = some (nI 1, h') ∧ znx h' ≤ 439 + 4 * 512 ∧ zsl h' ≤ 60000 + 2000 * 512
  | r, c, p, 0, g, mi, ml, _, _, _, hf, _ => absurd hf (by omega)
  | 0, c, p, f + 1, g, mi, ml, e, h1, h2, _, hI => by
    refine ⟨(g, mi, ml), ?_, ?_, ?_⟩
    · have hcond : Int32.ofNat L - nI 6 < nI p := by
        by_cases q : 6 ≤ L
        · have e : Int32.ofNat L - nI 6 = nI (L - 6) := nI_sub (a := L) (b := 6) (by omega)
          rw [e, nLt (by omega) (by omega)]
          omega
        · have hc : c = 0 := by omega
          have hp0 : p = 0 := by omega
          subst hp0
          have : L = 0 ∨ L = 1 ∨ L = 2 ∨ L = 3 ∨ L = 4 ∨ L = 5 := by omega
          rcases this with q | q | q | q | q | q <;> subst q <;> decide
      show fb_L_law_18 n L xs (zlp3 (fb_L_law_18 n L xs) f) 1 422 (nI p) (g, mi, ml) = _
      generalize zlp3 (fb_L_law_18 n L xs) f = K
      unfold fb_L_law_18
      exact if_pos hcond
    · have := hI.1.2.1
      show g.2.2.2.1 ≤ _
      omega
    · have := hI.1.2.2.2.1
      show g.2.2.2.2 ≤ _
      omega
  | r + 1, c, p, f + 1, g, mi, ml, e, h1, h2, hf, hI => by
    obtain ⟨g', mi', ml', a1, a2⟩ := lw_step (n := n) (L := L) (xs := xs) (K := zlp3 (fb_L_law_18 n L xs) f) (ml := ml) hn hL (show p + 6 ≤ L by omega) (by omega) hI
    obtain ⟨h', b1, b2⟩ := lw_loop hn hL r (c + 1) (p + 6) f g' mi' ml' (by omega) (by omega) (by omega) (by omega) a1
    exact ⟨h', a2.trans b1, b2⟩
end
