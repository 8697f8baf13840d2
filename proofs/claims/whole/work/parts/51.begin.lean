/-! begin on both sides -/
theorem CIr_re {v v' : Nat → Int32} {l lw lc lw' lc' : List Nat} (h : CIr v l lw lc) (e : ∀ k, k < 97 → v' k = v k) (hm : ∀ c, c ∈ lw' ++ lc' ↔ c ∈ lw ++ lc) (nd : (lw' ++ lc').Nodup) (p : Ls v' 140 lw' ∧ v' 139 = nI lw'.length ∧ Ls v' 165 lc' ∧ v' 164 = nI lc'.length) : CIr v' l lw' lc' := by
  obtain ⟨⟨a1, a2⟩, ⟨b1, b2, b3, b4⟩, c1, c2, c3, c4, c5, c6⟩ := h
  have hl := Lk_lt a1
  refine ⟨⟨?_, ?_⟩, ⟨fun c hc => ?_, fun c hc => ?_, fun c hc => ?_, fun c hc => ?_⟩, p.1, p.2.1, p.2.2.1, p.2.2.2, nd, fun c hc => c6 c ((hm c).mp hc)⟩
  · rw [e 96 (by decide)]
    exact Lk_only a1 (fun j hj => e _ (by omega))
  · refine List.Pairwise.imp_of_mem (fun ha hb hab => ?_) a2
    rw [e _ (by have := hl _ ha; omega), e _ (by have := hl _ hb; omega)]
    exact hab
  · rw [e _ (by omega)]; exact b1 c hc
  · rw [e _ (by omega)]; exact b2 c hc
  · rw [e _ (by omega), hm]; exact b3 c hc
  · rw [e _ (by omega)]; exact b4 c hc
theorem Ls_sh {v v' : Nat → Int32} : ∀ {l : List Nat} {k k' : Nat}, Ls v k l → (∀ j, j < l.length → v' (k' + j) = v (k + j)) → Ls v' k' l
  | [], _, _, _, _ => trivial
  | c :: l, k, k', h, e => ⟨by rw [← h.1]; exact e 0 (by simp), Ls_sh (k := k + 1) (k' := k' + 1) h.2 (fun j hj => by
      have := e (j + 1) (by simp; omega)
      have e1 : k' + 1 + j = k' + (j + 1) := by omega
      have e2 : k + 1 + j = k + (j + 1) := by omega
      rw [e1, e2]; exact this)⟩
theorem tb3 : ∀ k, k < 2 → Nat.testBit 3 k = true := by decide
section
variable {g : zS} {n w : Nat} {m0 : Nat → Nat → Int32} {u0 v : Nat → Int32}
theorem vB_lo {a k : Nat} (h : k < 121) : vB v a k = v k := by
  unfold vB
  rw [if_neg (by omega), if_neg (by omega), if_neg (by omega), if_neg (by omega), if_neg (by omega), if_neg (by omega), if_neg (by omega)]
theorem vB_hi {a k : Nat} (ha : a ≤ 24) (h : 189 ≤ k) : vB v a k = v k := by
  unfold vB
  rw [if_neg (by omega), if_neg (by omega), if_neg (by omega), if_neg (by omega), if_neg (by omega), if_neg (by omega), if_neg (by omega)]
theorem vB_held {a p : Nat} (h : p < 8) : vB v a (121 + p) = v (113 + p) := by
  unfold vB
  rw [if_pos (by omega)]
  congr 1
  omega
theorem vB_node {a q : Nat} (h : 0 < q) (h2 : q < 8) : vB v a (131 + q) = nI 3 := by
  unfold vB
  rw [if_neg (by omega), if_neg (by omega), if_neg (by omega), if_pos (by omega)]
theorem lw_len {l lw lc : List Nat} (hC : CIr v l lw lc) : lw.length ≤ 24 ∧ lc.length ≤ 24 := by
  obtain ⟨-, -, -, -, -, -, c5, c6⟩ := hC
  have h := List.nodup_append.mp c5
  exact ⟨nd_len 24 h.1 (fun c hc => c6 c (List.mem_append_left _ hc)), nd_len 24 h.2.1 (fun c hc => c6 c (List.mem_append_right _ hc))⟩
theorem vB_wi {l lw : List Nat} (hC : CIr v l lw []) (hP : PIr v) : WI (vB v lw.length) := by
  have hl := (lw_len hC).1
  refine ⟨l, [], lw, ?_, fun p hp => ?_, fun _ => 3, fun q h1 h2 => ⟨show 3 < 4 by decide, vB_node h1 h2⟩, Or.inr ⟨?_, fun q h1 h2 h3 => ?_⟩⟩
  · have c := hC.2.2
    refine CIr_re hC (fun k hk => vB_lo (by omega)) (fun c => by simp) (by simpa using c.2.2.2.2.1) ⟨trivial, ?_, Ls_sh c.1 (fun j hj => ?_), ?_⟩
    · unfold vB
      rw [if_neg (by omega), if_neg (by omega), if_neg (by omega), if_neg (by omega), if_pos rfl]
      rfl
    · unfold vB
      rw [if_neg (by omega), if_neg (by omega), if_neg (by omega), if_neg (by omega), if_neg (by omega), if_neg (by omega), if_pos (by omega)]
      congr 1
      omega
    · unfold vB
      rw [if_neg (by omega), if_neg (by omega), if_neg (by omega), if_neg (by omega), if_neg (by omega), if_pos rfl]
      exact c.2.1
  · obtain ⟨⟨r0, r1, r1'⟩, r2, r3, r4⟩ := hP p hp
    rw [vB_lo (by omega), vB_lo (by omega), vB_held hp, vB_lo (by omega)]
    refine ⟨⟨r0, r1, r1⟩, r2, fun h => h, fun h => ?_⟩
    obtain ⟨l', hl'⟩ := r4 h
    exact ⟨l', Lk_only hl' (fun j hj => vB_lo (by omega))⟩
  · unfold vB
    rw [if_neg (by omega), if_pos rfl]
  · rw [tb3 _ (by omega)] at h3
    exact absurd h3 (by decide)
theorem vB_Ed {a k : Nat} (ha : a ≤ 24) (h : v 129 = nI 0) (h2 : v 130 = nI k) (h3 : ∃ t, t ≤ 999 ∧ v 190 = nI t) : Ed (vB v a) k := by
  refine ⟨Or.inr ⟨?_, ?_⟩, by rw [vB_hi ha (by decide)]; exact h3⟩
  · unfold vB
    rw [if_neg (by omega), if_pos rfl]
  · unfold vB
    rw [if_neg (by omega), if_neg (by omega), if_pos rfl, h2, nI_add]
theorem begin_sim (hs : Sy g) (hw : zWL.contains w = true) (hn : 24 < n) (hI : WI v) : Sim g w m0 v (f_X10_startGrace n w) (f_X12_beginsOr n 422) := by
  have hI' := hI
  obtain ⟨l, lw, lc, hC, hP, N, g1, g2⟩ := hI
  have c2 := hC.2.2.2.1
  rcases g2 with ⟨a, b, c, d⟩ | ⟨a, b⟩
  · subst b
    have hl := (lw_len hC).1
    by_cases z : lw.length = 0
    · rw [z] at c2
      refine Sim_c m3 hI' (fun mi ml hR => ?_) (fun M ml => ?_)
      · unfold f_X10_startGrace
        simp (disch := omega) only [lit, ng3, W_gI hs hw, rd_runs hR, a, if_T, W_gR0 hs hw, C_gI hs hw, rd_wc hR, c2]
      · unfold f_X12_beginsOr f_X12_runs0
        simp (disch := omega) only [lit, ng3, S_ck422 hs, S_gR422_2 hs, R_a hs, a, nEq, if_neg, zb_s, if_T, c2]
    · refine ⟨v 130 + nI 1, vB v lw.length, ⟨fun k hk => ?_, Or.inr (Or.inr (Or.inr (Or.inr ?_)))⟩, vB_wi hC hP, fun k hk => vB_hi hl (by omega), fun M ml => ⟨M, ?_, FM_r M⟩, fun mi ml _ hR => ?_⟩
      · obtain ⟨hk, ht⟩ := hk
        rcases hk with hk | hk
        · exact ⟨0, by decide, vB_Ed hl hk.1 hk.2 ht⟩
        · exact absurd (a.symm.trans hk.1) n01
      · unfold vB
        rw [if_neg (by omega), if_neg (by omega), if_pos rfl]
      · unfold f_X12_beginsOr f_X12_runs0
        have e : vB v lw.length 130 = v 130 + nI 1 := by
          unfold vB
          rw [if_neg (by omega), if_neg (by omega), if_pos rfl]
        simp (disch := omega) only [lit, ng3, S_ck422 hs, S_gR422_2 hs, R_a hs, a, nEq, if_neg, zb_s, if_T, c2, r_begins hs hn hl c2, e]
      · obtain ⟨mi', h1, h2, h3⟩ := c_startGrace (ml := ml) hs hw hn hR hl (by omega) c2 a
        exact ⟨mi', ml, h1, h2, FC_w h3⟩
  · refine Sim_c m3 hI' (fun mi ml hR => ?_) (fun M ml => ?_)
    · unfold f_X10_startGrace
      simp (disch := omega) only [lit, ng3, W_gI hs hw, rd_runs hR, a, nEq, if_neg]
    · unfold f_X12_beginsOr f_X12_runs0
      simp (disch := omega) only [lit, ng3, S_ck422 hs, S_gR422_2 hs, R_a hs, a, nEq, if_neg, zb_s, if_T]
end
