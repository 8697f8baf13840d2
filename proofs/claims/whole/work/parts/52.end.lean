/-! the end of a grace on both sides -/
def RaN (v v' : Nat → Int32) (r : Int32) : Prop := Gw 1 v v' ∧ ∃ j, j ≤ 24 ∧ r = nI j
def SimN (g : zS) (w : Nat) (m0 : Nat → Nat → Int32) (v : Nat → Int32) (X Y : zH → Option (Int32 × zH)) : Prop := SimG (RaN v) g w m0 v X Y
theorem SimN_S {g : zS} {w : Nat} {m0 : Nat → Nat → Int32} {v : Nat → Int32} {X Y : zH → Option (Int32 × zH)} (h : SimN g w m0 v X Y) : Sim g w m0 v X Y := by
  obtain ⟨r, v', ⟨a, j, hj, b⟩, h⟩ := h
  exact ⟨r, v', ⟨Gw_w a (by decide), Or.inr (Or.inr (Or.inr (Or.inl ⟨j, by omega, b⟩)))⟩, h⟩
def vF (v : Nat → Int32) : List Nat → Nat → Int32
  | [] => v
  | c :: l => vF (upd v c (nI 0)) l
theorem vF_out : ∀ {l : List Nat} {v : Nat → Int32} {k : Nat}, k ∉ l → vF v l k = v k
  | [], _, _, _ => rfl
  | c :: l, v, k, h => by
    unfold vF
    rw [vF_out (fun q => h (List.mem_cons_of_mem _ q)), upd_ne (fun q => h (by rw [q]; exact List.mem_cons_self))]
theorem vF_in : ∀ {l : List Nat} {v : Nat → Int32} {k : Nat}, k ∈ l → vF v l k = nI 0
  | c :: l, v, k, h => by
    unfold vF
    by_cases q : k ∈ l
    · exact vF_in q
    · rw [vF_out q]
      rcases List.mem_cons.mp h with z | z
      · rw [z, upd_eq]
      · exact absurd z q
theorem vF_hi {l : List Nat} {v : Nat → Int32} {k : Nat} (h : ∀ c, c ∈ l → c < 24) (hk : 24 ≤ k) : vF v l k = v k := vF_out (fun q => by have := h k q; omega)
def tmv (x : Int32) : Int32 := if nI 999 < x then nI 999 else x
def vG (v : Nat → Int32) (l : List Nat) : Nat → Int32 := upd (upd (upd (vF v l) 164 (nI 0)) 129 (nI 0)) 190 (tmv (v 190 + nI 1))
theorem c_min {n : Nat} {x : Int32} {h : zH} : f_J9_min_7cf53 n x (nI 999) h = some (tmv x, h) := by
  unfold f_J9_min_7cf53 tmv
  by_cases q : nI 999 < x
  · rw [if_pos q, if_pos q]
  · rw [if_neg q, if_neg q]
theorem r_min {n : Nat} {x : Int32} {h : zH} : f_X12_lesser n (nI 999) x h = some (tmv x, h) := by
  unfold f_X12_lesser tmv
  by_cases q : nI 999 < x
  · rw [if_pos q, if_neg (Int32.not_le.mpr q)]
  · rw [if_neg q, if_pos (Int32.not_lt.mp q)]
theorem L_cc0 {mi : Nat → Nat → Int32} {w : Nat} {v : Nat → Int32} (h : WR mi w v) : WR (zu mi (w + 1) 8 (nI 0)) w (upd v 164 (nI 0)) := by
  obtain ⟨g1, ⟨c1, c2⟩, e1, e2, e3⟩ := h
  have h0 : PL w (w + 1) 8 164 := pl_cc
  refine ⟨fun b k i hp => ?_, ⟨fun j hj hh => ?_, fun j hj hh => ?_⟩, ?_, ?_, ?_⟩
  · by_cases q : i = 164
    · obtain ⟨q1, q2⟩ := (PL_i hp h0).mp q
      rw [q, q1, q2, zu_s, upd_eq]
    · rw [upd_ne q, zu_e (fun z => q ((PL_i hp h0).mpr z)), g1 b k i hp]
  · rw [upd_ne (by omega)] at hh
    rw [upd_ne (by omega), zu_a (by omega), c1 j hj hh]
  · rw [upd_eq, nLt (by omega) (by omega)] at hh
    omega
  · rw [zu_e (by omega)]
    exact Bt_cong e1 (fun p hp => by rw [upd_ne (by omega)])
  · rw [zu_e (by omega)]
    exact Bt_cong e2 (fun p hp => by rw [upd_ne (by omega)])
  · rw [zu_e (by omega)]
    exact Bt_cong e3 (fun p hp => by rw [upd_ne (by omega)])
section
variable {g : zS} {M : Nat → Nat → Int32} {ml : Nat → Nat → Int64} {n w : Nat} {m0 : Nat → Nat → Int32} {u0 v : Nat → Int32}
theorem c_free_ (hs : Sy g) (hw : zWL.contains w = true) {K : Nat} (hK : K ≤ 24) : ∀ (l : List Nat) (i f : Nat) (mi : Nat → Nat → Int32) (u : Nat → Int32), WR mi w u → Ls u (165 + i) l → (∀ c, c ∈ l → c < 24) → i + l.length = K → u 164 = nI K → l.length < f → ∃ mi', zlp3 (fb_X0_freeCurrent_7 n) f (w + 1) (nI K) (nI i) (g, mi, ml) = some (nI K, (g, mi', ml)) ∧ WR mi' w (upd (vF u l) 164 (nI 0)) ∧ Fw w mi mi'
  | l, i, 0, mi, u, _, _, _, _, _, h => absurd h (by omega)
  | [], i, f + 1, mi, u, hR, _, _, h1, h2, _ => by
    have e : i = K := by simpa using h1
    subst e
    refine ⟨zu mi (w + 1) 8 (nI 0), ?_, L_cc0 hR, Fw_zu (by omega) (by omega)⟩
    show fb_X0_freeCurrent_7 n (zlp3 (fb_X0_freeCurrent_7 n) f) (w + 1) (nI i) (nI i) (g, mi, ml) = _
    unfold fb_X0_freeCurrent_7
    simp (disch := omega) only [lit, nLe, if_pos, C_pI hs hw]
  | c :: l, i, f + 1, mi, u, hR, hL, hc, h1, h2, h3 => by
    have hc0 : c < 24 := hc c List.mem_cons_self
    have h1' : i + (l.length + 1) = K := h1
    have e1 : mi (w + 7) i = nI c := by
      rw [hR.2.1.2 i (by omega) (by rw [h2, nLt (by omega) (by omega)]; omega)]
      exact hL.1
    have hR' := L_pl (x := nI 0) hR (pl_kind (w := w) hc0) (by omega) (by omega)
    obtain ⟨mi', q1, q2, q3⟩ := c_free_ hs hw hK l (i + 1) f _ _ hR' (Ls_cong hL.2 (fun j a b => upd_ne (by omega))) (fun d hd => hc d (List.mem_cons_of_mem _ hd)) (by omega) (by rw [upd_ne (by omega), h2]) (by simp at h3; omega)
    refine ⟨mi', ?_, q2, Fw_t (Fw_zu (by omega) (by omega)) q3⟩
    show fb_X0_freeCurrent_7 n (zlp3 (fb_X0_freeCurrent_7 n) f) (w + 1) (nI K) (nI i) (g, mi, ml) = _
    generalize zlp3 (fb_X0_freeCurrent_7 n) f = kk at q1 ⊢
    unfold fb_X0_freeCurrent_7 fb_X0_freeCurrent_42
    simp (disch := omega) only [lit, nLe, if_neg, C_gR5 hs hw, C_gR0 hs hw, A_aI7 hs hw, e1, c_isCell hc0, zb_s, nEq, A_eI2 hs hw, nI_add]
    exact q1
theorem r_free_ (hs : Sy g) {K : Nat} (hK : K ≤ 24) : ∀ (l : List Nat) (i f : Nat) (u : Nat → Int32), Ls u (165 + i) l → (∀ c, c ∈ l → c < 24) → i + l.length = K → l.length < f → zlp3 (fb_X12_endsNow_11 n) f 422 (nI K) (nI i) (g, zrw M 424 u, ml) = fb_X12_endsNow_40 n 422 (nI K) (g, zrw M 424 (vF u l), ml)
  | l, i, 0, u, _, _, _, h => absurd h (by omega)
  | [], i, f + 1, u, _, _, h1, _ => by
    have e : i = K := by simpa using h1
    subst e
    show fb_X12_endsNow_11 n (zlp3 (fb_X12_endsNow_11 n) f) 422 (nI i) (nI i) (g, zrw M 424 u, ml) = _
    unfold fb_X12_endsNow_11
    simp (disch := omega) only [nLe, if_pos]
    rfl
  | c :: l, i, f + 1, u, hL, hc, h1, h3 => by
    have hc0 : c < 24 := hc c List.mem_cons_self
    have h1' : i + (l.length + 1) = K := h1
    have q1 := r_free_ hs hK l (i + 1) f (upd u c (nI 0)) (Ls_cong hL.2 (fun j a b => upd_ne (by omega))) (fun d hd => hc d (List.mem_cons_of_mem _ hd)) (by omega) (by simp at h3; omega)
    show fb_X12_endsNow_11 n (zlp3 (fb_X12_endsNow_11 n) f) 422 (nI K) (nI i) (g, zrw M 424 u, ml) = _
    generalize zlp3 (fb_X12_endsNow_11 n) f = kk at q1 ⊢
    have e1 : u (165 + i) = nI c := hL.1
    unfold fb_X12_endsNow_11
    simp (disch := omega) only [lit, nLe, if_neg, S_gR422_2 hs, R_a hs, R_e hs, nI_add, e1, Nat.zero_add]
    exact q1
theorem vG_wi {l lw lc : List Nat} (hC : CIr v l lw lc) (hP : PIr v) (hH : ∀ p, p < 8 → v (121 + p) = nI 0) (hN : ∀ q, 0 < q → q < 8 → v (131 + q) = nI 0) : CIr (vG v lc) l lw [] ∧ PIr (vG v lc) ∧ GIr (vG v lc) [] := by
  obtain ⟨⟨a1, a2⟩, ⟨b1, b2, b3, b4⟩, c1, c2, c3, c4, c5, c6⟩ := hC
  have hl := Lk_lt a1
  have hlc : ∀ c, c ∈ lc → c < 24 := fun c hc => c6 c (List.mem_append_right _ hc)
  have e : ∀ k, 24 ≤ k → k ≠ 129 → k ≠ 164 → k ≠ 190 → vG v lc k = v k := fun k h1 h2 h3 h4 => by
    unfold vG
    rw [upd_ne h4, upd_ne h2, upd_ne h3, vF_hi hlc h1]
  have elo : ∀ c, c < 24 → vG v lc c = vF v lc c := fun c hc => by
    unfold vG
    rw [upd_ne (by omega), upd_ne (by omega), upd_ne (by omega)]
  have nd := List.nodup_append.mp c5
  have k1 : ∀ c, c < 24 → c ∈ lc → vG v lc c = nI 0 := fun c hc h => by rw [elo c hc, vF_in h]
  have k2 : ∀ c, c < 24 → c ∉ lc → vG v lc c = v c := fun c hc h => by rw [elo c hc, vF_out h]
  refine ⟨⟨⟨?_, ?_⟩, ⟨fun c hc => ?_, fun c hc => ?_, fun c hc => ?_, fun c hc => ?_⟩, Ls_cong c1 (fun j h1 h2 => e j (by omega) (by omega) ?_ (by have := nd_len 24 nd.1 (fun c hc => c6 c (List.mem_append_left _ hc)); omega)), by rw [e _ (by omega) (by omega) (by omega) (by omega)]; exact c2, trivial, ?_, by simpa using nd.1, fun c hc => c6 c (by simp at hc ⊢; exact Or.inl hc)⟩, ?_, fun _ => 0, fun q h1 h2 => ⟨show 0 < 4 by decide, by rw [e _ (by omega) (by omega) (by omega) (by omega)]; exact hN q h1 h2⟩, Or.inl ⟨?_, rfl, fun _ _ _ => rfl, fun p hp => by rw [e _ (by omega) (by omega) (by omega) (by omega)]; exact hH p hp⟩⟩
  · rw [e 96 (by decide) (by decide) (by decide) (by decide)]
    exact Lk_only a1 (fun j hj => e _ (by omega) (by omega) (by omega) (by omega))
  · refine List.Pairwise.imp_of_mem (fun ha hb hab => ?_) a2
    have := hl _ ha
    have := hl _ hb
    rw [e _ (by omega) (by omega) (by omega) (by omega), e _ (by omega) (by omega) (by omega) (by omega)]
    exact hab
  · by_cases q : c ∈ lc
    · exact Or.inl (k1 c hc q)
    · rw [k2 c hc q]; exact b1 c hc
  · by_cases q : c ∈ lc
    · rw [k1 c hc q]
      refine ⟨fun h => absurd h n01, fun h => ?_⟩
      exact absurd (((b2 c hc).mpr h).symm.trans ((b3 c hc).mpr (List.mem_append_right _ q))) n12
    · rw [k2 c hc q]; exact b2 c hc
  · by_cases q : c ∈ lc
    · rw [k1 c hc q]
      refine ⟨fun h => absurd h n02, fun h => ?_⟩
      exact absurd rfl (nd.2.2 c (by simpa using h) c q)
    · rw [k2 c hc q, b3 c hc]
      simp [q]
  · obtain ⟨k, h1, h2⟩ := b4 c hc
    exact ⟨k, h1, by rw [e _ (by omega) (by omega) (by omega) (by omega)]; exact h2⟩
  · have := nd_len 24 nd.1 (fun c hc => c6 c (List.mem_append_left _ hc))
    omega
  · unfold vG
    rw [upd_ne (by omega), upd_ne (by omega), upd_eq]
    rfl
  · intro p hp
    obtain ⟨⟨r0, r1, r1'⟩, r2, r3, r4⟩ := hP p hp
    rw [e _ (by omega) (by omega) (by omega) (by omega), e _ (by omega) (by omega) (by omega) (by omega), e _ (by omega) (by omega) (by omega) (by omega), e _ (by omega) (by omega) (by omega) (by omega)]
    refine ⟨⟨r0, r1, r1'⟩, r2, r3, fun h => ?_⟩
    obtain ⟨l', hl'⟩ := r4 h
    exact ⟨l', Lk_only hl' (fun j hj => e _ (by omega) (by omega) (by omega) (by omega))⟩
  · unfold vG
    rw [upd_ne (by omega), upd_eq]
theorem end_sim (hs : Sy g) (hw : zWL.contains w = true) (hn : 24 < n) (hI : WI v) (hH : ∀ p, p < 8 → v (121 + p) = nI 0) (hN : ∀ q, 0 < q → q < 8 → v (131 + q) = nI 0) (hr1 : v 129 = nI 1) : SimN g w m0 v (f_X10_endGrace n w) (f_X12_endsNow n 422) := by
  obtain ⟨l, lw, lc, hC, hP, -⟩ := hI
  obtain ⟨hC', hP', hG'⟩ := vG_wi hC hP hH hN
  obtain ⟨-, -, c1, c2, c3, c4, c5, c6⟩ := id hC
  have hlc : ∀ c, c ∈ lc → c < 24 := fun c hc => c6 c (List.mem_append_right _ hc)
  have ll := lw_len hC
  have c2' : vG v lc 139 = nI lw.length := hC'.2.2.2.1
  have r0 : vG v lc 129 = nI 0 := by
    unfold vG
    rw [upd_ne (by omega), upd_eq]
  have hX : ∀ mi ml, WR mi w v → ∃ mi', f_X10_endGrace n w (g, mi, ml) = (zb (f_X10_startGrace n w (g, mi', ml)) fun r10 h11 => some (nI lc.length, h11)) ∧ WR mi' w (vG v lc) ∧ Fw w mi mi' := by
    intro mi ml hR
    obtain ⟨mi1, q1, q2, q3⟩ := c_free_ (ml := ml) (n := n) hs hw ll.2 lc 0 n mi v hR c3 hlc (by omega) c4 (by omega)
    have k1 := L_pl (x := nI 0) q2 (pl_runs (w := w)) (by decide) (by decide)
    have b3 : Bt (nI 0) (upd (upd (vF v lc) 164 (nI 0)) 129 (nI 0)) 121 := ⟨0, by decide, rfl, fun p hp => by
      rw [upd_ne (by omega), upd_ne (by omega), vF_hi hlc (by omega), hH p hp]
      unfold bI
      rw [Nat.zero_testBit]; rfl⟩
    have k2 := L_he k1 b3 (fun k _ _ => rfl)
    have k3 := L_pl (x := tmv (v 190 + nI 1)) k2 (pl_time (w := w)) (by decide) (by decide)
    refine ⟨_, ?_, k3, Fw_t (Fw_t (Fw_t q3 (Fw_zu (by omega) (by omega))) (Fw_zu (by omega) (by omega))) (Fw_zu (by omega) (by omega))⟩
    unfold f_X10_endGrace f_X0_freeCurrent
    have hw1 : (nI 0 = nI 0 ∨ nI 0 = nI 1) := Or.inl rfl
    have e1 : mi1 w 9 = v 190 := by
      rw [rd_time q2, upd_ne (by omega), vF_hi hlc (by omega)]
    simp (disch := omega) only [lit, W_gR0 hs hw, C_ck hs hw, C_gI hs hw, rd_cc hR, c4, q1, zb_s, W_pZ hs hw hw1, W_pI hs hw, W_gI hs hw, zu_k, e1, c_min, W_ck hs hw]
  have hY : ∀ M ml, f_X12_endsNow n 422 (g, zrw M 424 v, ml) = if lw.length = 0 then some (nI lc.length, (g, zrw M 424 (vG v lc), ml)) else zb (f_X12_begins n 422 (g, zrw M 424 (vG v lc), ml)) fun _ h14 => some (nI lc.length, h14) := by
    intro M ml
    have q1 := r_free_ (M := M) (ml := ml) (n := n) hs ll.2 lc 0 n v c3 hlc (by omega) (by omega)
    unfold f_X12_endsNow
    simp (disch := omega) only [lit, S_gR422_2 hs, R_a hs, c4]
    refine q1.trans ?_
    unfold fb_X12_endsNow_40
    have e1 : vF v lc 190 = v 190 := vF_hi hlc (by omega)
    have e2 : vF v lc 139 = nI lw.length := by rw [vF_hi hlc (by omega), c2]
    simp (disch := omega) only [lit, S_gR422_2 hs, R_a hs, R_e hs, upd_ne, e1, e2, r_min, zb_s, S_ck422 hs, nLe]
    by_cases z : lw.length = 0
    · rw [if_pos (by omega), if_pos z]; rfl
    · rw [if_neg (by omega), if_neg z]; rfl
  have hE : ∀ k, Ed v k → vG v lc 129 = nI 0 ∧ vG v lc 130 = nI (k + 1) ∧ ∃ t, t ≤ 999 ∧ vG v lc 190 = nI t := fun k hk => by
    obtain ⟨hk, t, ht1, ht2⟩ := hk
    have h2 : v 130 = nI (k + 1) := by
      rcases hk with hk | hk
      · exact absurd (hk.1.symm.trans hr1) n01
      · exact hk.2
    unfold vG
    refine ⟨by rw [upd_ne (by omega), upd_eq], ?_, ?_⟩
    · rw [upd_ne (by omega), upd_ne (by omega), upd_ne (by omega), vF_hi hlc (by omega)]
      exact h2
    · rw [upd_eq, ht2, nI_add]
      unfold tmv
      by_cases z : 999 < t + 1
      · rw [if_pos (by rw [nLt (by omega) (by omega)]; exact z)]
        exact ⟨999, Nat.le_refl _, rfl⟩
      · rw [if_neg (by rw [nLt (by omega) (by omega)]; exact z)]
        exact ⟨t + 1, by omega, rfl⟩
  by_cases z : lw.length = 0
  · refine ⟨nI lc.length, vG v lc, ⟨fun k hk => ⟨1, by decide, Or.inl ⟨(hE k hk).1, (hE k hk).2.1⟩, (hE k hk).2.2⟩, lc.length, by omega, rfl⟩, ⟨l, lw, [], hC', hP', hG'⟩, fun k hk => ?_, fun M ml => ⟨M, by rw [hY, if_pos z], FM_r M⟩, fun mi ml _ hR => ?_⟩
    · unfold vG
      rw [upd_ne (by omega), upd_ne (by omega), upd_ne (by omega), vF_hi hlc (by omega)]
    · obtain ⟨mi1, q1, q2, q3⟩ := hX mi ml hR
      refine ⟨mi1, ml, ?_, q2, FC_w q3⟩
      rw [q1]
      unfold f_X10_startGrace
      rw [z] at c2'
      simp (disch := omega) only [lit, ng3, W_gI hs hw, rd_runs q2, r0, if_T, W_gR0 hs hw, C_gI hs hw, rd_wc q2, c2', zb_s]
  · refine ⟨nI lc.length, vB (vG v lc) lw.length, ⟨fun k hk => ⟨1, by decide, vB_Ed ll.1 (hE k hk).1 (hE k hk).2.1 (hE k hk).2.2⟩, lc.length, by omega, rfl⟩, vB_wi hC' hP', fun k hk => ?_, fun M ml => ⟨M, ?_, FM_r M⟩, fun mi ml _ hR => ?_⟩
    · rw [vB_hi ll.1 (by omega)]
      unfold vG
      rw [upd_ne (by omega), upd_ne (by omega), upd_ne (by omega), vF_hi hlc (by omega)]
    · rw [hY, if_neg z, r_begins hs hn ll.1 c2']
      rfl
    · obtain ⟨mi1, q1, q2, q3⟩ := hX mi ml hR
      obtain ⟨mi2, p1, p2, p3⟩ := c_startGrace (ml := ml) hs hw hn q2 ll.1 (by omega) c2' r0
      exact ⟨mi2, ml, by rw [q1, p1]; rfl, p2, FC_w (Fw_t q3 p3)⟩
end
