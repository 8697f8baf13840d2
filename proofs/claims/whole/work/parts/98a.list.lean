/-! orders: all clauses on both sides -/
def OL (g : zS) (n : Nat) (lz : Int32) (ln : Nat) (D V : Nat → Nat) (T : Nat) (L : List Ci) (B dm : Nat) (v : Nat → Int32) (mi : Nat → Nat → Int32) (Q : (Nat → Nat → Int32) → Prop) (X : Option (Int32 × zH)) (Y : (Nat → Nat → Int32) → (Nat → Nat → Int64) → Option (Int32 × zH)) : Prop :=
  (∃ cl, cl < 12 ∧ (∃ mi' ml', X = fb_X11_orders_111 n 1 (nI cl) (g, mi', ml') ∧ FCo mi mi') ∧ ∀ M ml, Q M → ∃ M' ml', Y M ml = fb_X12_orders_115 n 422 lz (nI cl) (g, M', ml') ∧ FPo M M') ∨ ∃ v' m' H' f' d' lt', (OG B v' m' H' ∧ d' ≤ dm ∧ ∀ k, 191 ≤ k → v' k = v k) ∧ (∃ mi' ml', X = fb_X11_orders_151 n 1 (g, mi', ml') ∧ FCo mi mi' ∧ OC g mi' ln D V T L v' m' H' f' d' lt') ∧ ∀ M ml, Q M → ∃ M' ml', Y M ml = fb_X12_orders_174 n 422 (g, M', ml') ∧ FPo M M' ∧ OP M' v' m' H' d' lt'
section
variable {g : zS} {n ln T : Nat} {D V : Nat → Nat} {L : List Ci} {lz : Int32}
theorem o_s82 (hs : Sy g) {mi : Nat → Nat → Int32} {ml : Nat → Nat → Int64} {k82 : Nat → Int32 → zH → Option (Int32 × zH)} {k : Nat} (h4 : mi 411 4 = nI L.length) (hL : L.length ≤ 12) (hk : k < L.length) {r : Int32} {h' : zH} (e : f_X11_runClause n 1 411 (nI k) (g, mi, ml) = some (r, h')) : fb_X11_orders_82 n k82 1 (nI k) (g, mi, ml) = if r = nI 0 then fb_X11_orders_111 n 1 (nI k) h' else k82 1 (nI (k + 1)) h' := by
  unfold fb_X11_orders_82
  simp only [li]
  rw [S_gR1_10 hs, S_gR410_0 hs, S_gI411 hs, h4, iLe0 (by omega) (by omega) hk, S_gR1_10 hs, S_gR410_0 hs, S_ck1 hs, e, zb_s, nI_add]
theorem o_e82 (hs : Sy g) {mi : Nat → Nat → Int32} {ml : Nat → Nat → Int64} {k82 : Nat → Int32 → zH → Option (Int32 × zH)} {k : Nat} (h4 : mi 411 4 = nI k) (hk : k ≤ 12) : fb_X11_orders_82 n k82 1 (nI k) (g, mi, ml) = fb_X11_orders_151 n 1 (g, mi, ml) := by
  unfold fb_X11_orders_82
  rw [S_gR1_10 hs, S_gR410_0 hs, S_gI411 hs, h4, iLe1 (by omega) (by omega) (by omega)]
theorem o_s96 (hs : Sy g) {M : Nat → Nat → Int32} {ml : Nat → Nat → Int64} {K : Nat → Int32 → Int32 → Int32 → zH → Option (Int32 × zH)} {i k : Nat} (h : M 422 34 = nI (2400 + i)) (hi : i < T) (hT : T ≤ 400) {r : Int32} {h' : zH} (e : f_X12_runs n 422 (nI (2400 + T)) (g, M, ml) = some (r, h')) : fb_X12_orders_96 n K 422 lz (nI (2400 + T)) (nI k) (g, M, ml) = if r = nI 0 then fb_X12_orders_115 n 422 lz (nI k) h' else K 422 lz (nI (2400 + T)) (nI (k + 1)) h' := by
  unfold fb_X12_orders_96
  simp only [li]
  rw [S_gI422 hs, h, iLe0 (by omega) (by omega) (by omega), S_ck422 hs, e, zb_s, nI_add]
theorem o_e96 (hs : Sy g) {M : Nat → Nat → Int32} {ml : Nat → Nat → Int64} {K : Nat → Int32 → Int32 → Int32 → zH → Option (Int32 × zH)} {l3 : Int32} (h : M 422 34 = nI (2400 + (T + 1))) (hT : T ≤ 400) : fb_X12_orders_96 n K 422 lz (nI (2400 + T)) l3 (g, M, ml) = fb_X12_orders_174 n 422 (g, M, ml) := by
  unfold fb_X12_orders_96
  rw [S_gI422 hs, h, iLe1 (by omega) (by omega) (by omega)]
theorem o_list (hs : Sy g) (hn : 6000 < n) (hT4 : T ≤ 400) (hT : D T = 0) : ∀ (w i p Lc : Nat) (l2 : List Ci) (c : List (Nat × Nat)) (l1 : List Ci) (f : Nat) (v : Nat → Int32) (m fh d B : Nat) (H : Nat → Nat → Int32) (lt : Int32) (mi : Nat → Nat → Int32) (ml : Nat → Nat → Int64), i ≤ T → p ≤ 50 → pRd true D V T w i p Lc = .ok (l2, c) → L = l1 ++ l2 → l2.length < f → OC g mi ln D V T L v m H fh d lt → OG B v m H → B + 180 * l2.length < 2000000000 → LWr v 6 T D V →
    OL g n lz ln D V T L (B + 180 * l2.length) (d + 20 * l2.length) v mi (fun M => OP M v m H d lt ∧ M 422 34 = nI (2400 + i)) (zlp2 (fb_X11_orders_82 n) f 1 (nI l1.length) (g, mi, ml)) (fun M ml => zlp4 (fb_X12_orders_96 n) f 422 lz (nI (2400 + T)) (nI l1.length) (g, M, ml))
  | 0, i, p, Lc, l2, c, l1, f, v, m, fh, d, B, H, lt, mi, ml, _, _, hh, _, _, _, _, _, _ => absurd hh (by simp [pRd])
  | w + 1, i, p, Lc, l2, c, l1, 0, v, m, fh, d, B, H, lt, mi, ml, _, _, _, _, hf, _, _, _, _ => absurd hf (by omega)
  | w + 1, i, p, Lc, l2, c, l1, f + 1, v, m, fh, d, B, H, lt, mi, ml, hi, hp, hh, hL, hf, h, hG, hB, hW => by
    obtain ⟨kk1, kk2⟩ := rd_kinds (o := true) hT (w + 1) i p Lc l2 c hi hp hh
    have h4 : mi 411 4 = nI L.length := h.1.2.2.1.1
    have hL12 : L.length ≤ 12 := h.1.2.2.1.2
    unfold pRd at hh
    cases hc : pCl true D V i p Lc with
    | error q => rw [hc] at hh; exact absurd hh (by simp)
    | ok y =>
      obtain ⟨j1, p1, c1, x1⟩ := y
      rw [hc] at hh
      obtain ⟨a1, a2, a3, a4, a5⟩ := ok_cl hT hi hp hc
      dsimp only at hh
      have main : ∀ l3, l2 = x1 :: l3 → (∀ v' m' H' f' d' lt' mi' ml', (OG (B + 180) v' m' H' ∧ d' ≤ d + 20 ∧ ∀ k, 191 ≤ k → v' k = v k) → FCo mi mi' → OC g mi' ln D V T L v' m' H' f' d' lt' → OL g n lz ln D V T L (B + 180 * l2.length) (d + 20 * l2.length) v mi' (fun M => OP M v' m' H' d' lt' ∧ M 422 34 = nI (2400 + (j1 + 1))) (zlp2 (fb_X11_orders_82 n) f 1 (nI (l1.length + 1)) (g, mi', ml')) (fun M ml => zlp4 (fb_X12_orders_96 n) f 422 lz (nI (2400 + T)) (nI (l1.length + 1)) (g, M, ml))) → OL g n lz ln D V T L (B + 180 * l2.length) (d + 20 * l2.length) v mi (fun M => OP M v m H d lt ∧ M 422 34 = nI (2400 + i)) (zlp2 (fb_X11_orders_82 n) (f + 1) 1 (nI l1.length) (g, mi, ml)) (fun M ml => zlp4 (fb_X12_orders_96 n) (f + 1) 422 lz (nI (2400 + T)) (nI l1.length) (g, M, ml)) := by
        intro l3 e3 nxt
        have eL : L = l1 ++ x1 :: l3 := by rw [hL, e3]
        have hk : l1.length < L.length := by rw [eL]; simp
        have hl2 : l2.length = l3.length + 1 := by rw [e3]; rfl
        have hx1 := kk1 x1 (by rw [e3]; exact List.mem_cons_self)
        have R := o_cl (ml := ml) (n := n) hs hn eL (by omega) hx1.2.2 hi hp hc h hG (by omega) hW
        rcases R with ⟨⟨mi2, ml2, s1, s2⟩, s3⟩ | ⟨v2, m2, H2, f2, d2, lt2, s1, ⟨mi2, ml2, s4, s5, s6⟩, s7⟩
        · refine Or.inl ⟨l1.length, by omega, ⟨mi2, ml2, ?_, s2⟩, fun M ml q => ?_⟩
          · exact (o_s82 hs h4 hL12 hk s1).trans (iP rfl)
          · obtain ⟨M2, ml4, w1, w2⟩ := s3 M ml q
            exact ⟨M2, ml4, (o_s96 hs q.2 (by omega) hT4 w1).trans (iP rfl), w2⟩
        · have N := nxt v2 m2 H2 f2 d2 lt2 mi2 ml2 s1 s5 s6
          have EX : zlp2 (fb_X11_orders_82 n) (f + 1) 1 (nI l1.length) (g, mi, ml) = zlp2 (fb_X11_orders_82 n) f 1 (nI (l1.length + 1)) (g, mi2, ml2) := (o_s82 hs h4 hL12 hk s4).trans (iN n01.symm)
          have EY : ∀ M ml, OP M v m H d lt ∧ M 422 34 = nI (2400 + i) → ∃ M2 ml4, zlp4 (fb_X12_orders_96 n) (f + 1) 422 lz (nI (2400 + T)) (nI l1.length) (g, M, ml) = zlp4 (fb_X12_orders_96 n) f 422 lz (nI (2400 + T)) (nI (l1.length + 1)) (g, M2, ml4) ∧ FPo M M2 ∧ OP M2 v2 m2 H2 d2 lt2 ∧ M2 422 34 = nI (2400 + (j1 + 1)) := fun M ml q => by
            obtain ⟨M2, ml4, w1, w2, w3, w4⟩ := s7 M ml q
            exact ⟨M2, ml4, (o_s96 hs q.2 (by omega) hT4 w1).trans (iN n01.symm), w2, w4, w3⟩
          rcases N with ⟨cl, t1, ⟨mi3, ml3, t2, t3⟩, t4⟩ | ⟨v3, m3, H3, f3, d3, lt3, t1, ⟨mi3, ml3, t4, t5, t6⟩, t7⟩
          · refine Or.inl ⟨cl, t1, ⟨mi3, ml3, EX.trans t2, FCo_t s5 t3⟩, fun M ml q => ?_⟩
            obtain ⟨M2, ml4, u1, u2, u3⟩ := EY M ml q
            obtain ⟨M3, ml5, z1, z2⟩ := t4 M2 ml4 u3
            exact ⟨M3, ml5, u1.trans z1, FPo_t u2 z2⟩
          · refine Or.inr ⟨v3, m3, H3, f3, d3, lt3, t1, ⟨mi3, ml3, EX.trans t4, FCo_t s5 t5, t6⟩, fun M ml q => ?_⟩
            obtain ⟨M2, ml4, u1, u2, u3⟩ := EY M ml q
            obtain ⟨M3, ml5, z1, z2, z3⟩ := t7 M2 ml4 u3
            exact ⟨M3, ml5, u1.trans z1, FPo_t u2 z2, z3⟩
      by_cases y : j1 = T
      · rw [if_pos y] at hh
        have e2 : l2 = [x1] := by
          injection hh with hh
          injection hh with e1 e2
          exact e1.symm
        refine main [] e2 (fun v' m' H' f' d' lt' mi' ml' q1 q2 q3 => ?_)
        have hl : l1.length + 1 = L.length := by rw [hL, e2]; simp
        obtain ⟨f0, hf0⟩ : ∃ f0, f = f0 + 1 := ⟨f - 1, by omega⟩
        subst hf0
        refine Or.inr ⟨v', m', H', f', d', lt', ⟨OG_w q1.1 (by omega), by have := q1.2.1; omega, q1.2.2⟩, ⟨mi', ml', ?_, FCo_r _, q3⟩, fun M ml q => ⟨M, ml, ?_, FPo_r M, q.1⟩⟩
        · exact o_e82 hs (by rw [hl]; exact q3.1.2.2.1.1) (by omega)
        · exact o_e96 hs (by rw [q.2, y]) hT4
      · rw [if_neg y] at hh
        by_cases y2 : D j1 = 159
        · rw [if_pos y2] at hh
          have := ne_T hT a2 (by omega)
          cases hr : pRd true D V T w (j1 + 1) p1 (Lc + c1.length) with
          | error q => rw [hr] at hh; exact absurd hh (by simp)
          | ok z =>
            obtain ⟨l3, c3⟩ := z
            rw [hr] at hh
            have e2 : l2 = x1 :: l3 := by
              injection hh with hh
              injection hh with e1 e2
              exact e1.symm
            have hl2 : l2.length = l3.length + 1 := by rw [e2]; rfl
            refine main l3 e2 (fun v' m' H' f' d' lt' mi' ml' q1 q2 q3 => ?_)
            have IH := o_list hs hn hT4 hT w (j1 + 1) p1 (Lc + c1.length) l3 c3 (l1 ++ [x1]) f v' m' f' d' (B + 180) H' lt' mi' ml' (by omega) a4 hr (by rw [hL, e2]; simp) (by omega) q3 q1.1 (by omega) (LWr_6 hW q1.2.2)
            have hl : (l1 ++ [x1]).length = l1.length + 1 := by simp
            rw [hl] at IH
            rcases IH with IH | ⟨v3, m3, H3, f3, d3, lt3, ⟨t1, t2, t3⟩, t⟩
            · exact Or.inl IH
            · exact Or.inr ⟨v3, m3, H3, f3, d3, lt3, ⟨OG_w t1 (by omega), by have := q1.2.1; omega, fun k hk => (t3 k hk).trans (q1.2.2 k hk)⟩, t⟩
        · rw [if_neg y2] at hh; exact absurd hh (by simp)
end
