/-! orders: repetitions and clauses on both sides -/
def OR (g : zS) (ln : Nat) (D V : Nat → Nat) (T : Nat) (L : List Ci) (B dm : Nat) (v : Nat → Int32) (mi : Nat → Nat → Int32) (Q : (Nat → Nat → Int32) → Prop) (X : Option (Int32 × zH)) (Y : (Nat → Nat → Int32) → (Nat → Nat → Int64) → Option (Int32 × zH)) (KX KY : zH → Option (Int32 × zH)) (P : Int32) : Prop :=
  ((∃ mi' ml', X = some (nI 0, (g, mi', ml')) ∧ FCo mi mi') ∧ ∀ M ml, Q M → ∃ M' ml', Y M ml = some (nI 0, (g, M', ml')) ∧ FPo M M') ∨ ∃ v' m' H' f' d' lt', (OG B v' m' H' ∧ d' ≤ dm ∧ ∀ k, 191 ≤ k → v' k = v k) ∧ (∃ mi' ml', X = KX (g, mi', ml') ∧ FCo mi mi' ∧ OC g mi' ln D V T L v' m' H' f' d' lt') ∧ ∀ M ml, Q M → ∃ M' ml', Y M ml = KY (g, M', ml') ∧ FPo M M' ∧ M' 422 34 = P ∧ OP M' v' m' H' d' lt'
theorem LWr_6 {v v' : Nat → Int32} {T : Nat} {D V : Nat → Nat} (h : LWr v 6 T D V) (e : ∀ k, 191 ≤ k → v' k = v k) : LWr v' 6 T D V := LWr_y h (e _ (by omega)) (fun k _ => ⟨e _ (by omega), e _ (by omega)⟩)
section
variable {g : zS} {n ln T : Nat} {D V : Nat → Nat} {L : List Ci}
theorem o_rep (hs : Sy g) (hn : 6000 < n) {v : Nat → Int32} {m fh d B : Nat} {H : Nat → Nat → Int32} {lt : Int32} {mi : Nat → Nat → Int32} {ml : Nat → Nat → Int64} (h : OC g mi ln D V T L v m H fh d lt) (hG : OG B v m H) (hB : B < 2000000000) (hW : LWr v 6 T D V) {l1 l2 : List Ci} {x : Ci} (e : L = l1 ++ x :: l2) (hx : x.1 < 8) {i p Lc j p' : Nat} {c : List (Nat × Nat)} (hi : i ≤ T) (hp : p ≤ 50) (hc : pCl true D V i p Lc = .ok (j, p', c, x)) {t tm : Nat} (ht : t < tm) (htm : tm ≤ 20) {k18 : Nat → Nat → Int32 → Int32 → Int32 → Int32 → zH → Option (Int32 × zH)} {K : Nat → Int32 → Int32 → Int32 → Int32 → zH → Option (Int32 × zH)} {l3 : Int32} :
    OR g ln D V T L (B + 9) (d + 1) v mi (fun M => OP M v m H d lt ∧ M 422 34 = nI (2400 + i)) (fb_X11_runClause_18 n k18 1 411 (nI l1.length) (nI tm) (nI x.1) (nI t) (g, mi, ml)) (fun M ml => fb_X12_runs_19 n K 422 (nI (2400 + T)) (nI tm) l3 (nI t) (g, M, ml)) (k18 1 411 (nI l1.length) (nI tm) (nI x.1) (nI (t + 1))) (K 422 (nI (2400 + T)) (nI tm) l3 (nI (t + 1))) (nI (2400 + i)) := by
  obtain ⟨l, lw, lc, hC, hPI, hGI⟩ := id hG.1
  have hm := h.2.2.1.1.2.1
  obtain ⟨F, hF, hcs⟩ := c_rep0 (ml := ml) (n := n) (kd := nI x.1) (k18 := k18) hs (by omega) h.1 e h.2.1 hC ht htm
  rw [h.2.2.2.2.1, h.2.2.2.2.2] at hF
  have PR : ∀ M ml, OP M v m H d lt ∧ M 422 34 = nI (2400 + i) → _ := fun M ml q => p_rep (ml := ml) (K := K) (l3 := l3) hs hn q.1 hm hW hC hPI hF hi hp hc q.2 ht htm
  rcases hcs with ⟨a1, ml', a2⟩ | ⟨a1, a2, ml', a3⟩ | ⟨a1, a2, y1, y2, ml', a3, a4, a5⟩
  · refine Or.inr ⟨v, m, H, fh, d, lt, ⟨OG_w hG (by omega), by omega, fun _ _ => rfl⟩, ⟨_, ml', a2, FCo_23, OC_23 h⟩, fun M ml q => ?_⟩
    obtain ⟨M', ml1, b1, b2, b3, b4⟩ := (PR M ml q).1 a1
    exact ⟨M', ml1, b1, b2, by rw [b3]; exact q.2, b4⟩
  · exact Or.inl ⟨⟨_, ml', a3, FCo_23⟩, fun M ml q => (PR M ml q).2.1 a1 a2⟩
  · obtain ⟨r, v', o1, o2, o3⟩ := o_act (ml := ml') (k18 := k18) (i := nI l1.length) (tm := nI tm) (t := t) hs hn (OC_23 (F := F) h) hG hB hx (Int64.toInt32 y1) (Int64.toInt32 y2)
    rcases o3 with ⟨o3, mi', ml2, o4, o5⟩ | ⟨a, ha, o3, o4, mi', ml2, f', o5, o6, o7⟩
    · exact Or.inl ⟨⟨mi', ml2, by rw [a5, o4], FCo_t FCo_23 o5⟩, fun M ml q => ((PR M ml q).2.2 a1 a2 y1 y2 a3 a4 r v' o1 o2).1 o3⟩
    · refine Or.inr ⟨v', _, _, f', d + 1, nI a, ⟨o4, Nat.le_refl _, o1⟩, ⟨mi', ml2, by rw [a5, o5], FCo_t FCo_23 o6, o7⟩, fun M ml q => ?_⟩
      obtain ⟨M', ml1, b1, b2, b3, b4⟩ := ((PR M ml q).2.2 a1 a2 y1 y2 a3 a4 r v' o1 o2).2 a ha o3
      exact ⟨M', ml1, b1, b2, by rw [b3]; exact q.2, b4⟩
/-- all repetitions -/
theorem o_reps (hs : Sy g) (hn : 6000 < n) {l1 l2 : List Ci} {x : Ci} (e : L = l1 ++ x :: l2) (hx : x.1 < 8) {i p Lc j p' : Nat} {c : List (Nat × Nat)} (hi : i ≤ T) (hp : p ≤ 50) (hc : pCl true D V i p Lc = .ok (j, p', c, x)) {tm : Nat} (htm : tm ≤ 20) {l3 : Int32} : ∀ (r t f : Nat) (v : Nat → Int32) (m fh d B : Nat) (H : Nat → Nat → Int32) (lt : Int32) (mi : Nat → Nat → Int32) (ml : Nat → Nat → Int64), t + r = tm → r < f → OC g mi ln D V T L v m H fh d lt → OG B v m H → B + 9 * r < 2000000000 → LWr v 6 T D V →
    OR g ln D V T L (B + 9 * r) (d + r) v mi (fun M => OP M v m H d lt ∧ M 422 34 = nI (2400 + i)) (zlp6 (fb_X11_runClause_18 n) f 1 411 (nI l1.length) (nI tm) (nI x.1) (nI t) (g, mi, ml)) (fun M ml => zlp5 (fb_X12_runs_19 n) f 422 (nI (2400 + T)) (nI tm) l3 (nI t) (g, M, ml)) (fun h => some (nI 1, h)) (fun h => some (nI 1, h)) l3
  | r, t, 0, v, m, fh, d, B, H, lt, mi, ml, _, hf, _, _, _, _ => absurd hf (by omega)
  | 0, t, f + 1, v, m, fh, d, B, H, lt, mi, ml, h1, _, h, hG, hB, hW => by
    have : t = tm := by omega
    subst this
    refine Or.inr ⟨v, m, H, fh, d, lt, ⟨OG_w hG (by omega), by omega, fun _ _ => rfl⟩, ⟨mi, ml, ?_, FCo_r mi, h⟩, fun M ml q => ⟨zu M 422 34 l3, ml, ?_, ?_, zu_s _ _ _ _, ?_⟩⟩
    · show fb_X11_runClause_18 n (zlp6 (fb_X11_runClause_18 n) f) 1 411 (nI l1.length) (nI t) (nI x.1) (nI t) (g, mi, ml) = _
      generalize zlp6 (fb_X11_runClause_18 n) f = K
      unfold fb_X11_runClause_18
      simp only [li]
      rw [iLe1 (by omega) (by omega) (by omega)]
    · show fb_X12_runs_19 n (zlp5 (fb_X12_runs_19 n) f) 422 (nI (2400 + T)) (nI t) l3 (nI t) (g, M, ml) = _
      generalize zlp5 (fb_X12_runs_19 n) f = K
      unfold fb_X12_runs_19
      simp only [li]
      rw [iLe1 (by omega) (by omega) (by omega), S_pI422 hs]
    · exact ⟨fun a a1 _ _ _ _ => zu_a a1, fun k hk => zu_k (by omega), fun _ _ => by rw [zu_a (by decide)], fun _ _ => by rw [zu_a (by decide)]⟩
    · exact ⟨by rw [zu_a (by decide)]; exact q.1.1, HR_c q.1.2.1 (zu_k (by decide)) (zu_a (by decide)), by rw [zu_k (by decide)]; exact q.1.2.2.1, by rw [zu_k (by decide)]; exact q.1.2.2.2⟩
  | r + 1, t, f + 1, v, m, fh, d, B, H, lt, mi, ml, h1, hf, h, hG, hB, hW => by
    have R := o_rep (ml := ml) (n := n) (t := t) (tm := tm) (k18 := zlp6 (fb_X11_runClause_18 n) f) (K := zlp5 (fb_X12_runs_19 n) f) (l3 := l3) hs hn h hG (by omega) hW e hx hi hp hc (by omega) htm
    rcases R with R | ⟨v', m', H', f', d', lt', ⟨r1, r2, r3⟩, ⟨mi', ml', r4, r5, r6⟩, r7⟩
    · exact Or.inl R
    · have IH := o_reps hs hn e hx hi hp hc htm (l3 := l3) r (t + 1) f v' m' f' d' (B + 9) H' lt' mi' ml' (by omega) (by omega) r6 r1 (by omega) (LWr_6 hW r3)
      rcases IH with ⟨⟨mi2, ml2, s1, s2⟩, s3⟩ | ⟨v2, m2, H2, f2, d2, lt2, ⟨s1, s2, s3⟩, ⟨mi2, ml2, s4, s5, s6⟩, s7⟩
      · refine Or.inl ⟨⟨mi2, ml2, r4.trans s1, FCo_t r5 s2⟩, fun M ml q => ?_⟩
        obtain ⟨M1, ml3, u1, u2, u3, u4⟩ := r7 M ml q
        obtain ⟨M2, ml4, w1, w2⟩ := s3 M1 ml3 ⟨u4, u3⟩
        exact ⟨M2, ml4, u1.trans w1, FPo_t u2 w2⟩
      · refine Or.inr ⟨v2, m2, H2, f2, d2, lt2, ⟨OG_w s1 (by omega), by omega, fun k hk => (s3 k hk).trans (r3 k hk)⟩, ⟨mi2, ml2, r4.trans s4, FCo_t r5 s5, s6⟩, fun M ml q => ?_⟩
        obtain ⟨M1, ml3, u1, u2, u3, u4⟩ := r7 M ml q
        obtain ⟨M2, ml4, w1, w2, w3, w4⟩ := s7 M1 ml3 ⟨u4, u3⟩
        exact ⟨M2, ml4, u1.trans w1, FPo_t u2 w2, w3, w4⟩
/-- a clause -/
theorem o_cl (hs : Sy g) (hn : 6000 < n) {l1 l2 : List Ci} {x : Ci} (e : L = l1 ++ x :: l2) (hx : x.1 < 8) (hx2 : x.2.2.2.1 ≤ 20) {i p Lc j p' : Nat} {c : List (Nat × Nat)} (hi : i ≤ T) (hp : p ≤ 50) (hc : pCl true D V i p Lc = .ok (j, p', c, x)) {v : Nat → Int32} {m fh d B : Nat} {H : Nat → Nat → Int32} {lt : Int32} {mi : Nat → Nat → Int32} {ml : Nat → Nat → Int64} (h : OC g mi ln D V T L v m H fh d lt) (hG : OG B v m H) (hB : B + 180 < 2000000000) (hW : LWr v 6 T D V) :
    OR g ln D V T L (B + 180) (d + 20) v mi (fun M => OP M v m H d lt ∧ M 422 34 = nI (2400 + i)) (f_X11_runClause n 1 411 (nI l1.length) (g, mi, ml)) (fun M ml => f_X12_runs n 422 (nI (2400 + T)) (g, M, ml)) (fun h => some (nI 1, h)) (fun h => some (nI 1, h)) (nI (2400 + (j + 1))) := by
  obtain ⟨l, lw, lc, hC, hPI, hGI⟩ := id hG.1
  obtain ⟨h0, h1, h2, h3, h4, h5⟩ := en_at h.1 e
  have R := o_reps (ml := ml) (n := n) (tm := x.2.2.2.1) (l3 := nI (2400 + (j + 1))) hs hn e hx hi hp hc hx2 x.2.2.2.1 0 n v m fh d B H lt mi (by omega) (by omega) h hG (by omega) hW
  have eX : f_X11_runClause n 1 411 (nI l1.length) (g, mi, ml) = zlp6 (fb_X11_runClause_18 n) n 1 411 (nI l1.length) (nI x.2.2.2.1) (nI x.1) (nI 0) (g, mi, ml) := by
    unfold f_X11_runClause
    simp only [li]
    rw [S_ck411 hs, c_entry h.1 h0 (by decide), zb_s, h4, S_ck411 hs, c_entry h.1 h0 (by decide), zb_s, h1]
  have eY : ∀ M ml, OP M v m H d lt ∧ M 422 34 = nI (2400 + i) → ∃ N ml', f_X12_runs n 422 (nI (2400 + T)) (g, M, ml) = zlp5 (fb_X12_runs_19 n) n 422 (nI (2400 + T)) (nI x.2.2.2.1) (nI (2400 + (j + 1))) (nI 0) (g, N, ml') ∧ FPo M N ∧ OP N v m H d lt ∧ N 422 34 = nI (2400 + i) := fun M ml q => by
    obtain ⟨N, ml1, a1, a2, ⟨a3, a4, a5⟩, -⟩ := p_go (ml := ml) (n := n) (F := fun k => oe v (nI d) lt l k) hs (by omega) q.1.1 hW hC hPI (fun _ _ => rfl) q.1.2.2.1 q.1.2.2.2 hi hp hc q.2 (Or.inl rfl)
    refine ⟨N, ml1, ?_, FO_P a2, FO_OP a2 q.1, by rw [a2.2 34 (by decide)]; exact q.2⟩
    unfold f_X12_runs
    simp only [li]
    rw [S_ck422 hs, a1, zb_s, S_gI422 hs, a4, S_gI422 hs, a3]
  rcases R with ⟨⟨mi2, ml2, s1, s2⟩, s3⟩ | ⟨v2, m2, H2, f2, d2, lt2, ⟨s1, s2, s3⟩, ⟨mi2, ml2, s4, s5, s6⟩, s7⟩
  · refine Or.inl ⟨⟨mi2, ml2, eX.trans s1, s2⟩, fun M ml q => ?_⟩
    obtain ⟨N, ml1, u1, u2, u3, u4⟩ := eY M ml q
    obtain ⟨M2, ml4, w1, w2⟩ := s3 N ml1 ⟨u3, u4⟩
    exact ⟨M2, ml4, u1.trans w1, FPo_t u2 w2⟩
  · refine Or.inr ⟨v2, m2, H2, f2, d2, lt2, ⟨OG_w s1 (by omega), by omega, s3⟩, ⟨mi2, ml2, eX.trans s4, s5, s6⟩, fun M ml q => ?_⟩
    obtain ⟨N, ml1, u1, u2, u3, u4⟩ := eY M ml q
    obtain ⟨M2, ml4, w1, w2, w3, w4⟩ := s7 N ml1 ⟨u3, u4⟩
    exact ⟨M2, ml4, u1.trans w1, FPo_t u2 w2, w3, w4⟩
end
