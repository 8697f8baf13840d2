/-! reports on both sides -/
def clr (m c : Nat) : Nat := if c = 0 then 2 * (m / 2) else m % 2
theorem clr_t : ∀ m, m < 4 → ∀ c, c < 2 → nI m &&& ((nI 1 <<< (nI c &&& nI 31)) ^^^ m1) = nI (clr m c) := by decide +kernel
theorem clr_4 : ∀ m, m < 4 → ∀ c, c < 2 → clr m c < 4 := by decide
theorem clr_b : ∀ m, m < 4 → ∀ c, c < 2 → ∀ j, j < 2 → Nat.testBit (clr m c) j = false → (j = c ∨ Nat.testBit m j = false) := by decide +kernel
theorem nq_t : ∀ q, q < 8 → nI q / nI 2 = nI (q / 2) ∧ nI q &&& nI 1 = nI (q % 2) ∧ nI q - nI (q / 2) * nI 2 = nI (q % 2) := by decide
theorem tb0 : ∀ m, m < 4 → (Nat.testBit m 0 = false ∧ Nat.testBit m 1 = false) → m = 0 := by decide
def QT (v : Nat → Int32) (q : Nat) : Prop := v (131 + q) = nI 0 ∧ (4 ≤ q → v (121 + 2 * (q - 4)) = nI 0 ∧ v (121 + (2 * (q - 4) + 1)) = nI 0)
theorem pr_t : ∀ b, b < 256 → ∀ q, q < 8 → 4 ≤ q → (nI b &&& (nI 3 <<< ((nI 2 * (nI q - nI 4)) &&& nI 31)) = nI 0 ↔ (Nat.testBit b (2 * (q - 4)) = false ∧ Nat.testBit b (2 * (q - 4) + 1) = false)) := by decide +kernel
theorem Sim_s {g : zS} {w : Nat} {m0 : Nat → Nat → Int32} {v v1 : Nat → Int32} {X Y X1 Y1 : zH → Option (Int32 × zH)} (h : Sim g w m0 v1 X1 Y1) (he : ∀ k, (191 ≤ k ∨ k = 129 ∨ k = 130 ∨ k = 190) → v1 k = v k) (hX : ∀ mi ml, FC w m0 mi → WR mi w v → ∃ mi1 ml1, X (g, mi, ml) = X1 (g, mi1, ml1) ∧ WR mi1 w v1 ∧ FC w mi mi1) (hY : ∀ M ml, ∃ M1, Y (g, zrw M 424 v, ml) = Y1 (g, zrw M1 424 v1, ml) ∧ FM M M1) : Sim g w m0 v X Y := SimG_s h (fun _ _ p => ⟨Gw_l (fun k hk => he k (by omega)) p.1, p.2⟩) (fun k hk => he k (by omega)) hX hY
theorem SimN_s {g : zS} {w : Nat} {m0 : Nat → Nat → Int32} {v v1 : Nat → Int32} {X Y X1 Y1 : zH → Option (Int32 × zH)} (h : SimN g w m0 v1 X1 Y1) (he : ∀ k, (191 ≤ k ∨ k = 129 ∨ k = 130 ∨ k = 190) → v1 k = v k) (hX : ∀ mi ml, FC w m0 mi → WR mi w v → ∃ mi1 ml1, X (g, mi, ml) = X1 (g, mi1, ml1) ∧ WR mi1 w v1 ∧ FC w mi mi1) (hY : ∀ M ml, ∃ M1, Y (g, zrw M 424 v, ml) = Y1 (g, zrw M1 424 v1, ml) ∧ FM M M1) : SimN g w m0 v X Y := SimG_s h (fun _ _ p => ⟨Gw_l (fun k hk => he k (by omega)) p.1, p.2⟩) (fun k hk => he k (by omega)) hX hY
section
variable {g : zS} {n w : Nat} {m0 : Nat → Nat → Int32} {u0 v : Nat → Int32} {KO : (Nat → Int32) → Nat → Nat → Int32} {BO : (Nat → Int32) → Nat → Bool}
def vR (v : Nat → Int32) (x : Int32) (q m : Nat) : Nat → Int32 := upd (upd v 189 (v 189 + x)) (131 + q) (nI m)
theorem vR_e {x : Int32} {q m k : Nat} (h1 : k ≠ 189) (h2 : k ≠ 131 + q) : vR v x q m k = v k := by
  unfold vR
  rw [upd_ne h2, upd_ne h1]
theorem vR_wi {l lw lc : List Nat} {N : Nat → Nat} {x : Int32} {q c : Nat} (hC : CIr v l lw lc) (hP : PIr v) (g1 : ∀ q, 0 < q → q < 8 → N q < 4 ∧ v (131 + q) = nI (N q)) (g2 : ∀ q, 2 ≤ q → q < 8 → Nat.testBit (N (q / 2)) (q % 2) = false → N q = 0 ∧ (4 ≤ q → v (121 + 2 * (q - 4)) = nI 0 ∧ v (121 + (2 * (q - 4) + 1)) = nI 0)) (hr : v 129 = nI 1) (h0 : 0 < q) (hq : q < 8) (hc : c < 2) (hQ : q < 4 → QT v (2 * q + c)) : WI (vR v x q (clr (N q) c)) ∧ vR v x q (clr (N q) c) 129 = nI 1 := by
  have e0 : vR v x q (clr (N q) c) 129 = nI 1 := by rw [vR_e (by omega) (by omega)]; exact hr
  refine ⟨⟨l, lw, lc, CIr_cong hC (fun k hk => vR_e (by omega) (by omega)), ?_, fun s => if s = q then clr (N q) c else N s, fun s h1 h2 => ?_, Or.inr ⟨e0, fun s h1 h2 h3 => ?_⟩⟩, e0⟩
  · exact pi_fin hP (fun j h1 h2 => vR_e (by omega) (by omega)) (fun x l hl => ⟨l, Lk_only hl (fun j hj => vR_e (by omega) (by omega))⟩)
  · dsimp only
    by_cases e : s = q
    · rw [if_pos e, e]
      refine ⟨clr_4 _ (g1 q h0 hq).1 _ hc, ?_⟩
      unfold vR
      rw [upd_eq]
    · rw [if_neg e, vR_e (by omega) (by omega)]
      exact g1 s h1 h2
  · dsimp only at h3 ⊢
    have hh : ∀ j, 121 ≤ j → j < 129 → vR v x q (clr (N q) c) j = v j := fun j a b => vR_e (by omega) (by omega)
    have main : N s = 0 ∧ (4 ≤ s → v (121 + 2 * (s - 4)) = nI 0 ∧ v (121 + (2 * (s - 4) + 1)) = nI 0) := by
      by_cases e : s / 2 = q
      · rw [if_pos e] at h3
        rcases clr_b _ (g1 q h0 hq).1 _ hc _ (by omega) h3 with y | y
        · have e2 : s = 2 * q + c := by omega
          have h4 := hQ (by omega)
          rw [← e2] at h4
          refine ⟨?_, h4.2⟩
          have := (g1 s (by omega) h2).2
          rw [h4.1] at this
          exact (nI_inj (by decide) (by have := (g1 s (by omega) h2).1; omega) this).symm
        · exact g2 s h1 h2 (by rw [e]; exact y)
      · rw [if_neg e] at h3
        exact g2 s h1 h2 h3
    refine ⟨?_, fun h4 => ?_⟩
    · by_cases e : s = q
      · rw [if_pos e, ← e, main.1]
        exact (by decide : ∀ c, c < 2 → clr 0 c = 0) c hc
      · rw [if_neg e]; exact main.1
    · rw [hh _ (by omega) (by omega), hh _ (by omega) (by omega)]
      exact main.2 h4
theorem c_isQuiet {mi : Nat → Nat → Int32} {ml : Nat → Nat → Int64} (hs : Sy g) (hw : zWL.contains w = true) (hR : WR mi w v) {q : Nat} (h0 : 0 < q) (hq : q < 8) [Decidable (QT v q)] : f_X10_isQuiet n w (nI q) (g, mi, ml) = some (if QT v q then nI 1 else nI 0, (g, mi, ml)) := by
  unfold f_X10_isQuiet fb_X10_isQuiet_21 fb_X10_isQuiet_22 f_X10_processorsOf
  by_cases q4 : q < 4
  · have e : QT v q = (v (131 + q) = nI 0) := propext ⟨fun h => h.1, fun h => ⟨h, fun z => absurd z (by omega)⟩⟩
    simp (disch := omega) only [lit, nLt, if_pos, W_gR2 hs hw, A_aI9 hs hw, rd_miss hR, e]
    by_cases z : v (131 + q) = nI 0
    · simp only [z, if_T]
    · simp only [z, if_F]
  · obtain ⟨b, y1, y2, y3⟩ := hR.2.2.2.2
    have t := pr_t b y1 q hq (by omega)
    have e : QT v q = (v (131 + q) = nI 0 ∧ (nI b &&& (nI 3 <<< ((nI 2 * (nI q - nI 4)) &&& nI 31)) = nI 0)) := propext (by
      rw [t]
      unfold QT
      have a1 := y3 (2 * (q - 4)) (by omega)
      have a2 := y3 (2 * (q - 4) + 1) (by omega)
      rw [a1, a2, bI_0, bI_0]
      exact ⟨fun h => ⟨h.1, h.2 (by omega)⟩, fun h => ⟨h.1, fun _ => h.2⟩⟩)
    simp (disch := omega) only [lit, nLt, if_neg, W_gI hs hw, zb_s, W_gR2 hs hw, A_aI9 hs hw, rd_miss hR, y2, e]
    by_cases z : v (131 + q) = nI 0
    · by_cases x : nI b &&& (nI 3 <<< ((nI 2 * (nI q - nI 4)) &&& nI 31)) = nI 0
      · simp only [z, x, if_T, and_self]
      · simp (disch := omega) only [z, x, if_T, if_F, and_false, nEq, if_neg]
    · by_cases x : nI b &&& (nI 3 <<< ((nI 2 * (nI q - nI 4)) &&& nI 31)) = nI 0
      · simp (disch := omega) only [z, x, if_T, if_F, false_and]
      · simp (disch := omega) only [z, x, if_T, if_F, false_and]
theorem r_isHeld {M : Nat → Nat → Int32} {ml : Nat → Nat → Int64} (hs : Sy g) {p : Nat} (hp : p < 8) : f_X12_isHeld n 422 (nI p) (g, zrw M 424 v, ml) = some (if v (121 + p) = nI 1 then nI 1 else nI 0, (g, zrw M 424 v, ml)) := by
  unfold f_X12_isHeld
  simp (disch := omega) only [lit, S_gR422_2 hs, R_a hs, nI_add]
  by_cases z : v (121 + p) = nI 1
  · simp only [z, if_T]
  · simp only [z, if_F]
theorem r_looksAt {M : Nat → Nat → Int32} {ml : Nat → Nat → Int64} (hs : Sy g) (hP : PIr v) {q : Nat} (h0 : 4 ≤ q) (hq : q < 8) [Decidable (QT v q)] : f_X12_looksAt n 422 (nI q) (g, zrw M 424 v, ml) = if QT v q then zlp2 (fb_X12_looksAt_41 n) n 422 (nI q) (g, zrw M 424 v, ml) else some (nI 0, (g, zrw M 424 v, ml)) := by
  have t : ∀ q, q < 8 → 4 ≤ q → nI 2 * (nI q - nI 4) = nI (2 * (q - 4)) := by decide
  have hz : ∀ p, p < 8 → ¬ v (121 + p) = nI 1 → v (121 + p) = nI 0 := fun p hp h => by
    rcases (hP p hp).1.2.2 with y | y
    · exact y
    · exact absurd y h
  unfold f_X12_looksAt
  simp (disch := omega) only [lit, q_let, t q hq h0, S_gR422_2 hs, R_a hs, S_ck422 hs, r_isHeld hs, zb_s, nI_add]
  by_cases z : v (131 + q) = nI 0
  · rw [if_pos z]
    by_cases x : v (121 + 2 * (q - 4)) = nI 1
    · rw [if_neg (c := QT v q) (fun h => n01 ((h.2 h0).1.symm.trans x))]
      simp (disch := omega) only [x, if_T, nEq, if_neg]
    · simp only [x, if_T, if_F]
      by_cases y : v (121 + (2 * (q - 4) + 1)) = nI 1
      · rw [if_neg (c := QT v q) (fun h => n01 ((h.2 h0).2.symm.trans y))]
        simp (disch := omega) only [y, if_T, nEq, if_neg]
      · rw [if_pos (c := QT v q) ⟨z, fun _ => ⟨hz _ (by omega) x, hz _ (by omega) y⟩⟩]
        simp only [y, if_T, if_F]
  · rw [if_neg z, if_neg (fun h => z h.1)]
theorem r_reports {M : Nat → Nat → Int32} {ml : Nat → Nat → Int64} (hs : Sy g) (HR : HRo g n u0 KO BO) (hu : ∀ k, 191 ≤ k → v k = u0 k) {q c m : Nat} (h0 : 0 < q) (hq : q < 8) (hc : c < 2) (hm : m < 4) (hv : v (131 + q) = nI m) : ∃ M', f_X12_reports n 422 (nI q) (nI c) (g, zrw M 424 v, ml) = some ((), (g, zrw M' 424 (vR v (KO v q c) q (clr m c)), ml)) ∧ FM M M' := by
  obtain ⟨M', e1, e2⟩ := (HR M ml v hu).1 q c h0 hq hc
  refine ⟨M', ?_, e2⟩
  unfold f_X12_reports vR
  simp (disch := omega) only [lit, ng1, S_ck422 hs, e1, zb_s, S_gR422_2 hs, R_a hs, R_e hs, nI_add, upd_ne, hv, clr_t m hm c hc]
theorem c_rstep {mi : Nat → Nat → Int32} {ml : Nat → Nat → Int64} (hs : Sy g) (hw : zWL.contains w = true) (hw2 : w = 2 ∨ w = 12) (HC : HCo g n m0 u0 w KO BO) (hu : ∀ k, 191 ≤ k → v k = u0 k) (hF : FC w m0 mi) (hR : WR mi w v) {q c m : Nat} (h0 : 0 < q) (hq : q < 8) (hc : c < 2) (hm : m < 4) (hv : v (131 + q) = nI m) (f : Nat) [Decidable (QT (vR v (KO v q c) q (clr m c)) q)] : ∃ mi1 ml1, zlp4 (fb_X10_report_6 n) (f + 1) w 25 (nI c) (nI q) (g, mi, ml) = (if QT (vR v (KO v q c) q (clr m c)) q then zlp4 (fb_X10_report_6 n) f w 25 (nI (q % 2)) (nI (q / 2)) (g, mi1, ml1) else some (nI 0, (g, mi1, ml1))) ∧ WR mi1 w (vR v (KO v q c) q (clr m c)) ∧ FC w mi mi1 := by
  obtain ⟨A, HC⟩ := HC
  obtain ⟨a1, a2, -⟩ := HC mi ml v hF hu hR
  obtain ⟨ff, ml1, a3⟩ := a2 q c h0 hq hc
  have k1 := L_pl (x := v 189 + KO v q c) (FC_23w (f := ff) hw2 hR) (pl_cost (w := w)) (by decide) (by decide)
  have k2 : WR _ w (vR v (KO v q c) q (clr m c)) := L_pl (x := nI (clr m c)) k1 (pl_miss (w := w) h0 hq) (by omega) (by omega)
  have hq2 := c_isQuiet (ml := ml1) (n := n) hs hw k2 h0 hq
  have e1 : zu (zrw mi 23 ff) w 8 (v 189 + KO v q c) (w + 9) q = nI m := by
    rw [rd_miss k1 h0 hq, upd_ne (by omega), hv]
  refine ⟨_, ml1, ?_, k2, FC_t FC_23 (FC_w (Fw_t (Fw_zu (by omega) (by omega)) (Fw_zu (by omega) (by omega))))⟩
  show fb_X10_report_6 n (zlp4 (fb_X10_report_6 n) f) w 25 (nI c) (nI q) (g, mi, ml) = _
  generalize zlp4 (fb_X10_report_6 n) f = kk
  unfold fb_X10_report_6
  simp (disch := omega) only [lit, ng1, nLt, nLe, if_neg, zb_s, nEq, W_gI hs hw, S_gI25 hs, S_ck25 hs, a1, a3, W_pI hs hw, W_gR2 hs hw, A_aI9 hs hw, A_eI9 hs hw, rd_cost hR, e1, clr_t m hm c hc, W_ck hs hw, hq2, q_let, (nq_t q hq).1, (nq_t q hq).2.1]
  by_cases z : QT (vR v (KO v q c) q (clr m c)) q
  · simp (disch := omega) only [z, if_T, nEq, if_neg]
  · simp (disch := omega) only [z, if_T, if_F]
theorem up_in (hs : Sy g) (hw : zWL.contains w = true) (hw2 : w = 2 ∨ w = 12) (hn : 24 < n) (HC : HCo g n m0 u0 w KO BO) (HR : HRo g n u0 KO BO) : ∀ (t q c f f' : Nat) (v : Nat → Int32), q ≤ t → 0 < q → q < 4 → c < 2 → t < f → t < f' → (∀ k, 191 ≤ k → v k = u0 k) → WI v → v 129 = nI 1 → QT v (2 * q + c) → SimN g w m0 v (zlp4 (fb_X10_report_6 n) f w 25 (nI c) (nI q)) (fun h => zb (f_X12_reports n 422 (nI q) (nI c) h) fun _ h' => zlp2 (fb_X12_looksAt_41 n) f' 422 (nI q) h')
  | 0, q, c, f, f', v, h1, h2, _, _, _, _, _, _, _, _ => absurd h1 (by omega)
  | t + 1, q, c, 0, f', v, h1, h2, _, _, h3, _, _, _, _, _ => absurd h3 (by omega)
  | t + 1, q, c, f + 1, 0, v, h1, h2, _, _, _, h3, _, _, _, _ => absurd h3 (by omega)
  | t + 1, q, c, f + 1, f' + 1, v, h1, h0, h4, hc, hf, hf', hu, hI, hr, hQ => by
    classical
    obtain ⟨l, lw, lc, hC, hP, N, g1, g2⟩ := hI
    rcases g2 with ⟨a, -⟩ | ⟨-, g2⟩
    · exact absurd (a.symm.trans hr) n01
    have hm := (g1 q h0 (by omega)).1
    have hv := (g1 q h0 (by omega)).2
    obtain ⟨w1, w2⟩ := vR_wi (x := KO v q c) hC hP g1 g2 hr h0 (by omega) hc (fun _ => hQ)
    have e191 : ∀ k, (191 ≤ k ∨ k = 129 ∨ k = 130 ∨ k = 190) → vR v (KO v q c) q (clr (N q) c) k = v k := fun k hk => vR_e (by omega) (by omega)
    by_cases z : QT (vR v (KO v q c) q (clr (N q) c)) q
    · by_cases q1 : q = 1
      · subst q1
        obtain ⟨l', lw', lc', hC', hP', N', g1', g2'⟩ := id w1
        rcases g2' with ⟨a, -⟩ | ⟨-, g2'⟩
        · exact absurd (a.symm.trans w2) n01
        have z1 : N' 1 = 0 := by
          have := (g1' 1 (by decide) (by decide)).2
          rw [z.1] at this
          exact (nI_inj (by decide) (by have := (g1' 1 (by decide) (by decide)).1; omega) this).symm
        have z2 := g2' 2 (by decide) (by decide) (by rw [show 2 / 2 = 1 from rfl, z1]; rfl)
        have z3 := g2' 3 (by decide) (by decide) (by rw [show 3 / 2 = 1 from rfl, z1]; rfl)
        have z4 := g2' 4 (by decide) (by decide) (by rw [show 4 / 2 = 2 from rfl, z2.1]; rfl)
        have z5 := g2' 5 (by decide) (by decide) (by rw [show 5 / 2 = 2 from rfl, z2.1]; rfl)
        have z6 := g2' 6 (by decide) (by decide) (by rw [show 6 / 2 = 3 from rfl, z3.1]; rfl)
        have z7 := g2' 7 (by decide) (by decide) (by rw [show 7 / 2 = 3 from rfl, z3.1]; rfl)
        have hN : ∀ s, 0 < s → s < 8 → vR v (KO v 1 c) 1 (clr (N 1) c) (131 + s) = nI 0 := by
          intro s h5 h6
          rw [(g1' s h5 h6).2]
          have : s = 1 ∨ s = 2 ∨ s = 3 ∨ s = 4 ∨ s = 5 ∨ s = 6 ∨ s = 7 := by omega
          rcases this with e | e | e | e | e | e | e <;> subst e
          · rw [z1]
          · rw [z2.1]
          · rw [z3.1]
          · rw [z4.1]
          · rw [z5.1]
          · rw [z6.1]
          · rw [z7.1]
        have hH : ∀ p, p < 8 → vR v (KO v 1 c) 1 (clr (N 1) c) (121 + p) = nI 0 := by
          intro p hp
          have : p = 0 ∨ p = 1 ∨ p = 2 ∨ p = 3 ∨ p = 4 ∨ p = 5 ∨ p = 6 ∨ p = 7 := by omega
          rcases this with e | e | e | e | e | e | e | e <;> subst e
          · exact (z4.2 (by decide)).1
          · exact (z4.2 (by decide)).2
          · exact (z5.2 (by decide)).1
          · exact (z5.2 (by decide)).2
          · exact (z6.2 (by decide)).1
          · exact (z6.2 (by decide)).2
          · exact (z7.2 (by decide)).1
          · exact (z7.2 (by decide)).2
        refine SimN_s (end_sim (m0 := m0) hs hw hn w1 hH hN w2) e191 (fun mi ml hF hR => ?_) (fun M ml => ?_)
        · obtain ⟨mi1, ml1, b1, b2, b3⟩ := c_rstep (ml := ml) hs hw hw2 HC hu hF hR (by decide) (by decide) hc hm hv f
          refine ⟨mi1, ml1, ?_, b2, b3⟩
          rw [b1, if_pos z]
          cases f with
          | zero => omega
          | succ f =>
            show fb_X10_report_6 n (zlp4 (fb_X10_report_6 n) f) w 25 (nI 1) (nI 0) (g, mi1, ml1) = _
            unfold fb_X10_report_6 fb_X10_report_87
            simp (disch := omega) only [lit, nLt, if_pos, zb_s, if_T, W_ck hs hw, zb_id]
        · obtain ⟨M1, b1, b2⟩ := r_reports (M := M) (ml := ml) hs HR hu (by decide) (by decide) hc hm hv
          refine ⟨M1, ?_, b2⟩
          rw [b1, zb_s]
          show fb_X12_looksAt_41 n (zlp2 (fb_X12_looksAt_41 n) f') 422 (nI 1) _ = _
          unfold fb_X12_looksAt_41 fb_X12_looksAt_76
          simp (disch := omega) only [lit, nLe, if_pos, if_T, S_gR422_2 hs, R_a hs, nI_add, z.1, S_ck422 hs, zb_id]
      · have ih := up_in hs hw hw2 hn HC HR t (q / 2) (q % 2) f f' _ (by omega) (by omega) (by omega) (by omega) (by omega) (by omega) (fun k hk => (e191 k (Or.inl hk)).trans (hu k hk)) w1 w2 (by
          have e : 2 * (q / 2) + q % 2 = q := by omega
          rw [e]; exact z)
        refine SimN_s ih e191 (fun mi ml hF hR => ?_) (fun M ml => ?_)
        · obtain ⟨mi1, ml1, b1, b2, b3⟩ := c_rstep (ml := ml) hs hw hw2 HC hu hF hR h0 (by omega) hc hm hv f
          exact ⟨mi1, ml1, by rw [b1, if_pos z], b2, b3⟩
        · obtain ⟨M1, b1, b2⟩ := r_reports (M := M) (ml := ml) hs HR hu h0 (by omega) hc hm hv
          refine ⟨M1, ?_, b2⟩
          rw [b1, zb_s]
          show fb_X12_looksAt_41 n (zlp2 (fb_X12_looksAt_41 n) f') 422 (nI q) _ = _
          unfold fb_X12_looksAt_41
          simp (disch := omega) only [lit, nLe, if_neg, if_T, S_gR422_2 hs, R_a hs, nI_add, z.1, S_ck422 hs, (nq_t q (by omega)).1, (nq_t q (by omega)).2.2, q_let]
    · refine ⟨nI 0, _, ⟨Gw_0 (fun k hk => e191 k (by omega)), 0, by decide, rfl⟩, w1, fun k hk => e191 k (Or.inl hk), fun M ml => ?_, fun mi ml hF hR => ?_⟩
      · obtain ⟨M1, b1, b2⟩ := r_reports (M := M) (ml := ml) hs HR hu h0 (by omega) hc hm hv
        refine ⟨M1, ?_, b2⟩
        (try dsimp only)
        rw [b1, zb_s]
        have z' : ¬ vR v (KO v q c) q (clr (N q) c) (131 + q) = nI 0 := fun y => z ⟨y, fun h => absurd h (by omega)⟩
        show fb_X12_looksAt_41 n (zlp2 (fb_X12_looksAt_41 n) f') 422 (nI q) _ = _
        unfold fb_X12_looksAt_41 fb_X12_looksAt_76
        by_cases q1 : q = 1
        · subst q1
          simp (disch := omega) only [lit, nLe, if_pos, if_T, S_gR422_2 hs, R_a hs, nI_add, z', if_F]
        · simp (disch := omega) only [lit, nLe, if_neg, nEq, if_F, S_gR422_2 hs, R_a hs, nI_add, z']
      · obtain ⟨mi1, ml1, b1, b2, b3⟩ := c_rstep (ml := ml) hs hw hw2 HC hu hF hR h0 (by omega) hc hm hv f
        exact ⟨mi1, ml1, by rw [b1, if_neg z], b2, b3⟩
theorem up_leaf (hs : Sy g) (hw : zWL.contains w = true) (hw2 : w = 2 ∨ w = 12) (hn : 24 < n) (HC : HCo g n m0 u0 w KO BO) (HR : HRo g n u0 KO BO) {q c : Nat} (h0 : 4 ≤ q) (hq : q < 8) (hc : c < 2) (hu : ∀ k, 191 ≤ k → v k = u0 k) (hI : WI v) (hr : v 129 = nI 1) : SimN g w m0 v (f_X10_report n w (nI q) (nI c) 25) (fun h => zb (f_X12_reports n 422 (nI q) (nI c) h) fun _ h' => f_X12_looksAt n 422 (nI q) h') := by
  classical
  obtain ⟨n, rfl⟩ : ∃ n', n = n' + 1 := ⟨n - 1, by omega⟩
  obtain ⟨l, lw, lc, hC, hP, N, g1, g2⟩ := hI
  rcases g2 with ⟨a, -⟩ | ⟨-, g2⟩
  · exact absurd (a.symm.trans hr) n01
  have hm := (g1 q (by omega) hq).1
  have hv := (g1 q (by omega) hq).2
  obtain ⟨w1, w2⟩ := vR_wi (x := KO v q c) hC hP g1 g2 hr (by omega) hq hc (fun h => absurd h (by omega))
  have e191 : ∀ k, (191 ≤ k ∨ k = 129 ∨ k = 130 ∨ k = 190) → vR v (KO v q c) q (clr (N q) c) k = v k := fun k hk => vR_e (by omega) (by omega)
  have hP1 : PIr (vR v (KO v q c) q (clr (N q) c)) := by obtain ⟨_, _, _, _, h, _⟩ := w1; exact h
  by_cases z : QT (vR v (KO v q c) q (clr (N q) c)) q
  · have ih := up_in hs hw hw2 hn HC HR 3 (q / 2) (q % 2) n n _ (by omega) (by omega) (by omega) (by omega) (by omega) (by omega) (fun k hk => (e191 k (Or.inl hk)).trans (hu k hk)) w1 w2 (by
      have e : 2 * (q / 2) + q % 2 = q := by omega
      rw [e]; exact z)
    refine SimN_s ih e191 (fun mi ml hF hR => ?_) (fun M ml => ?_)
    · obtain ⟨mi1, ml1, b1, b2, b3⟩ := c_rstep (ml := ml) hs hw hw2 HC hu hF hR (by omega) hq hc hm hv n
      exact ⟨mi1, ml1, by unfold f_X10_report; rw [b1, if_pos z], b2, b3⟩
    · obtain ⟨M1, b1, b2⟩ := r_reports (M := M) (ml := ml) hs HR hu (by omega) hq hc hm hv
      refine ⟨M1, ?_, b2⟩
      (try dsimp only)
      rw [b1, zb_s, r_looksAt hs hP1 h0 hq, if_pos z]
      show fb_X12_looksAt_41 (n + 1) (zlp2 (fb_X12_looksAt_41 (n + 1)) n) 422 (nI q) _ = _
      unfold fb_X12_looksAt_41
      simp (disch := omega) only [lit, nLe, if_neg, if_T, S_gR422_2 hs, R_a hs, nI_add, z.1, S_ck422 hs, (nq_t q (by omega)).1, (nq_t q (by omega)).2.2, q_let]
  · refine ⟨nI 0, _, ⟨Gw_0 (fun k hk => e191 k (by omega)), 0, by decide, rfl⟩, w1, fun k hk => e191 k (Or.inl hk), fun M ml => ?_, fun mi ml hF hR => ?_⟩
    · obtain ⟨M1, b1, b2⟩ := r_reports (M := M) (ml := ml) hs HR hu (by omega) hq hc hm hv
      refine ⟨M1, ?_, b2⟩
      (try dsimp only)
      rw [b1, zb_s, r_looksAt hs hP1 h0 hq, if_neg z]
    · obtain ⟨mi1, ml1, b1, b2, b3⟩ := c_rstep (ml := ml) hs hw hw2 HC hu hF hR (by omega) hq hc hm hv n
      exact ⟨mi1, ml1, by unfold f_X10_report; rw [b1, if_neg z], b2, b3⟩
end
