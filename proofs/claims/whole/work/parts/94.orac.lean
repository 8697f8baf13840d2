/-! laws that stand: costs and bars on both sides -/
def inL (g : zS) (a : Nat) : Prop := 439 < a ∧ a ≤ g.2.2.2.1
def LWk (g : zS) (mi : Nat → Nat → Int32) (v : Nat → Int32) (X i : Nat) (l : List Ci) : Prop := ∃ sA aA eA ln T D V, LWx g mi X sA aA eA ln false D V T l ∧ LWr v i T D V ∧ inL g X ∧ inL g sA ∧ inL g aA ∧ inL g eA
def RU (g : zS) (mi : Nat → Nat → Int32) (a la : Nat) (v : Nat → Int32) : Prop := ∃ cnt, (cnt ≤ 6 ∧ mi a 2 = nI cnt ∧ v 206 = nI cnt) ∧ (mi a 3 = v 207 ∧ (v 207 = m1 ∨ ∃ i, i < cnt ∧ v 207 = nI i)) ∧ (mi a 4 = v 203 ∧ ∃ k, k ≤ 10 ∧ v 203 = nI k) ∧ (mi a 5 = v 204 ∧ ∃ k, k ≤ 9 ∧ v 204 = nI k) ∧ ∀ i, i < cnt → ∃ l, LWk g mi v (g.2.2.1 la i) i l
theorem LWr_c {v v' : Nat → Int32} {i T : Nat} {D V : Nat → Nat} (h : LWr v i T D V) (e : ∀ k, 208 ≤ k → k ≠ 214 → v' k = v k) (hi : i < 6) : LWr v' i T D V := by
  obtain ⟨⟨h1, h2⟩, h3, h4⟩ := h
  refine ⟨⟨by rw [e _ (by omega) (by omega)]; exact h1, h2⟩, fun k hk => ?_, h4⟩
  rw [e _ (by omega) (by omega), e _ (by omega) (by omega)]
  exact h3 k hk
theorem LWk_c {g g' : zS} {mi mi' : Nat → Nat → Int32} {v v' : Nat → Int32} {X i : Nat} {l : List Ci} (h : LWk g mi v X i l) (hi : i < 6) (e : ∀ k, 208 ≤ k → k ≠ 214 → v' k = v k) (em : ∀ a, 439 < a → a ≤ g.2.2.2.1 → mi' a = mi a) (eg : ∀ a, 439 < a → a ≤ g.2.2.2.1 → g'.1 a = g.1 a ∧ g'.2.1 a = g.2.1 a ∧ g'.2.2.1 a = g.2.2.1 a) (hg : g.2.2.2.1 ≤ g'.2.2.2.1) : LWk g' mi' v' X i l := by
  obtain ⟨sA, aA, eA, ln, T, D, V, h1, h2, h3, h4, h5, h6⟩ := h
  have q3 := eg X h3.1 h3.2
  have q4 := eg sA h4.1 h4.2
  have q5 := eg aA h5.1 h5.2
  have q6 := eg eA h6.1 h6.2
  exact ⟨sA, aA, eA, ln, T, D, V, LWx_c h1 (em X h3.1 h3.2) (em sA h4.1 h4.2) (em aA h5.1 h5.2) (em eA h6.1 h6.2) ⟨q3.1, q3.2.2⟩ ⟨q4.1, q4.2.1⟩ ⟨q5.1, q5.2.1⟩ ⟨q6.1, q6.2.1⟩, LWr_c h2 e hi, ⟨h3.1, Nat.le_trans h3.2 hg⟩, ⟨h4.1, Nat.le_trans h4.2 hg⟩, ⟨h5.1, Nat.le_trans h5.2 hg⟩, ⟨h6.1, Nat.le_trans h6.2 hg⟩⟩
theorem RU_c {g : zS} {mi mi' : Nat → Nat → Int32} {a la : Nat} {v v' : Nat → Int32} (h : RU g mi a la v) (e : ∀ k, 203 ≤ k → k ≠ 214 → v' k = v k) (ea : mi' a = mi a) (em : ∀ a, 439 < a → a ≤ g.2.2.2.1 → mi' a = mi a) : RU g mi' a la v' := by
  obtain ⟨cnt, ⟨h1, h2, h3⟩, ⟨h4, h5⟩, ⟨h6, h7⟩, ⟨h8, h8'⟩, h9⟩ := h
  refine ⟨cnt, ⟨h1, by rw [ea]; exact h2, by rw [e _ (by decide) (by decide)]; exact h3⟩, ⟨by rw [ea, e _ (by decide) (by decide)]; exact h4, by rw [e _ (by decide) (by decide)]; exact h5⟩, ⟨by rw [ea, e _ (by decide) (by decide)]; exact h6, by rw [e _ (by decide) (by decide)]; exact h7⟩, ⟨by rw [ea, e _ (by decide) (by decide)]; exact h8, by rw [e _ (by decide) (by decide)]; exact h8'⟩, fun i hi => ?_⟩
  obtain ⟨l, hl⟩ := h9 i hi
  exact ⟨l, LWk_c hl (by omega) (fun k h1 h2 => e k (by omega) h2) em (fun _ _ _ => ⟨rfl, rfl, rfl⟩) (Nat.le_refl _)⟩
section
variable {g : zS} {mi : Nat → Nat → Int32} {ml : Nat → Nat → Int64} {v : Nat → Int32} {n w : Nat}
theorem c_lawAt (hs : Sy g) {i cnt : Nat} (hi : i < cnt) (hc : cnt ≤ 6) (h2 : mi 25 2 = nI cnt) : f_X6_lawAt n 25 (nI i) (g, mi, ml) = some (g.2.2.1 26 i, (g, mi, ml)) := by
  unfold f_X6_lawAt
  simp only [li]
  rw [iLt0 (by omega) (by omega) (by omega), S_gI25 hs, h2, iLe0 (by omega) (by omega) (by omega), iLe0 (by omega) (by omega) (by omega), S_gR25_1 hs, q_aR (Sy_f hs (0, 26, 0, 25) rfl) (Sy_f hs (1, 26, 0, 6) rfl) (by decide) (show i < 6 by omega)]
theorem c_lawAt0 : f_X6_lawAt n 25 m1 (g, mi, ml) = some (0, (g, mi, ml)) := if_pos (by decide)
theorem c_cost0 {a b : Int32} : f_X6_costOf n 25 0 a b w (g, mi, ml) = some (nI 1, (g, mi, ml)) := if_pos rfl
theorem c_bar0 (hs : Sy g) {k t : Int32} (h : mi 25 3 = m1) : f_X6_bars n 25 k t (g, mi, ml) = some (nI 0, (g, mi, ml)) := by
  unfold f_X6_bars
  rw [S_gI25 hs, S_ck25 hs, h, c_lawAt0, zb_s, if_pos rfl]
  rfl
/-- the law of a number, on both sides -/
theorem law_at (hs : Sy g) (hn : 3000 < n) (hU : RU g mi 25 26 v) {i cnt : Nat} (hc : v 206 = nI cnt) (hi : i < cnt) (hc6 : cnt ≤ 6) : ∃ X l sA aA eA ln T D V c, g.2.2.1 26 i = X ∧ 439 < X ∧ LWx g mi X sA aA eA ln false D V T l ∧ 25 < sA ∧ 25 < aA ∧ 25 < eA ∧ LWr v i T D V ∧ pRd false D V T 12 0 0 0 = .ok (l, c) ∧ ∀ n ml, f_X6_lawAt n 25 (nI i) (g, mi, ml) = some (X, (g, mi, ml)) := by
  obtain ⟨cnt', ⟨h1, h2, h3⟩, -, -, -, h9⟩ := hU
  have : cnt' = cnt := nI_inj (by omega) (by omega) (h3.symm.trans hc)
  subst this
  obtain ⟨l, sA, aA, eA, ln, T, D, V, a1, a2, a3, a4, a5, a6⟩ := h9 i hi
  obtain ⟨b1, b2, b3, b4, b5, c, b6, b7, b8⟩ := id a1
  exact ⟨_, l, sA, aA, eA, ln, T, D, V, c, rfl, a3.1, a1, Nat.lt_trans (by decide) a4.1, Nat.lt_trans (by decide) a5.1, Nat.lt_trans (by decide) a6.1, a2, b8, fun n ml => c_lawAt hs hi hc6 h2⟩
theorem orac {m0 : Nat → Nat → Int32} {u0 : Nat → Int32} (hs : Sy g) (hn : 3000 < n) (hw : zWL.contains w = true) (hw2 : w = 2 ∨ w = 12) (hU : RU g m0 25 26 u0) : ∃ KO BO, HCo g n m0 u0 w KO BO ∧ HRo g n u0 KO BO := by
  have hC : ∀ mi v, FC w m0 mi → (∀ k, 191 ≤ k → v k = u0 k) → RU g mi 25 26 v := fun mi v hF hv => RU_c hU (fun k h1 _ => hv k (by omega)) (hF 25 (by decide) (by omega)) (fun a h1 _ => hF a (by omega) (by omega))
  obtain ⟨cnt, ⟨h1, h2, h3⟩, ⟨h4, h5⟩, -, -, -⟩ := id hU
  rcases h5 with h5 | ⟨i, hi, h5⟩
  · refine ⟨fun _ _ _ => nI 1, fun _ _ => false, ⟨0, fun mi ml v hF hv hR => ?_⟩, fun M ml v hv => ⟨fun nd ch a1 a2 a3 => ?_, fun k hk => ?_⟩⟩
    · have e3 : mi 25 3 = m1 := by rw [hF 25 (by decide) (by omega), h4, h5]
      refine ⟨by rw [e3]; exact c_lawAt0, fun nd ch a1 a2 a3 => ⟨mi 23, ml, ?_⟩, fun k hk => ⟨mi 23, ml, ?_⟩⟩
      · rw [u_self]; exact c_cost0
      · rw [u_self, c_bar0 hs e3]; rfl
    · exact r_cost0 hs (by rw [hv _ (by decide)]; exact h5) a2
    · obtain ⟨M', e1, e2⟩ := r_bar0 (M := M) (ml := ml) (n := n) (k := k) hs (show v 207 = m1 by rw [hv _ (by decide)]; exact h5)
      exact ⟨M', by rw [e1]; rfl, e2⟩
  · obtain ⟨X, l, sA, aA, eA, ln, T, D, V, c, x1, x2, x3, x4, x5, x6, x7, x8, x9⟩ := law_at (n := n) hs hn hU h3 hi h1
    refine ⟨fun v nd ch => KL l v nd ch, fun v k => decide (BL l v k = nI 1), ⟨X, fun mi ml v hF hv hR => ?_⟩, fun M ml v hv => ⟨fun nd ch a1 a2 a3 => ?_, fun k hk => ?_⟩⟩
    · obtain ⟨X', l', sA', aA', eA', ln', T', D', V', c', y1, y2, y3, y4, y5, y6, y7, y8, y9⟩ := law_at (n := n) hs hn (hC mi v hF hv) (by rw [hv _ (by decide)]; exact h3) hi h1
      have : X' = X := y1.symm.trans x1
      subst this
      have z3 : LWx g mi X' sA aA eA ln false D V T l := by
        have f : ∀ a, 439 < a → mi a = m0 a := fun a ha => hF a (by omega) (by omega)
        obtain ⟨l2, sA2, aA2, eA2, ln2, T2, D2, V2, b1, b2, b3, b4, b5, b6⟩ : ∃ l, LWk g m0 u0 X' i l := by
          obtain ⟨cnt', ⟨t1, t2, t3⟩, -, -, -, t9⟩ := hU
          have : cnt' = cnt := nI_inj (by omega) (by omega) (t3.symm.trans h3)
          subst this
          rw [← x1]; exact t9 i hi
        have es : sA2 = sA := b1.1.1.2.1.symm.trans x3.1.1.2.1
        have ea : aA2 = aA := b1.1.1.2.2.2.1.symm.trans x3.1.1.2.2.2.1
        have ee : eA2 = eA := b1.2.1.1.1.symm.trans x3.2.1.1.1
        rw [es] at b4
        rw [ea] at b5
        rw [ee] at b6
        exact LWx_c x3 (f X' x2) (f sA b4.1) (f aA b5.1) (f eA b6.1) ⟨rfl, rfl⟩ ⟨rfl, rfl⟩ ⟨rfl, rfl⟩ ⟨rfl, rfl⟩
      obtain ⟨cnt2, ⟨t1, t2, t3⟩, ⟨t4, t5⟩, t6, t7, t8⟩ := hC mi v hF hv
      have e3 : mi 25 3 = nI i := by rw [t4, hv _ (by decide)]; exact h5
      refine ⟨by rw [e3]; exact y9 n ml, fun nd ch a1 a2 a3 => c_cost hs hn hw hw2 hR t7.1 z3 (by omega) (by omega) x4 x5 x6 a2, fun k hk => ?_⟩
      obtain ⟨f, ml', e4⟩ := c_bar (ml := ml) (k := k) hs hn t7.1 z3 (by omega) (by omega) x4 x5 x6 (by rw [e3]; exact y9 n ml)
      refine ⟨f, ml', ?_⟩
      rw [e4]
      by_cases q : BL l v k = nI 1
      · rw [if_pos q, if_pos (by simpa using q)]
      · rw [if_neg q, if_neg (by simpa using q)]
    · exact r_cost hs hn (by omega) (by rw [hv _ (by decide)]; exact h5) (LWr_c x7 (fun k hk _ => hv k (by omega)) (by omega)) x8 a2
    · obtain ⟨M', e4, e5⟩ := r_bar (M := M) (ml := ml) (k := k) hs hn (show i < 6 by omega) (show v 207 = nI i by rw [hv _ (by decide)]; exact h5) (LWr_c x7 (fun k hk _ => hv k (by omega)) (by omega)) x8
      refine ⟨M', ?_, e5⟩
      rw [e4]
      by_cases q : BL l v k = nI 1
      · rw [if_pos q, if_pos (by simpa using q)]
      · rw [if_neg q, if_neg (by simpa using q)]
end
