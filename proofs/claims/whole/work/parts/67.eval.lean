/-! the plain form at work on the row of tokens: tests -/
def tB (b : Bool) : Int32 := if b then nI 1 else nI 0
theorem tB_01 (b : Bool) : tB b = nI 0 ∨ tB b = nI 1 := by cases b <;> decide
def RsT (lv b b' r : Int32) (d : Option Bool) : Prop := (b' = nI 0 ∨ b' = nI 1) ∧ (r = nI 0 ∨ r = nI 1) ∧ (lv = nI 1 ∧ b = nI 0 → (∀ x, d = some x → r = tB x ∧ b' = nI 0) ∧ (d = none → b' = nI 1)) ∧ (¬ (lv = nI 1 ∧ b = nI 0) → b' = b)
def jv (x : Bool) (lv l : Int32) : Int32 := if lv = nI 1 ∧ l ≠ tB x then nI 1 else nI 0
def jr (x : Bool) (l r : Int32) : Int32 := if l = tB x ∨ r = tB x then tB x else tB (!x)
theorem RsT_j {x : Bool} {lv b0 b b1 l r : Int32} {d d1 : Option Bool} (h1 : RsT lv b0 b l d) (h2 : RsT (jv x lv l) b b1 r d1) : RsT lv b0 b1 (jr x l r) (oP x d d1) := by
  have hj : jr x l r = nI 0 ∨ jr x l r = nI 1 := by
    unfold jr
    split
    · exact tB_01 _
    · exact tB_01 _
  refine ⟨h2.1, hj, fun hl => ?_, fun hl => ?_⟩
  · obtain ⟨p1, p2⟩ := h1.2.2.1 hl
    cases hd : d with
    | none =>
      have e1 := p2 hd
      have e2 := h2.2.2.2 (fun z => n01 (z.2.symm.trans e1))
      exact ⟨fun x hx => absurd hx (by simp [oP]), fun _ => e2.trans e1⟩
    | some a =>
      obtain ⟨e1, e2⟩ := p1 a hd
      by_cases z : a = x
      · have ev : jv x lv l = nI 0 := by
          unfold jv
          rw [if_neg (fun y => y.2 (by rw [e1, z]))]
        have e3 := h2.2.2.2 (fun y => n01 (ev.symm.trans y.1))
        have e4 : jr x l r = tB x := by
          unfold jr
          rw [if_pos (Or.inl (by rw [e1, z]))]
        have e5 : oP x (some a) d1 = some x := if_pos z
        rw [e4, e5]
        refine ⟨fun y hy => ?_, fun hy => absurd hy (by simp)⟩
        injection hy with hy
        exact ⟨by rw [hy], e3.trans e2⟩
      · have ne : tB a ≠ tB x := fun y => z (by
          cases a <;> cases x <;> first | rfl | exact absurd y (by decide))
        have ev : jv x lv l = nI 1 := by
          unfold jv
          rw [if_pos ⟨hl.1, by rw [e1]; exact ne⟩]
        obtain ⟨q1, q2⟩ := h2.2.2.1 ⟨ev, e2⟩
        have e5 : oP x (some a) d1 = d1 := if_neg z
        rw [e5]
        refine ⟨fun y hy => ?_, q2⟩
        obtain ⟨f1, f2⟩ := q1 y hy
        refine ⟨?_, f2⟩
        unfold jr
        rw [e1, f1]
        by_cases w : y = x
        · rw [if_pos (Or.inr (by rw [w])), w]
        · have ne2 : tB y ≠ tB x := fun s => w (by
            cases y <;> cases x <;> first | rfl | exact absurd s (by decide))
          rw [if_neg (fun s => s.elim ne ne2)]
          cases y <;> cases x <;> first | rfl | exact absurd rfl w
  · have e1 := h1.2.2.2 hl
    have e2 := h2.2.2.2 (fun z => hl ⟨by
      have := z.1
      unfold jv at this
      by_cases y : lv = nI 1
      · exact y
      · rw [if_neg (fun w => y w.1)] at this
        exact absurd this n01, e1.symm.trans z.2⟩)
    exact e2.trans e1
section
variable {g : zS} {M : Nat → Nat → Int32} {v e : Nat → Int32} {n B T : Nat} {D V : Nat → Nat} {o : Bool} {kH : Nat → Int32 → zH → Option (Int32 × zH)}
def TE (g : zS) (M : Nat → Nat → Int32) (v : Nat → Int32) (B : Nat) (F : Int32 → zH → Option (Int32 × zH)) (i j : Nat) (d : Option Bool) : Prop := ∀ lv b ml, (lv = nI 0 ∨ lv = nI 1) → (b = nI 0 ∨ b = nI 1) → ∃ r b', F lv (g, zrw (Mg M (nI (B + i)) b) 424 v, ml) = some (r, (g, zrw (Mg M (nI (B + j)) b') 424 v, ml)) ∧ RsT lv b b' r d
def VT (g : zS) (M : Nat → Nat → Int32) (v e : Nat → Int32) (B T : Nat) (sub : Nat → Nat → RT) (F : Int32 → zH → Option (Int32 × zH)) : Prop := ∀ i p j p' k c d, i ≤ T → p ≤ 50 → sub i p = .ok (j, p', k, c, d) → TE g M v B F i j (d e)
theorem e_nots (hs : Sy g) (h : EV M v B T D V) {lv b : Int32} {ml : Nat → Nat → Int64} : ∀ (f i ff : Nat) (l : Bool), i ≤ T → T < i + f → T < i + ff → zlp3 (fb_X12_plainOf_2 n kH) ff 422 lv (tB l) (g, zrw (Mg M (nI (B + i)) b) 424 v, ml) = fb_X12_plainOf_24 n kH 422 lv (tB (pNots D f i l).2) (g, zrw (Mg M (nI (B + (pNots D f i l).1)) b) 424 v, ml)
  | 0, i, ff, l, h1, h2, _ => absurd h2 (by omega)
  | f + 1, i, 0, l, h1, _, h2 => absurd h2 (by omega)
  | f + 1, i, ff + 1, l, hi, hf, hff => by
    have hB := h.1.2
    show fb_X12_plainOf_2 n kH (zlp3 (fb_X12_plainOf_2 n kH) ff) 422 lv (tB l) _ = _
    unfold pNots
    by_cases q : D i = 6
    · have hi' : i < T := by
        rcases Nat.lt_or_eq_of_le hi with z | z
        · exact z
        · rw [z, h.2.2.1] at q; omega
      have ih := e_nots hs h (lv := lv) (b := b) (ml := ml) f (i + 1) ff (!l) (by omega) (by omega) (by omega)
      simp only [q, if_T]
      rw [← ih]
      generalize zlp3 (fb_X12_plainOf_2 n kH) ff = kk
      unfold fb_X12_plainOf_2 fb_X12_plainOf_20
      simp only [lit]
      simp (disch := omega) only [↓S_ck422 hs, e_pass hs h hi, q, if_T, zb_s, ↓iEq0]
      cases l <;> rfl
    · simp only [q, if_F]
      generalize zlp3 (fb_X12_plainOf_2 n kH) ff = kk
      generalize hE : fb_X12_plainOf_24 n kH 422 lv (tB l) (g, zrw (Mg M (nI (B + i)) b) 424 v, ml) = E
      unfold fb_X12_plainOf_2
      simp only [lit]
      simp (disch := omega) only [↓S_ck422 hs, e_pass hs h hi, q, if_F, if_T, zb_s, hE]
theorem e_pln (hs : Sy g) (h : EV M v B T D V) (hn : 3000 < n) {sub : Nat → Nat → RT} {sum : Nat → Nat → RS} (okt : OkT T sub) (ok : OkS T sum) (hv : VT g M v e B T sub (kH 422)) (hw : VS g M v e B T sum (f_X12_sumOf n 12 422)) : VT g M v e B T (pPln D sub sum) (f_X12_plainOf n kH 422) := by
  intro i p j p' k c d hi hp hh lv b ml hl hb
  have hB := h.1.2
  obtain ⟨n1, n2, n3⟩ := ok_nots h.2.2.1 401 i false hi
  have hN := e_nots (kH := kH) (n := n) hs h (lv := lv) (b := b) (ml := ml) 401 i n false hi (by omega) (by omega)
  have hF : f_X12_plainOf n kH 422 lv (g, zrw (Mg M (nI (B + i)) b) 424 v, ml) = fb_X12_plainOf_24 n kH 422 lv (tB (pNots D 401 i false).2) (g, zrw (Mg M (nI (B + (pNots D 401 i false).1)) b) 424 v, ml) := hN
  rw [hF]
  unfold pPln at hh
  generalize (pNots D 401 i false).1 = i1 at hh n1 n2
  generalize (pNots D 401 i false).2 = bt at hh
  have hD1 := h.2.2.2 i1
  have fin : ∀ j1 p1 k1 c1 d1 r b', f_X12_positiveOf n kH 422 lv (g, zrw (Mg M (nI (B + i1)) b) 424 v, ml) = some (r, (g, zrw (Mg M (nI (B + j1)) b') 424 v, ml)) → RsT lv b b' r (d1 e) → pFin bt j1 p1 k1 c1 d1 = .ok (j, p', k, c, d) → ∃ r b', fb_X12_plainOf_24 n kH 422 lv (tB bt) (g, zrw (Mg M (nI (B + i1)) b) 424 v, ml) = some (r, (g, zrw (Mg M (nI (B + j)) b') 424 v, ml)) ∧ RsT lv b b' r (d e) := by
    intro j1 p1 k1 c1 d1 r b' f1 f2 f3
    have u : fb_X12_plainOf_24 n kH 422 lv (tB bt) (g, zrw (Mg M (nI (B + i1)) b) 424 v, ml) = some (if r = tB bt then nI 0 else nI 1, (g, zrw (Mg M (nI (B + j1)) b') 424 v, ml)) := by
      unfold fb_X12_plainOf_24
      rw [S_ck422 hs, f1, zb_s]
      by_cases z : r = tB bt
      · rw [if_pos z, if_pos z]; rfl
      · rw [if_neg z, if_neg z]; rfl
    rw [u]
    unfold pFin at f3
    cases bt with
    | true =>
      rw [if_pos rfl] at f3
      injection f3 with f3
      obtain ⟨e1, e2, e3, e4, e5⟩ := f3
      refine ⟨_, b', rfl, f2.1, ?_, fun hl => ⟨fun x hx => ?_, fun hx => ?_⟩, f2.2.2.2⟩
      · split
        · exact Or.inl rfl
        · exact Or.inr rfl
      · have hx : Option.map (fun x => !x) (d1 e) = some x := hx
        cases hd : d1 e with
        | none => rw [hd] at hx; exact absurd hx (by simp)
        | some y =>
          rw [hd] at hx
          have hx' : (!y) = x := by simpa using hx
          obtain ⟨g1, g2⟩ := (f2.2.2.1 hl).1 y hd
          refine ⟨?_, g2⟩
          rw [g1, ← hx']
          cases y <;> decide
      · have hx : Option.map (fun x => !x) (d1 e) = none := hx
        cases hd : d1 e with
        | none => exact (f2.2.2.1 hl).2 hd
        | some y => rw [hd] at hx; exact absurd hx (by simp)
    | false =>
      rw [if_neg (by decide)] at f3
      injection f3 with f3
      obtain ⟨e1, e2, e3, e4, e5⟩ := f3
      have e6 : (if r = tB false then nI 0 else nI 1) = r := by
        rcases f2.2.1 with y | y <;> rw [y] <;> decide
      rw [e6]
      exact ⟨r, b', rfl, f2⟩
  unfold pPos at hh
  by_cases q1 : D i1 = 140
  · rw [if_pos q1] at hh
    have hi' : i1 < T := by
      rcases Nat.lt_or_eq_of_le n2 with z | z
      · exact z
      · rw [z, h.2.2.1] at q1; exact absurd q1 (by decide)
    cases hc : sub (i1 + 1) p with
    | error q => rw [hc] at hh; exact absurd hh (by simp)
    | ok x =>
      obtain ⟨j1, p1, k1, c1, d1⟩ := x
      rw [hc] at hh
      obtain ⟨a1, a2, a3, a4, a5, a6, a7⟩ := okt _ _ _ _ _ _ _ (by omega) hp hc
      dsimp only at hh
      by_cases q2 : D j1 = 141
      · rw [if_pos q2] at hh
        obtain ⟨r, b', f1, f2⟩ := hv _ _ _ _ _ _ _ (by omega) hp hc lv b ml hl hb
        refine fin _ _ _ _ _ r b' ?_ f2 hh
        unfold f_X12_positiveOf f_X12_sign
        simp only [lit]
        simp (disch := omega) only [zb_s, nI_add, ↓S_ck422 hs, e_pass hs h n2, q1, if_T]
        simp (disch := omega) only [zb_s, ↓iEq0, ↓S_ck422 hs, f1, ↓g_go hs, ↓g_pgo hs, nI_add, Nat.add_assoc]
        exact q_rZ f2.2.1
      · rw [if_neg q2] at hh; exact absurd hh (by simp)
  · rw [if_neg q1] at hh
    cases hc : sum i1 p with
    | error q => rw [hc] at hh; exact absurd hh (by simp)
    | ok x =>
      obtain ⟨j1, p1, c1, d1⟩ := x
      rw [hc] at hh
      obtain ⟨a1, a2, a3, a4, a5, a6⟩ := ok _ _ _ _ _ _ n2 hp hc
      have hDj := h.2.2.2 j1
      dsimp only at hh
      by_cases q2 : D j1 = 160 ∨ D j1 = 162 ∨ D j1 = 161
      · rw [if_pos q2] at hh
        have hj : j1 < T := by
          rcases Nat.lt_or_eq_of_le a2 with z | z
          · exact z
          · rw [z, h.2.2.1] at q2; omega
        cases hc2 : sum (j1 + 1) p1 with
        | error q => rw [hc2] at hh; exact absurd hh (by simp)
        | ok x =>
          obtain ⟨j2, p2, c2, d2⟩ := x
          rw [hc2] at hh
          obtain ⟨r1, b1, f1, f2⟩ := hw _ _ _ _ _ _ n2 hp hc lv b ml hl hb
          obtain ⟨r2, b2, f3, f4⟩ := hw _ _ _ _ _ _ (by omega) a4 hc2 lv b1 ml hl f2.1
          have P : f_X12_positiveOf n kH 422 lv (g, zrw (Mg M (nI (B + i1)) b) 424 v, ml) = some (if lv = nI 0 then nI 0 else if b2 = nI 0 then tB (cpr (D j1 - 100) r1 r2) else nI 0, (g, zrw (Mg M (nI (B + j2)) b2) 424 v, ml)) := by
            unfold f_X12_positiveOf f_X12_sign
            simp only [lit]
            simp (disch := omega) only [zb_s, nI_add, ↓S_ck422 hs, e_pass hs h n2, q1, if_F]
            simp (disch := omega) only [zb_s, if_T, ↓S_ck422 hs, f1, ↓g_go hs, e_code hs h a2, ↓g_pgo hs, nI_add, Nat.add_assoc, f3, ↓g_br hs]
            rcases hl with y | y <;> subst y
            · simp only [if_T]
            · rcases f4.1 with y | y <;> subst y
              · have w1 : cpr (160 - 100) r1 r2 = decide (lg_cmp r1 r2 < 0) := if_pos rfl
                have w2 : cpr (162 - 100) r1 r2 = decide (0 < lg_cmp r1 r2) := by unfold cpr; rw [if_neg (by decide), if_pos (by decide)]
                have w3 : cpr (161 - 100) r1 r2 = decide (lg_cmp r1 r2 = 0) := by unfold cpr; rw [if_neg (by decide), if_neg (by decide)]
                rcases q2 with y | y | y
                · simp (disch := omega) only [y, nEq, if_neg, if_T, w1]
                  rcases cmp_c r1 r2 with z | z | z <;> rw [z] <;> rfl
                · simp (disch := omega) only [y, nEq, if_neg, if_T, w2]
                  rcases cmp_c r1 r2 with z | z | z <;> rw [z] <;> rfl
                · simp (disch := omega) only [y, nEq, if_neg, if_T, w3]
                  rcases cmp_c r1 r2 with z | z | z <;> rw [z] <;> rfl
              · simp (disch := omega) only [nEq, if_neg]
          refine fin _ _ _ _ _ _ b2 P ?_ hh
          refine ⟨f4.1, ?_, fun hl2 => ?_, fun hl2 => ?_⟩
          · split
            · exact Or.inl rfl
            · split
              · exact tB_01 _
              · exact Or.inl rfl
          · unfold cmpD
            obtain ⟨s1, s2⟩ := f2.2.1 hl2
            cases hd1 : d1 e with
            | none =>
              have e1 := s2 hd1
              have e2 := f4.2.2 (fun z => n01 (z.2.symm.trans e1))
              exact ⟨fun x hx => absurd hx (by simp), fun _ => e2.trans e1⟩
            | some x1 =>
              obtain ⟨e1, e2⟩ := s1 x1 hd1
              obtain ⟨t1, t2⟩ := f4.2.1 ⟨hl2.1, e2⟩
              cases hd2 : d2 e with
              | none => exact ⟨fun x hx => absurd hx (by simp), fun _ => t2 hd2⟩
              | some x2 =>
                obtain ⟨e3, e4⟩ := t1 x2 hd2
                refine ⟨fun x hx => ?_, fun hx => absurd hx (by simp)⟩
                injection hx with hx
                refine ⟨?_, e4⟩
                rw [if_neg (fun z => n01 (z.symm.trans hl2.1)), if_pos e4, e1, e3, hx]
          · have e1 := f2.2.2 hl2
            exact (f4.2.2 (fun z => hl2 ⟨z.1, e1.symm.trans z.2⟩)).trans e1
      · rw [if_neg q2] at hh; exact absurd hh (by simp)
end
