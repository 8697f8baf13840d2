/-! the Java side reads plain tests -/
def CTo (g : zS) (M : Nat → Nat → Int32) (P : Nat → Nat) (F : zH → Option (Int32 × zH)) (i p : Nat) (res : RT) : Prop := ∀ (L : Nat) (fl cc : Int32) (S A E : Nat → Int32) (ml : Nat → Nat → Int64), L ≤ i → (∀ j p' k c d, res = .ok (j, p', k, c, d) → ∃ S' A', F (g, Ps M (nI i) (nI p) fl (nI L) cc S A E, ml) = some (nI 1, (g, Ps M (nI j) (nI p') fl (nI (L + k)) cc S' A' E, ml)) ∧ Wr S A S' A' L (c L)) ∧ ∀ q, res = .error q → ∃ tk pt ln S' A', F (g, Ps M (nI i) (nI p) fl (nI L) cc S A E, ml) = some (nI 0, (g, Ps M tk pt (nI (P q)) ln cc S' A' E, ml))
def CTs (g : zS) (M : Nat → Nat → Int32) (T : Nat) (P : Nat → Nat) (sub : Nat → Nat → RT) (F : zH → Option (Int32 × zH)) : Prop := ∀ i p, i ≤ T → p ≤ 50 → CTo g M P F i p (sub i p)
section
variable {g : zS} {M : Nat → Nat → Int32} {n T : Nat} {D V P : Nat → Nat} {o : Bool} {kH : Nat → Int32 → zH → Option (Int32 × zH)}
theorem k_259 (h : TC o M T D V P) {i : Nat} (hi : i ≤ T) : (kk o T D i = 259) = (D i = 6) := kk_e h hi (by cases o <;> decide +kernel) (by decide) (by decide)
theorem k_258 (h : TC o M T D V P) {i : Nat} (hi : i ≤ T) : (kk o T D i = 258) = (D i = 5) := kk_e h hi (by cases o <;> decide +kernel) (by decide) (by decide)
theorem k_257 (h : TC o M T D V P) {i : Nat} (hi : i ≤ T) : (kk o T D i = 257) = (D i = 4) := kk_e h hi (by cases o <;> decide +kernel) (by decide) (by decide)
theorem k_256 (h : TC o M T D V P) {i : Nat} (hi : i ≤ T) : (kk o T D i = 256) = (D i = 3) := kk_e h hi (by cases o <;> decide +kernel) (by decide) (by decide)
theorem k_40 (h : TC o M T D V P) {i : Nat} (hi : i ≤ T) : (kk o T D i = 40) = (D i = 140) := kk_e h hi (by cases o <;> decide +kernel) (by decide) (by decide)
theorem k_41 (h : TC o M T D V P) {i : Nat} (hi : i ≤ T) : (kk o T D i = 41) = (D i = 141) := kk_e h hi (by cases o <;> decide +kernel) (by decide) (by decide)
theorem k_60 (h : TC o M T D V P) {i : Nat} (hi : i ≤ T) : (kk o T D i = 60) = (D i = 160) := kk_e h hi (by cases o <;> decide +kernel) (by decide) (by decide)
theorem k_61 (h : TC o M T D V P) {i : Nat} (hi : i ≤ T) : (kk o T D i = 61) = (D i = 161) := kk_e h hi (by cases o <;> decide +kernel) (by decide) (by decide)
theorem k_62 (h : TC o M T D V P) {i : Nat} (hi : i ≤ T) : (kk o T D i = 62) = (D i = 162) := kk_e h hi (by cases o <;> decide +kernel) (by decide) (by decide)
theorem c_nots (hs : Sy g) (h : TC o M T D V P) {dp pt fl ln cc : Int32} {S A E : Nat → Int32} {ml : Nat → Nat → Int64} : ∀ (f i ff ct : Nat) (b : Bool), i ≤ T → T < i + f → T < i + ff → ct ≤ i → zlp4 (fb_X5_plain_4 n kH) ff 410 dp (tB b) (nI ct) (g, Ps M (nI i) pt fl ln cc S A E, ml) = fb_X5_plain_37 n kH 410 dp (tB (pNots D f i b).2) (g, Ps M (nI (pNots D f i b).1) pt fl ln cc S A E, ml)
  | 0, i, ff, ct, b, h1, h2, _, _ => absurd h2 (by omega)
  | f + 1, i, 0, ct, b, h1, _, h2, _ => absurd h2 (by omega)
  | f + 1, i, ff + 1, ct, b, hi, hf, hff, hct => by
    have hT := h.2.1
    show fb_X5_plain_4 n kH (zlp4 (fb_X5_plain_4 n kH) ff) 410 dp (tB b) (nI ct) _ = _
    unfold pNots
    by_cases q : D i = 6
    · have hi' : i < T := by
        rcases Nat.lt_or_eq_of_le hi with z | z
        · exact z
        · rw [z, h.2.2.1] at q; omega
      have ih := c_nots hs h (dp := dp) (pt := pt) (fl := fl) (ln := ln) (cc := cc) (S := S) (A := A) (E := E) (ml := ml) f (i + 1) ff (ct + 1) (!b) (by omega) (by omega) (by omega) (by omega)
      simp only [q, if_T]
      rw [← ih]
      generalize zlp4 (fb_X5_plain_4 n kH) ff = kx
      have k259 : kk o T D i = 259 := by rw [k_259 h hi]; exact q
      unfold fb_X5_plain_4 fb_X5_plain_30
      simp only [lit]
      simp (disch := omega) only [nLe, if_neg, ↓S_ck410 hs, p_take hs h hi, k259, if_T, zb_s, nEq, nI_add]
      cases b <;> rfl
    · simp only [q, if_F]
      generalize zlp4 (fb_X5_plain_4 n kH) ff = kx
      generalize hE : fb_X5_plain_37 n kH 410 dp (tB b) (g, Ps M (nI i) pt fl ln cc S A E, ml) = E'
      have k259 : ¬ kk o T D i = 259 := by rw [k_259 h hi]; exact q
      unfold fb_X5_plain_4
      simp only [lit]
      by_cases z : 400 ≤ ct
      · simp (disch := omega) only [nLe, if_pos, hE]
      · simp (disch := omega) only [nLe, if_neg, ↓S_ck410 hs, p_take hs h hi, k259, if_F, if_T, zb_s, hE]
theorem c_pln (hs : Sy g) (h : TC o M T D V P) (hn : 3000 < n) {sub : Nat → Nat → RT} {sum : Nat → Nat → RS} (okt : OkT T sub) (ok : OkS T sum) {dp r : Nat} (hd : dp + r = 8) (h0 : r = 0 → ∀ i p, sub i p = .error (i - 1)) (hk : 0 < r → CTs g M T P sub (kH 410 (nI (dp + 1)))) (hr : CPs g M T P sum (f_X5_sum n 12 410 (nI dp))) : CTs g M T P (pPln D sub sum) (f_X5_plain n kH 410 (nI dp)) := by
  intro i p hi hp L fl cc S A E ml hL
  have hT := h.2.1
  obtain ⟨n1, n2, n3⟩ := ok_nots h.2.2.1 401 i false hi
  have hN := c_nots (kH := kH) (n := n) hs h (dp := nI dp) (pt := nI p) (fl := fl) (ln := nI L) (cc := cc) (S := S) (A := A) (E := E) (ml := ml) 401 i n 0 false hi (by omega) (by omega) (by omega)
  have hF : f_X5_plain n kH 410 (nI dp) (g, Ps M (nI i) (nI p) fl (nI L) cc S A E, ml) = fb_X5_plain_37 n kH 410 (nI dp) (tB (pNots D 401 i false).2) (g, Ps M (nI (pNots D 401 i false).1) (nI p) fl (nI L) cc S A E, ml) := hN
  rw [hF]
  unfold pPln
  generalize (pNots D 401 i false).1 = i1 at n1 n2 n3
  generalize (pNots D 401 i false).2 = bt at n3
  have hkb := kk_b h i1
  generalize hX : fb_X5_plain_37 n kH 410 (nI dp) (tB bt) (g, Ps M (nI i1) (nI p) fl (nI L) cc S A E, ml) = X
  have finE : ∀ tk pt ln S' A' q', X = some (nI 0, (g, Ps M tk pt (nI (P q')) ln cc S' A' E, ml)) → (∀ j p' k c d, (.error q' : RT) = .ok (j, p', k, c, d) → ∃ S' A', X = some (nI 1, (g, Ps M (nI j) (nI p') fl (nI (L + k)) cc S' A' E, ml)) ∧ Wr S A S' A' L (c L)) ∧ ∀ q, (.error q' : RT) = .error q → ∃ tk pt ln S' A', X = some (nI 0, (g, Ps M tk pt (nI (P q)) ln cc S' A' E, ml)) := by
    intro tk pt ln S' A' q' e1
    refine ⟨fun j p' k c d he => absurd he (by simp), fun q he => ?_⟩
    injection he with he
    subst he
    exact ⟨tk, pt, ln, S', A', e1⟩
  have fin : ∀ j1 p1 k1 (c1 : Nat → List (Nat × Nat)) d1 S1 A1, X = fb_X5_plain_161 n kH 410 (tB bt) (g, Ps M (nI j1) (nI p1) fl (nI (L + k1)) cc S1 A1 E, ml) → Wr S A S1 A1 L (c1 L) → (c1 L).length = k1 → i1 + k1 ≤ j1 → j1 ≤ T → (∀ j p' k c d, pFin bt j1 p1 k1 c1 d1 = .ok (j, p', k, c, d) → ∃ S' A', X = some (nI 1, (g, Ps M (nI j) (nI p') fl (nI (L + k)) cc S' A' E, ml)) ∧ Wr S A S' A' L (c L)) ∧ ∀ q, pFin bt j1 p1 k1 c1 d1 = .error q → ∃ tk pt ln S' A', X = some (nI 0, (g, Ps M tk pt (nI (P q)) ln cc S' A' E, ml)) := by
    intro j1 p1 k1 c1 d1 S1 A1 e1 e2 e3 e4 e5
    unfold pFin
    cases bt with
    | true =>
      have n3' : i < i1 := by
        rcases n3 with z | z
        · exact absurd z (by decide)
        · exact z
      rw [if_pos rfl]
      refine ⟨fun j p' k c d he => ?_, fun q he => absurd he (by simp)⟩
      injection he with he
      obtain ⟨f1, f2, f3, f4, f5⟩ := he
      refine ⟨upd S1 (L + k1) (nI 2), upd A1 (L + k1) (nI 0), ?_, ?_⟩
      · rw [e1]
        unfold fb_X5_plain_161
        simp only [lit]
        simp (disch := omega) only [tb1, nEq, if_neg, ↓S_gR410_0 hs, ↓S_ck411 hs, p_add hs, zb_s]
        rfl
      · have w : Wr S1 A1 (upd S1 (L + k1) (nI 2)) (upd A1 (L + k1) (nI 0)) (L + (c1 L).length) [(2, 0)] := by
          rw [e3]; exact Wr_1
        exact Wr_a e2 w
    | false =>
      rw [if_neg (by decide)]
      refine ⟨fun j p' k c d he => ?_, fun q he => absurd he (by simp)⟩
      injection he with he
      obtain ⟨f1, f2, f3, f4, f5⟩ := he
      refine ⟨S1, A1, ?_, e2⟩
      rw [e1]
      exact if_pos rfl
  unfold pPos
  by_cases q1 : D i1 = 140
  · rw [if_pos q1]
    have hi' : i1 < T := by
      rcases Nat.lt_or_eq_of_le n2 with z | z
      · exact z
      · rw [z, h.2.2.1] at q1; exact absurd q1 (by decide)
    have k40 : kk o T D i1 = 40 := by rw [k_40 h n2]; exact q1
    by_cases z : dp = 8
    · rw [h0 (by omega)]
      have e : i1 + 1 - 1 = i1 := by omega
      rw [e]
      refine finE (nI i1) (nI p) (nI L) S A i1 ?_
      rw [← hX]
      unfold fb_X5_plain_37
      simp only [lit]
      simp (disch := omega) only [↓S_ck410 hs, p_pres hs h n2, zb_s, k40, if_T, z, nLt, if_neg, p_fail hs h n2, zrZ0]
    · have U : ∀ Y, (zb (kH 410 (nI (dp + 1)) (g, Ps M (nI (i1 + 1)) (nI p) fl (nI L) cc S A E, ml)) fun r11 h12 => if r11 = nI 0 then some (nI 0, h12) else zck h12 6 410 (zb (f_X5_takes n 410 (nI 41) h12) fun r13 h14 => if r13 = nI 0 then zck h14 6 410 (zb (f_X5_fails n 410 h14) fun r15 h16 => zrZ r15 h16) else fb_X5_plain_161 n kH 410 (tB bt) h14)) = Y → X = Y := by
        intro Y hY
        rw [← hX, ← hY]
        unfold fb_X5_plain_37
        simp only [lit]
        simp (disch := omega) only [↓S_ck410 hs, p_pres hs h n2, zb_s, k40, if_T, nLt, if_pos, ↓p_gtk hs, ↓p_ptk hs, nI_add]
        rfl
      obtain ⟨k1, k2⟩ := hk (by omega) (i1 + 1) p (by omega) hp L fl cc S A E ml (by omega)
      cases hc : sub (i1 + 1) p with
      | error q' =>
        obtain ⟨tk, pt, ln, S', A', s1⟩ := k2 q' hc
        refine finE tk pt ln S' A' q' (U _ ?_)
        rw [s1, zb_s, iEq1 rfl]
      | ok x =>
        obtain ⟨j1, p1, k0, c1, d1⟩ := x
        obtain ⟨a1, a2, a3, a4, a5, a6, a7⟩ := okt _ _ _ _ _ _ _ (by omega) hp hc
        obtain ⟨S', A', s1, s2⟩ := k1 _ _ _ _ _ hc
        dsimp only
        by_cases q2 : D j1 = 141
        · rw [if_pos q2]
          have hj : j1 < T := by
            rcases Nat.lt_or_eq_of_le a2 with z | z
            · exact z
            · rw [z, h.2.2.1] at q2; omega
          refine fin _ _ _ _ _ S' A' (U _ ?_) s2 (a7 L) (by omega) (by omega)
          have k41 : kk o T D j1 = 41 := by rw [k_41 h a2]; exact q2
          simp (disch := omega) only [s1, zb_s, nEq, if_neg, ↓S_ck410 hs, p_take hs h a2, k41, if_T]
        · rw [if_neg q2]
          refine finE (nI j1) (nI p1) (nI (L + k0)) S' A' j1 (U _ ?_)
          have k41 : ¬ kk o T D j1 = 41 := by rw [k_41 h a2]; exact q2
          simp (disch := omega) only [s1, zb_s, nEq, if_neg, ↓S_ck410 hs, p_take hs h a2, k41, if_F, if_T, p_fail hs h a2, zrZ0]
  · rw [if_neg q1]
    have k40 : ¬ kk o T D i1 = 40 := by rw [k_40 h n2]; exact q1
    have U : ∀ Y, (zb (f_X5_sum n 12 410 (nI dp) (g, Ps M (nI i1) (nI p) fl (nI L) cc S A E, ml)) fun r3 h4 => if r3 = nI 0 then some (nI 0, h4) else zck h4 6 410 (zb (f_X5_present n 410 h4) fun r5 h6 => if r5 = nI 60 then fb_X5_plain_131 n kH 410 (nI dp) (tB bt) r5 h6 else if r5 = nI 62 then fb_X5_plain_131 n kH 410 (nI dp) (tB bt) r5 h6 else if r5 = nI 61 then fb_X5_plain_131 n kH 410 (nI dp) (tB bt) r5 h6 else zck h6 6 410 (zb (f_X5_fails n 410 h6) fun r7 h8 => zrZ r7 h8))) = Y → X = Y := by
      intro Y hY
      rw [← hX, ← hY]
      unfold fb_X5_plain_37
      simp only [lit]
      simp (disch := omega) only [↓S_ck410 hs, p_pres hs h n2, zb_s, nEq, k40, if_F]
      rfl
    obtain ⟨k1, k2⟩ := hr i1 p n2 hp L fl cc S A E ml (by omega)
    cases hc : sum i1 p with
    | error q' =>
      obtain ⟨tk, pt, ln, S', A', s1⟩ := k2 q' hc
      refine finE tk pt ln S' A' q' (U _ ?_)
      rw [s1, zb_s, iEq1 rfl]
    | ok x =>
      obtain ⟨j1, p1, c1, d1⟩ := x
      obtain ⟨a1, a2, a3, a4, a5, a6⟩ := ok _ _ _ _ _ _ n2 hp hc
      obtain ⟨S1, A1, s1, s2⟩ := k1 _ _ _ _ hc
      have hDj := h.2.2.2 j1
      have hkj := kk_b h j1
      dsimp only
      by_cases q2 : D j1 = 160 ∨ D j1 = 162 ∨ D j1 = 161
      · rw [if_pos q2]
        have hj : j1 < T := by
          rcases Nat.lt_or_eq_of_le a2 with z | z
          · exact z
          · rw [z, h.2.2.1] at q2; omega
        have kq : kk o T D j1 = D j1 - 100 := by
          rcases q2 with y | y | y
          · rw [y, k_60 h a2]; exact y
          · rw [y, k_62 h a2]; exact y
          · rw [y, k_61 h a2]; exact y
        have U2 : X = fb_X5_plain_131 n kH 410 (nI dp) (tB bt) (nI (D j1 - 100)) (g, Ps M (nI j1) (nI p1) fl (nI (L + c1.length)) cc S1 A1 E, ml) := by
          refine U _ ?_
          generalize hG : fb_X5_plain_131 n kH 410 (nI dp) (tB bt) (nI (D j1 - 100)) (g, Ps M (nI j1) (nI p1) fl (nI (L + c1.length)) cc S1 A1 E, ml) = G
          simp (disch := omega) only [s1, zb_s, nEq, if_neg, ↓S_ck410 hs, p_pres hs h a2, kq]
          rw [hG]
          rcases q2 with y | y | y
          · simp (disch := omega) only [y, if_pos, if_neg, if_T]
          · simp (disch := omega) only [y, if_pos, if_neg, if_T]
          · simp (disch := omega) only [y, if_pos, if_neg, if_T]
        obtain ⟨m1, m2⟩ := hr (j1 + 1) p1 (by omega) a4 (L + c1.length) fl cc S1 A1 E ml (by omega)
        cases hc2 : sum (j1 + 1) p1 with
        | error q' =>
          obtain ⟨tk, pt, ln, S', A', s3⟩ := m2 q' hc2
          refine finE tk pt ln S' A' q' (U2.trans ?_)
          unfold fb_X5_plain_131
          simp only [lit]
          simp (disch := omega) only [↓p_gtk hs, ↓p_ptk hs, nI_add, ↓S_ck410 hs, s3, zb_s, if_T]
        | ok x =>
          obtain ⟨j2, p2, c2, d2⟩ := x
          obtain ⟨b1, b2, b3, b4, b5, b6⟩ := ok _ _ _ _ _ _ (by omega) a4 hc2
          obtain ⟨S2, A2, s3, s4⟩ := m1 _ _ _ _ hc2
          have w1 := Wr_a s2 s4
          have e : L + c1.length + c2.length = L + (c1 ++ c2).length := by simp; omega
          have w2 : Wr S A (upd S2 (L + c1.length + c2.length) (nI (D j1 - 100))) (upd A2 (L + c1.length + c2.length) (nI 0)) L (c1 ++ c2 ++ [(D j1 - 100, 0)]) := by
            rw [e]; exact Wr_a w1 Wr_1
          refine fin j2 p2 (c1.length + c2.length + 1) _ _ _ _ (U2.trans ?_) w2 (by simp; omega) (by omega) b2
          have e3 : L + (c1.length + c2.length + 1) = L + c1.length + c2.length + 1 := by omega
          rw [e3]
          generalize hG : fb_X5_plain_161 n kH 410 (tB bt) = G
          unfold fb_X5_plain_131
          simp only [lit]
          simp (disch := omega) only [↓p_gtk hs, ↓p_ptk hs, nI_add, ↓S_ck410 hs, s3, zb_s, nEq, if_neg, ↓S_gR410_0 hs, ↓S_ck411 hs, p_add hs, hG]
      · rw [if_neg q2]
        refine finE (nI j1) (nI p1) (nI (L + c1.length)) S1 A1 j1 (U _ ?_)
        simp (disch := omega) only [s1, zb_s, nEq, if_neg, ↓S_ck410 hs, p_pres hs h a2, k_60 h a2, k_62 h a2, k_61 h a2, p_fail hs h a2, zrZ0]
end
