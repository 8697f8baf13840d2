/-! the Java side reads parts and sums -/
def Wr (S A S' A' : Nat → Int32) (L : Nat) (c : List (Nat × Nat)) : Prop := (∀ k, k < L → S' k = S k ∧ A' k = A k) ∧ CA S' A' L c
theorem Wr_a {S A S1 A1 S2 A2 : Nat → Int32} {L : Nat} {c c1 : List (Nat × Nat)} (h : Wr S A S1 A1 L c) (h2 : Wr S1 A1 S2 A2 (L + c.length) c1) : Wr S A S2 A2 L (c ++ c1) := by
  refine ⟨fun k hk => ?_, ?_⟩
  · have e1 := h2.1 k (by omega)
    have e2 := h.1 k hk
    exact ⟨e1.1.trans e2.1, e1.2.trans e2.2⟩
  · rw [CA_app]
    exact ⟨CA_cong h.2 (fun k _ h4 => h2.1 k h4), h2.2⟩
theorem Wr_1 {S A : Nat → Int32} {L s a : Nat} : Wr S A (upd S L (nI s)) (upd A L (nI a)) L [(s, a)] := ⟨fun k hk => ⟨upd_ne (by omega), upd_ne (by omega)⟩, ⟨upd_eq, upd_eq⟩, trivial⟩
theorem Wr_0 {S A : Nat → Int32} {L : Nat} : Wr S A S A L [] := ⟨fun _ _ => ⟨rfl, rfl⟩, trivial⟩
def CPo (g : zS) (M : Nat → Nat → Int32) (P : Nat → Nat) (F : zH → Option (Int32 × zH)) (i p : Nat) (res : RS) : Prop := ∀ (L : Nat) (fl cc : Int32) (S A E : Nat → Int32) (ml : Nat → Nat → Int64), L ≤ i → (∀ j p' c d, res = .ok (j, p', c, d) → ∃ S' A', F (g, Ps M (nI i) (nI p) fl (nI L) cc S A E, ml) = some (nI 1, (g, Ps M (nI j) (nI p') fl (nI (L + c.length)) cc S' A' E, ml)) ∧ Wr S A S' A' L c) ∧ ∀ q, res = .error q → ∃ tk pt ln S' A', F (g, Ps M (nI i) (nI p) fl (nI L) cc S A E, ml) = some (nI 0, (g, Ps M tk pt (nI (P q)) ln cc S' A' E, ml))
def CPs (g : zS) (M : Nat → Nat → Int32) (T : Nat) (P : Nat → Nat) (sub : Nat → Nat → RS) (F : zH → Option (Int32 × zH)) : Prop := ∀ i p, i ≤ T → p ≤ 50 → CPo g M P F i p (sub i p)
section
variable {g : zS} {M : Nat → Nat → Int32} {ml : Nat → Nat → Int64} {tk pt fl ln cc y : Int32} {S A E : Nat → Int32} {n T : Nat} {D V P : Nat → Nat} {o : Bool} {kH : Nat → Int32 → zH → Option (Int32 × zH)}
theorem k_91 (h : TC o M T D V P) {i : Nat} (hi : i ≤ T) : (kk o T D i = 91) = (D i = 191) := kk_e h hi (by cases o <;> decide +kernel) (by decide) (by decide)
theorem k_93 (h : TC o M T D V P) {i : Nat} (hi : i ≤ T) : (kk o T D i = 93) = (D i = 193) := kk_e h hi (by cases o <;> decide +kernel) (by decide) (by decide)
theorem k_42 (h : TC o M T D V P) {i : Nat} (hi : i ≤ T) : (kk o T D i = 42) = (D i = 142) := kk_e h hi (by cases o <;> decide +kernel) (by decide) (by decide)
theorem k_47 (h : TC o M T D V P) {i : Nat} (hi : i ≤ T) : (kk o T D i = 47) = (D i = 147) := kk_e h hi (by cases o <;> decide +kernel) (by decide) (by decide)
theorem k_37 (h : TC o M T D V P) {i : Nat} (hi : i ≤ T) : (kk o T D i = 37) = (D i = 137) := kk_e h hi (by cases o <;> decide +kernel) (by decide) (by decide)
theorem k_43 (h : TC o M T D V P) {i : Nat} (hi : i ≤ T) : (kk o T D i = 43) = (D i = 143) := kk_e h hi (by cases o <;> decide +kernel) (by decide) (by decide)
theorem k_45 (h : TC o M T D V P) {i : Nat} (hi : i ≤ T) : (kk o T D i = 45) = (D i = 145) := kk_e h hi (by cases o <;> decide +kernel) (by decide) (by decide)
def kN (s : Nat) : Bool := (List.range 356).all fun d => decide (km false d ≠ s)
theorem k_o (h : TC o M T D V P) {i s c : Nat} (hi : i ≤ T) (h1 : kT true s c = true) (h2 : kN s = true) (h3 : s ≠ 0) (h4 : c ≠ 0) : (kk o T D i = s) = (o = true ∧ D i = c) := by
  cases o
  · have : kk false T D i ≠ s := by
      unfold kk
      split
      · have := List.all_eq_true.mp h2 (D i) (List.mem_range.mpr (h.2.2.2 i))
        exact of_decide_eq_true this
      · exact fun z => h3 z.symm
    exact propext ⟨fun z => absurd z this, fun z => absurd z.1 (by decide)⟩
  · rw [kk_e h hi h1 h3 h4]
    simp
theorem k_264 (h : TC o M T D V P) {i : Nat} (hi : i ≤ T) : (kk o T D i = 264) = (o = true ∧ D i = 18) := k_o h hi (by decide +kernel) (by decide +kernel) (by decide) (by decide)
theorem k_265 (h : TC o M T D V P) {i : Nat} (hi : i ≤ T) : (kk o T D i = 265) = (o = true ∧ D i = 19) := k_o h hi (by decide +kernel) (by decide +kernel) (by decide) (by decide)
theorem p_num (hs : Sy g) (h : TC o M T D V P) {i a c L : Nat} {x : Int32} (hi : i ≤ T) (hc : c ≤ 1000) (ha : a ≤ 1000) (hL : L < 400) : f_X5_number n 410 x (nI a) (nI c) (g, Ps M (nI i) pt fl (nI L) cc S A E, ml) = if D i = 50 ∧ V i ≤ c then some (nI 1, (g, Ps M (nI (i + 1)) pt fl (nI (L + 1)) cc (upd S L x) (upd A L (nI (a + V i))) E, ml)) else some (nI 0, (g, Ps M (nI i) pt (nI (P i)) (nI L) cc S A E, ml)) := by
  unfold f_X5_number
  simp only [lit, ng1]
  simp (disch := omega) only [↓S_ck410 hs, p_nw hs h hi, zb_s, Nat.zero_le, true_and]
  by_cases q : D i = 50 ∧ V i ≤ c
  · simp (disch := omega) only [q, and_self, if_T, nm1, if_F, ↓S_gR410_0 hs, ↓S_ck411 hs, nI_add, p_add hs hL, zb_s, ↓p_gtk hs, ↓p_ptk hs]
  · simp (disch := omega) only [q, if_F, if_T, ↓S_ck410 hs, p_fail hs h hi, zb_s, zrZ0]
theorem c_part (hs : Sy g) (h : TC o M T D V P) {sub : Nat → Nat → RS} (ok : OkS T sub) {dp r : Nat} (hd : dp + r = 8) (h0 : r = 0 → ∀ i p, sub i p = .error (i - 1)) (hk : 0 < r → CPs g M T P sub (kH 410 (nI (dp + 1)))) : CPs g M T P (pPart o D V sub) (f_X5_part n kH 410 (nI dp)) := by
  intro i p hi hp L fl cc S A E ml hL
  have hT := h.2.1
  have hkb := kk_b h i
  have hne : ∀ k, k ≤ T → D k ≠ 0 → k < T := fun k h1 h2 => by
    rcases Nat.lt_or_eq_of_le h1 with q | q
    · exact q
    · exact absurd (by rw [q]; exact h.2.2.1) h2
  have finE : ∀ tk pt ln S' A' q', f_X5_part n kH 410 (nI dp) (g, Ps M (nI i) (nI p) fl (nI L) cc S A E, ml) = some (nI 0, (g, Ps M tk pt (nI (P q')) ln cc S' A' E, ml)) → (∀ j p' c d, (.error q' : RS) = .ok (j, p', c, d) → ∃ S' A', f_X5_part n kH 410 (nI dp) (g, Ps M (nI i) (nI p) fl (nI L) cc S A E, ml) = some (nI 1, (g, Ps M (nI j) (nI p') fl (nI (L + c.length)) cc S' A' E, ml)) ∧ Wr S A S' A' L c) ∧ ∀ q, (.error q' : RS) = .error q → ∃ tk pt ln S' A', f_X5_part n kH 410 (nI dp) (g, Ps M (nI i) (nI p) fl (nI L) cc S A E, ml) = some (nI 0, (g, Ps M tk pt (nI (P q)) ln cc S' A' E, ml)) := by
    intro tk pt ln S' A' q' e1
    refine ⟨fun j p' c d he => absurd he (by simp), fun q he => ?_⟩
    injection he with he
    subst he
    exact ⟨tk, pt, ln, S', A', e1⟩
  have finO : ∀ j1 p1 c1 d1 S' A', f_X5_part n kH 410 (nI dp) (g, Ps M (nI i) (nI p) fl (nI L) cc S A E, ml) = some (nI 1, (g, Ps M (nI j1) (nI p1) fl (nI (L + c1.length)) cc S' A' E, ml)) → Wr S A S' A' L c1 → (∀ j p' c d, (.ok (j1, p1, c1, d1) : RS) = .ok (j, p', c, d) → ∃ S' A', f_X5_part n kH 410 (nI dp) (g, Ps M (nI i) (nI p) fl (nI L) cc S A E, ml) = some (nI 1, (g, Ps M (nI j) (nI p') fl (nI (L + c.length)) cc S' A' E, ml)) ∧ Wr S A S' A' L c) ∧ ∀ q, (.ok (j1, p1, c1, d1) : RS) = .error q → ∃ tk pt ln S' A', f_X5_part n kH 410 (nI dp) (g, Ps M (nI i) (nI p) fl (nI L) cc S A E, ml) = some (nI 0, (g, Ps M tk pt (nI (P q)) ln cc S' A' E, ml)) := by
    intro j1 p1 c1 d1 S' A' e1 e2
    refine ⟨fun j p' c d he => ?_, fun q he => absurd he (by simp)⟩
    injection he with he
    obtain ⟨f1, f2, f3, f4⟩ := he
    exact ⟨S', A', e1, e2⟩
  unfold pPart
  by_cases q1 : D i = 191
  · rw [if_pos q1]
    have hi' := hne i hi (by omega)
    have k91 : kk o T D i = 91 := by rw [k_91 h hi]; exact q1
    by_cases z : dp = 8
    · rw [h0 (by omega)]
      have e : i + 1 - 1 = i := by omega
      rw [e]
      refine finE (nI i) (nI p) (nI L) S A i ?_
      unfold f_X5_part
      simp only [lit]
      simp (disch := omega) only [↓S_ck410 hs, p_pres hs h hi, zb_s, k91, if_T, z, ↓iLt0, p_fail hs h hi, zrZ0, nLt, if_neg]
    · have U : ∀ X, (zb (kH 410 (nI (dp + 1)) (g, Ps M (nI (i + 1)) (nI p) fl (nI L) cc S A E, ml)) fun r15 h16 => if r15 = nI 0 then some (nI 0, h16) else zck h16 6 410 (zb (f_X5_takes n 410 (nI 93) h16) fun r17 h18 => if r17 = nI 0 then zck h18 6 410 (zb (f_X5_fails n 410 h18) fun r19 h20 => if r19 = nI 0 then some (nI 0, h20) else some (nI 1, h20)) else some (nI 1, h18))) = X → f_X5_part n kH 410 (nI dp) (g, Ps M (nI i) (nI p) fl (nI L) cc S A E, ml) = X := by
        intro X hX
        rw [← hX]
        unfold f_X5_part
        simp only [lit]
        simp (disch := omega) only [↓S_ck410 hs, p_pres hs h hi, zb_s, k91, if_T, ↓iLt1, ↓p_gtk hs, ↓p_ptk hs, nI_add, nLt, if_pos]
        rfl
      obtain ⟨k1, k2⟩ := hk (by omega) (i + 1) p (by omega) hp L fl cc S A E ml (by omega)
      cases hc : sub (i + 1) p with
      | error q' =>
        obtain ⟨tk, pt, ln, S', A', s1⟩ := k2 q' hc
        refine finE tk pt ln S' A' q' (U _ ?_)
        rw [s1, zb_s, iEq1 rfl]
      | ok x =>
        obtain ⟨j1, p1, c1, d1⟩ := x
        obtain ⟨a1, a2, a3, a4, a5, a6⟩ := ok _ _ _ _ _ _ (by omega) hp hc
        obtain ⟨S', A', s1, s2⟩ := k1 _ _ _ _ hc
        dsimp only
        by_cases q2 : D j1 = 193
        · rw [if_pos q2]
          refine finO _ _ _ _ S' A' (U _ ?_) s2
          have k93 : kk o T D j1 = 93 := by rw [k_93 h a2]; exact q2
          simp (disch := omega) only [s1, zb_s, nEq, if_neg, ↓S_ck410 hs, p_take hs h a2, k93, if_T]
        · rw [if_neg q2]
          refine finE (nI j1) (nI p1) (nI (L + c1.length)) S' A' j1 (U _ ?_)
          have k93 : ¬ kk o T D j1 = 93 := by rw [k_93 h a2]; exact q2
          simp (disch := omega) only [s1, zb_s, nEq, if_neg, ↓S_ck410 hs, p_take hs h a2, k93, if_F, if_T, p_fail hs h a2]
  · rw [if_neg q1]
    have k91 : ¬ kk o T D i = 91 := by rw [k_91 h hi]; exact q1
    by_cases q2 : 50 ≤ p
    · rw [if_pos q2]
      refine finE (nI i) (nI p) (nI L) S A i ?_
      unfold f_X5_part
      simp only [lit]
      simp (disch := omega) only [↓S_ck410 hs, p_pres hs h hi, zb_s, nEq, k91, if_F, ↓p_gpt hs, nLt, if_neg, p_fail hs h hi, zrZ0]
    · rw [if_neg q2]
      obtain ⟨w1, w2⟩ := kk_w h hi
      by_cases q3 : isWd o (D i) = true
      · rw [if_pos q3]
        have w3 := w2 q3
        have hi' := hne i hi (fun e => by rw [e] at q3; cases o <;> exact absurd q3 (by decide))
        rw [← w1] at q3
        have e4 : nI (kk o T D i) - nI 400 = nI (wi o (D i)) := by
          rw [w3, nI_sub (by omega), Nat.add_sub_cancel_left]
        refine finO _ _ _ _ (upd S L (nI 1)) (upd A L (nI (wi o (D i)))) ?_ Wr_1
        unfold f_X5_part
        simp only [lit]
        simp (disch := omega) only [↓S_ck410 hs, p_pres hs h hi, zb_s, nEq, k91, if_F, ↓p_gpt hs, nLt, nLe, if_neg, if_pos, ↓p_ppt hs, nI_add, ↓S_gR410_0 hs, ↓S_ck411 hs, e4, p_add hs, ↓p_gtk hs, ↓p_ptk hs]
        rfl
      · rw [if_neg q3]
        have U : f_X5_part n kH 410 (nI dp) (g, Ps M (nI i) (nI p) fl (nI L) cc S A E, ml) = fb_X5_part_130 n kH 410 (g, Ps M (nI i) (nI (p + 1)) fl (nI L) cc S A E, ml) := by
          rw [← w1] at q3
          unfold f_X5_part
          generalize hE : fb_X5_part_130 n kH 410 (g, Ps M (nI i) (nI (p + 1)) fl (nI L) cc S A E, ml) = E'
          simp only [lit]
          simp (disch := omega) only [↓S_ck410 hs, p_pres hs h hi, zb_s, nEq, k91, if_F, ↓p_gpt hs, nLt, nLe, if_pos, ↓p_ppt hs, nI_add, hE]
          by_cases z : kk o T D i < 400
          · simp only [z, if_T]
          · have z2 : 500 ≤ kk o T D i := by omega
            simp only [z, z2, if_T, if_F]
        have k264 := k_264 h hi
        have k265 := k_265 h hi
        by_cases q4 : o = true ∧ D i = 18
        · rw [if_pos q4]
          have hi' := hne i hi (by omega)
          have e264 : kk o T D i = 264 := by rw [k264]; exact q4
          have U2 : f_X5_part n kH 410 (nI dp) (g, Ps M (nI i) (nI p) fl (nI L) cc S A E, ml) = if D (i + 1) = 50 ∧ V (i + 1) ≤ 7 then some (nI 1, (g, Ps M (nI (i + 1 + 1)) (nI (p + 1)) fl (nI (L + 1)) cc (upd S L (nI 1)) (upd A L (nI (5 + V (i + 1)))) E, ml)) else some (nI 0, (g, Ps M (nI (i + 1)) (nI (p + 1)) (nI (P (i + 1))) (nI L) cc S A E, ml)) := by
            rw [U]
            unfold fb_X5_part_130
            simp only [lit]
            simp (disch := omega) only [↓S_ck410 hs, p_take hs h hi, e264, if_T, zb_s, nEq, if_neg, p_num hs h]
            by_cases q5 : D (i + 1) = 50 ∧ V (i + 1) ≤ 7
            · simp only [q5, and_self, if_T, zb_s, zrZ1]
            · simp only [q5, if_F, zb_s, zrZ0]
          by_cases q5 : D (i + 1) = 50 ∧ V (i + 1) ≤ 7
          · rw [if_pos q5] at U2 ⊢
            exact finO _ _ _ _ _ _ U2 Wr_1
          · rw [if_neg q5] at U2 ⊢
            exact finE _ _ _ _ _ _ U2
        · rw [if_neg q4]
          have n264 : ¬ kk o T D i = 264 := by rw [k264]; exact q4
          by_cases q6 : o = true ∧ D i = 19
          · rw [if_pos q6]
            have hi' := hne i hi (by omega)
            have e265 : kk o T D i = 265 := by rw [k265]; exact q6
            have U2 : f_X5_part n kH 410 (nI dp) (g, Ps M (nI i) (nI p) fl (nI L) cc S A E, ml) = if D (i + 1) = 50 ∧ V (i + 1) ≤ 99 then some (nI 1, (g, Ps M (nI (i + 1 + 1)) (nI (p + 1)) fl (nI (L + 1)) cc (upd S L (nI 1)) (upd A L (nI (13 + V (i + 1)))) E, ml)) else some (nI 0, (g, Ps M (nI (i + 1)) (nI (p + 1)) (nI (P (i + 1))) (nI L) cc S A E, ml)) := by
              rw [U]
              unfold fb_X5_part_130
              simp only [lit]
              simp (disch := omega) only [↓S_ck410 hs, p_take hs h hi, e265, if_T, zb_s, nEq, if_neg, p_num hs h]
              by_cases q5 : D (i + 1) = 50 ∧ V (i + 1) ≤ 99
              · simp only [q5, and_self, if_T, zb_s, zrZ1]
              · simp only [q5, if_F, zb_s, zrZ0]
            by_cases q5 : D (i + 1) = 50 ∧ V (i + 1) ≤ 99
            · rw [if_pos q5] at U2 ⊢
              exact finO _ _ _ _ _ _ U2 Wr_1
            · rw [if_neg q5] at U2 ⊢
              exact finE _ _ _ _ _ _ U2
          · rw [if_neg q6]
            have n265 : ¬ kk o T D i = 265 := by rw [k265]; exact q6
            by_cases q7 : D i = 50 ∧ V i ≤ 1000
            · rw [if_pos q7]
              have hi' := hne i hi (by omega)
              have e0 : nI (V i) = nI (0 + V i) := by rw [Nat.zero_add]
              refine finO _ _ _ _ (upd S L (nI 0)) (upd A L (nI (V i))) ?_ Wr_1
              rw [U]
              unfold fb_X5_part_130
              simp only [lit]
              simp (disch := omega) only [↓S_ck410 hs, p_take hs h hi, n264, n265, if_F, if_T, zb_s, p_num hs h, q7, and_self, zrZ1, Nat.zero_add]
              rfl
            · rw [if_neg q7]
              by_cases hL4 : L < 400
              · refine finE (nI i) (nI (p + 1)) (nI L) S A i ?_
                rw [U]
                unfold fb_X5_part_130
                simp only [lit]
                simp (disch := omega) only [↓S_ck410 hs, p_take hs h hi, n264, n265, if_F, if_T, zb_s, p_num hs h, q7, zrZ0]
              · refine finE (nI i) (nI (p + 1)) (nI L) S A i ?_
                rw [U]
                unfold fb_X5_part_130 f_X5_number
                simp only [lit, ng1]
                simp (disch := omega) only [↓S_ck410 hs, p_take hs h hi, n264, n265, if_F, if_T, zb_s, p_nw hs h hi, Nat.zero_le, true_and, q7, p_fail hs h hi, zrZ0]
end
