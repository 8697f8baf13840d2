/-! ask, compare -/
section
variable {g : zS} {mi : Nat → Nat → Int32} {v : Nat → Int32} {ml : Nat → Nat → Int64} {n : Nat}
/-- how many are alike -/
def alk (v : Nat → Int32) (U : Nat) (x : Int32) (p : Nat) : Nat := if Nat.testBit U p = true then sm (fun q => b1 (decide (fct v p x = fct v q x) && Nat.testBit U q)) 8 0 0 else 0
theorem alk_b (v : Nat → Int32) (U : Nat) (x : Int32) (p : Nat) : alk v U x p ≤ 8 := by
  unfold alk
  split
  · have := sm_b (f := fun q => b1 (decide (fct v p x = fct v q x) && Nat.testBit U q)) (B := 1) 8 0 0 (fun k => b1_le _)
    omega
  · omega
theorem mxX {a b : Nat} (ha : a < 100) (hb : b < 100) {H : zH} : f_J9_max_7cf53 n (nI a) (nI b) H = some (nI (if a < b then b else a), H) := by
  unfold f_J9_max_7cf53
  by_cases q : a < b
  · rw [iLt1 (by omega) (by omega) q, if_pos q]
  · rw [iLt0 (by omega) (by omega) (by omega), if_neg q]
theorem mxY {a b : Nat} (ha : a < 100) (hb : b < 100) {H : zH} : f_X12_greater n (nI a) (nI b) H = some (nI (if a < b then b else a), H) := by
  unfold f_X12_greater
  by_cases q : a ≤ b
  · rw [iLe1 (by omega) (by omega) q]
    by_cases y : a < b
    · rw [if_pos y]
    · rw [if_neg y, show a = b by omega]
  · rw [iLe0 (by omega) (by omega) (by omega), if_neg (by omega)]
theorem mo_X (hs : Sy g) (hn : 3000 < n) (hR : WR mi 2 v) (hP : PIr v) {U : Nat} (hU : U < 256) (x : Int32) : f_X1_mostAlike n 27 2 x (nI U) (g, mi, ml) = some (nI (mxf (alk v U x) 8 0 0), (g, mi, ml)) := by
  have inn : ∀ (k6 : Nat → Int32 → Int32 → Int32 → Int32 → zH → Option (Int32 × zH)) (mo : Int32) (p : Nat), p < 8 → Nat.testBit U p = true → ∀ (r q f a : Nat), q + r = 8 → r < f → zlp7 (fb_X1_mostAlike_19 n k6) f 2 x (nI U) mo (nI p) (nI a) (nI q) (g, mi, ml) = fb_X1_mostAlike_89 n k6 2 x (nI U) mo (nI p) (nI (sm (fun q => b1 (decide (fct v p x = fct v q x) && Nat.testBit U q)) r q a)) (g, mi, ml) := by
    intro k6 mo p hp hpt r
    induction r with
    | zero =>
      intro q f a h1 h2
      cases f with
      | zero => omega
      | succ f =>
        show fb_X1_mostAlike_19 n k6 (zlp7 (fb_X1_mostAlike_19 n k6) f) 2 x (nI U) mo (nI p) (nI a) (nI q) (g, mi, ml) = _
        generalize zlp7 (fb_X1_mostAlike_19 n k6) f = K
        unfold fb_X1_mostAlike_19
        simp only [li]
        rw [iLe1 (by omega) (by omega) (by omega)]
        rfl
    | succ r ih =>
      intro q f a h1 h2
      cases f with
      | zero => omega
      | succ f =>
        have ih := fun a => ih (q + 1) f a (by omega) (by omega)
        show fb_X1_mostAlike_19 n k6 (zlp7 (fb_X1_mostAlike_19 n k6) f) 2 x (nI U) mo (nI p) (nI a) (nI q) (g, mi, ml) = fb_X1_mostAlike_89 n k6 2 x (nI U) mo (nI p) (nI (sm _ r (q + 1) (a + b1 (decide (fct v p x = fct v q x) && Nat.testBit U q)))) (g, mi, ml)
        generalize zlp7 (fb_X1_mostAlike_19 n k6) f = K at ih
        rw [← ih]
        unfold fb_X1_mostAlike_19 fb_X1_mostAlike_57 fb_X1_mostAlike_79 fb_X1_mostAlike_80
        simp only [li, q_let]
        rw [iLe0 (by omega) (by omega) (by omega), anb_t U hU p hp, iP hpt, iN (sh_ne p hp), c_fact hs hR hP hp, zb_s, c_fact hs hR hP (by omega), zb_s, anb_t U hU q (by omega), nI_add, nI_add, nI_add]
        by_cases z : fct v p x = fct v q x
        · rw [iP z, iN n01.symm, decide_eq_true z]
          cases Nat.testBit U q
          · rw [iN (c := false = true) (by simp), iP rfl]; rfl
          · rw [iP rfl, iN (sh_ne q (by omega))]; rfl
        · rw [iN z, if_T, decide_eq_false z]; rfl
  have out : ∀ (r p f a : Nat), p + r = 8 → r < f → a ≤ 8 → zlp5 (fb_X1_mostAlike_6 n) f 2 x (nI U) (nI a) (nI p) (g, mi, ml) = some (nI (mxf (alk v U x) r p a), (g, mi, ml)) := by
    intro r
    induction r with
    | zero =>
      intro p f a h1 h2 h3
      cases f with
      | zero => omega
      | succ f =>
        show fb_X1_mostAlike_6 n (zlp5 (fb_X1_mostAlike_6 n) f) 2 x (nI U) (nI a) (nI p) (g, mi, ml) = _
        unfold fb_X1_mostAlike_6
        rw [if_pos (show (8 : Int32) ≤ nI p from (nI_leI (a := 8) (by omega) (by omega)).mpr (by omega))]
        rfl
    | succ r ih =>
      intro p f a h1 h2 h3
      cases f with
      | zero => omega
      | succ f =>
        have hb := alk_b v U x p
        have ih := ih (p + 1) f (if a < alk v U x p then alk v U x p else a) (by omega) (by omega) (by split <;> omega)
        show fb_X1_mostAlike_6 n (zlp5 (fb_X1_mostAlike_6 n) f) 2 x (nI U) (nI a) (nI p) (g, mi, ml) = some (nI (mxf _ r (p + 1) (if a < alk v U x p then alk v U x p else a)), (g, mi, ml))
        generalize zlp5 (fb_X1_mostAlike_6 n) f = K at ih
        rw [← ih]
        have e89 : ∀ s, s ≤ 8 → fb_X1_mostAlike_89 n K 2 x (nI U) (nI a) (nI p) (nI s) (g, mi, ml) = K 2 x (nI U) (nI (if a < s then s else a)) (nI (p + 1)) (g, mi, ml) := by
          intro s hs8
          unfold fb_X1_mostAlike_89
          simp only [li]
          rw [mxX (by omega) (by omega), zb_s, nI_add]
        unfold fb_X1_mostAlike_6
        rw [if_neg (show ¬ (8 : Int32) ≤ nI p from fun q => by have := (nI_leI (a := 8) (by omega) (by omega)).mp q; omega)]
        by_cases z : Nat.testBit U p = true
        · refine Eq.trans (inn K (nI a) p (by omega) z 8 0 n 0 rfl (by omega)) ?_
          have e : alk v U x p = sm (fun q => b1 (decide (fct v p x = fct v q x) && Nat.testBit U q)) 8 0 0 := by unfold alk; rw [if_pos z]
          rw [← e, e89 _ hb]
        · obtain ⟨f', rfl⟩ : ∃ f', n = f' + 1 := ⟨n - 1, by omega⟩
          have e : alk v U x p = 0 := by unfold alk; rw [if_neg z]
          show fb_X1_mostAlike_19 (f' + 1) K (zlp7 (fb_X1_mostAlike_19 (f' + 1) K) f') 2 x (nI U) (nI a) (nI p) (nI 0) (nI 0) (g, mi, ml) = _
          generalize zlp7 (fb_X1_mostAlike_19 (f' + 1) K) f' = K2
          unfold fb_X1_mostAlike_19
          simp only [li]
          rw [iLe0 (by omega) (by omega) (by omega), anb_t U hU p (by omega), iN z, iP rfl, e89 0 (by omega), e]
  unfold f_X1_mostAlike
  exact out 8 0 n 0 rfl (by omega) (by omega)
theorem mo_Y (hs : Sy g) (hn : 3000 < n) (hv : mi 424 = v) (hP : PIr v) {U : Nat} (hU : U < 256) (x : Int32) : f_X12_mostAlike n 422 (nI U) x (g, mi, ml) = some (nI (mxf (alk v U x) 8 0 0), (g, mi, ml)) := by
  have inn : ∀ (k5 : Nat → Int32 → Int32 → Int32 → Int32 → zH → Option (Int32 × zH)) (mo : Int32) (p : Nat), p < 8 → ∀ (r q f a : Nat), q + r = 8 → r < f → zlp7 (fb_X12_mostAlike_18 n k5) f 422 (nI U) x mo (nI p) (nI a) (nI q) (g, mi, ml) = fb_X12_mostAlike_76 n k5 422 (nI U) x mo (nI p) (nI (sm (fun q => if Nat.testBit U p = true then b1 (decide (fct v p x = fct v q x) && Nat.testBit U q) else 0) r q a)) (g, mi, ml) := by
    intro k5 mo p hp r
    induction r with
    | zero =>
      intro q f a h1 h2
      cases f with
      | zero => omega
      | succ f =>
        show fb_X12_mostAlike_18 n k5 (zlp7 (fb_X12_mostAlike_18 n k5) f) 422 (nI U) x mo (nI p) (nI a) (nI q) (g, mi, ml) = _
        generalize zlp7 (fb_X12_mostAlike_18 n k5) f = K
        unfold fb_X12_mostAlike_18
        simp only [li]
        rw [iLe1 (by omega) (by omega) (by omega)]
        rfl
    | succ r ih =>
      intro q f a h1 h2
      cases f with
      | zero => omega
      | succ f =>
        have ih := fun a => ih (q + 1) f a (by omega) (by omega)
        show fb_X12_mostAlike_18 n k5 (zlp7 (fb_X12_mostAlike_18 n k5) f) 422 (nI U) x mo (nI p) (nI a) (nI q) (g, mi, ml) = fb_X12_mostAlike_76 n k5 422 (nI U) x mo (nI p) (nI (sm _ r (q + 1) (a + (if Nat.testBit U p = true then b1 (decide (fct v p x = fct v q x) && Nat.testBit U q) else 0)))) (g, mi, ml)
        generalize zlp7 (fb_X12_mostAlike_18 n k5) f = K at ih
        rw [← ih]
        have t1 := is8_t U hU p hp
        have t2 := is8_t U hU q (by omega)
        unfold fb_X12_mostAlike_18 fb_X12_mostAlike_66 fb_X12_mostAlike_67 f_X12_isIn
        simp only [li, q_let]
        rw [iLe0 (by omega) (by omega) (by omega), nI_add, nI_add, nI_add]
        by_cases y : Nat.testBit U p = true
        · rw [iP (t1.mpr y), zb_s, iN n01.symm, iP y]
          by_cases w : Nat.testBit U q = true
          · rw [iP (t2.mpr w), zb_s, iN n01.symm, S_ck422 hs, r_fact hs hv hP hp, zb_s, S_ck422 hs, r_fact hs hv hP (by omega), zb_s, w]
            by_cases z : fct v p x = fct v q x
            · rw [iP z, decide_eq_true z]; rfl
            · rw [iN z, decide_eq_false z]; rfl
          · rw [iN (fun e => w (t2.mp e)), zb_s, iP rfl]
            have : Nat.testBit U q = false := by simpa using w
            rw [this, Bool.and_false]; rfl
        · rw [iN (fun e => y (t1.mp e)), zb_s, iP rfl, iN y]
  have out : ∀ (r p f a : Nat), p + r = 8 → r < f → a ≤ 8 → zlp5 (fb_X12_mostAlike_5 n) f 422 (nI U) x (nI a) (nI p) (g, mi, ml) = some (nI (mxf (alk v U x) r p a), (g, mi, ml)) := by
    intro r
    induction r with
    | zero =>
      intro p f a h1 h2 h3
      cases f with
      | zero => omega
      | succ f =>
        show fb_X12_mostAlike_5 n (zlp5 (fb_X12_mostAlike_5 n) f) 422 (nI U) x (nI a) (nI p) (g, mi, ml) = _
        unfold fb_X12_mostAlike_5
        rw [if_pos (show (8 : Int32) ≤ nI p from (nI_leI (a := 8) (by omega) (by omega)).mpr (by omega))]
        rfl
    | succ r ih =>
      intro p f a h1 h2 h3
      cases f with
      | zero => omega
      | succ f =>
        have hb := alk_b v U x p
        have ih := ih (p + 1) f (if a < alk v U x p then alk v U x p else a) (by omega) (by omega) (by split <;> omega)
        show fb_X12_mostAlike_5 n (zlp5 (fb_X12_mostAlike_5 n) f) 422 (nI U) x (nI a) (nI p) (g, mi, ml) = some (nI (mxf _ r (p + 1) (if a < alk v U x p then alk v U x p else a)), (g, mi, ml))
        generalize zlp5 (fb_X12_mostAlike_5 n) f = K at ih
        rw [← ih]
        unfold fb_X12_mostAlike_5
        rw [if_neg (show ¬ (8 : Int32) ≤ nI p from fun q => by have := (nI_leI (a := 8) (by omega) (by omega)).mp q; omega)]
        refine Eq.trans (inn K (nI a) p (by omega) 8 0 n 0 rfl (by omega)) ?_
        have e : alk v U x p = sm (fun q => if Nat.testBit U p = true then b1 (decide (fct v p x = fct v q x) && Nat.testBit U q) else 0) 8 0 0 := by
          unfold alk
          by_cases z : Nat.testBit U p = true
          · rw [if_pos z]
            simp only [z, if_T]
          · rw [if_neg z]
            have e0 : (fun q => if Nat.testBit U p = true then b1 (decide (fct v p x = fct v q x) && Nat.testBit U q) else 0) = fun _ => 0 := by
              funext q; rw [if_neg z]
            rw [e0]; rfl
        unfold fb_X12_mostAlike_76
        simp only [li]
        rw [← e, mxY (by omega) (by omega), zb_s, nI_add]
  unfold f_X12_mostAlike
  exact out 8 0 n 0 rfl (by omega) (by omega)
theorem cl_ask (hn : 3000 < n) (a : Int32) : LOOKI (f_X11_ask n 1 a) (f_X12_ask n 422 a) := by
  intro c g mi ml hI
  obtain ⟨U, u1, u2, u3⟩ := fit_2 (ml := ml) hn hI
  obtain ⟨h1, ⟨hR, ⟨l, lw, lc, hC, hP, hG⟩, -⟩, -⟩ := hI
  have hs := h1.1
  generalize hv : mi 424 = v at hR hC hP hG
  have mb : ∀ x, mxf (alk v U x) 8 0 0 ≤ 8 := fun x => mxf_b 8 0 0 (by omega) (alk_b v U x)
  have sX : ∀ (b fw k f : Nat), k < 3 → fw ≤ 9 → zlp6 (fb_X11_ask_36 n) (f + 1) 1 a (nI U) (nI b) (nI fw) (nI k) (g, mi, ml) = zlp6 (fb_X11_ask_36 n) f 1 a (nI U) (nI (if mxf (alk v U (nI k)) 8 0 0 < fw then k else b)) (nI (if mxf (alk v U (nI k)) 8 0 0 < fw then mxf (alk v U (nI k)) 8 0 0 else fw)) (nI (k + 1)) (g, mi, ml) := by
    intro b fw k f hk hf
    have := mb (nI k)
    show fb_X11_ask_36 n (zlp6 (fb_X11_ask_36 n) f) 1 a (nI U) (nI b) (nI fw) (nI k) (g, mi, ml) = _
    generalize zlp6 (fb_X11_ask_36 n) f = K
    unfold fb_X11_ask_36 fb_X11_ask_72
    simp only [li]
    rw [iLe0 (by omega) (by omega) (by omega), S_gR1_4 hs, S_gR1_0 hs, S_ck27 hs, mo_X hs hn hR hP u1, zb_s, nI_add]
    by_cases z : mxf (alk v U (nI k)) 8 0 0 < fw
    · rw [iLe0 (by omega) (by omega) z, if_pos z, if_pos z]
    · rw [iLe1 (by omega) (by omega) (by omega), if_neg z, if_neg z]
  have sY : ∀ (b : Int32) (fw k f : Nat), U ≠ 0 → k < 3 → fw ≤ 1000000 → zlp6 (fb_X12_ask_25 n) (f + 1) 422 a (nI U) b (nI fw) (nI k) (g, mi, ml) = zlp6 (fb_X12_ask_25 n) f 422 a (nI U) (if mxf (alk v U (nI k)) 8 0 0 < fw then nI k else b) (nI (if mxf (alk v U (nI k)) 8 0 0 < fw then mxf (alk v U (nI k)) 8 0 0 else fw)) (nI (k + 1)) (g, mi, ml) := by
    intro b fw k f hU hk hf
    have := mb (nI k)
    show fb_X12_ask_25 n (zlp6 (fb_X12_ask_25 n) f) 422 a (nI U) b (nI fw) (nI k) (g, mi, ml) = _
    generalize zlp6 (fb_X12_ask_25 n) f = K
    unfold fb_X12_ask_25 fb_X12_ask_61
    simp only [li]
    rw [iLe0 (by omega) (by omega) (by omega), iEq0 (by omega) (by omega) hU, S_ck422 hs, mo_Y hs hn hv hP u1, zb_s, nI_add]
    by_cases z : mxf (alk v U (nI k)) 8 0 0 < fw
    · rw [iLt1 (by omega) (by omega) z, if_pos z, if_pos z]
    · rw [iLt0 (by omega) (by omega) (by omega), if_neg z, if_neg z]
  obtain ⟨f, hf⟩ : ∃ f, n = f + 4 := ⟨n - 4, by omega⟩
  have hlX : ∀ i : Int32, zlp6 (fb_X11_ask_36 n) n 1 i (nI U) (nI 0) (nI 9) (nI 0) (g, mi, ml) = zlp6 (fb_X11_ask_36 n) (f + 4) 1 i (nI U) (nI 0) (nI 9) (nI 0) (g, mi, ml) := fun i => by rw [← hf]
  have hlY : ∀ i : Int32, zlp6 (fb_X12_ask_25 n) n 422 i (nI U) m1 (nI 1000000) (nI 0) (g, mi, ml) = zlp6 (fb_X12_ask_25 n) (f + 4) 422 i (nI U) m1 (nI 1000000) (nI 0) (g, mi, ml) := fun i => by rw [← hf]
  unfold f_X11_ask f_X12_ask
  simp only [li, ng1]
  rw [S_gR1_4 hs, S_gR1_0 hs, S_ck27 hs, u2, zb_s]
  by_cases hU : U = 0
  · subst hU
    refine ⟨m1, by rw [iP rfl], ?_⟩
    have e : zlp6 (fb_X12_ask_25 n) (f + 4) 422 a (nI 0) m1 (nI 1000000) (nI 0) (g, mi, ml) = some (m1, (g, mi, ml)) := by
      show fb_X12_ask_25 n (zlp6 (fb_X12_ask_25 n) (f + 3)) 422 a (nI 0) m1 (nI 1000000) (nI 0) (g, mi, ml) = _
      unfold fb_X12_ask_25 fb_X12_ask_67
      simp only [li, ng1]
      rw [iLe0 (by omega) (by omega) (by omega), if_T, if_T]
    rcases pk_ix a (n := 2) (by decide) with ha | ha | ⟨k, hk, ha⟩
    · rw [r_lies0 ha, zb_s, iP rfl]
    · rw [r_lies1 (N := 1) (by decide) ha, zb_s, iP rfl]
    · subst ha
      rw [r_lies2 (by decide) (by omega), zb_s, iN n01.symm, S_ck422 hs, u3, zb_s, hlY, e]
  · rw [iEq0 (by omega) (by omega) hU]
    rcases pk_ix a (n := 2) (by decide) with ha | ha | ⟨k, hk, ha⟩
    · exact ⟨m1, by rw [iP (show a < nI 0 from ha)], by rw [r_lies0 ha, zb_s, iP rfl]⟩
    · have t := ge_lt (N := 1) (by decide) ha
      refine ⟨m1, ?_, by rw [r_lies1 (N := 1) (by decide) ha, zb_s, iP rfl]⟩
      rw [iN t.2.1, iN (fun q => by rw [Int32.le_iff_toInt_le] at q; have := t.1; rw [Int32.lt_iff_toInt_lt] at this; omega)]
    · subst ha
      rw [iN (show ¬ nI k < nI 0 by rw [nLt (by omega) (by omega)]; omega), iLe1 (by omega) (by omega) (by omega), r_lies2 (by decide) (by omega), zb_s, iN n01.symm, S_ck422 hs, u3, zb_s, hlX, hlY]
      have m0 := mb (nI 0)
      rw [sX 0 9 0 _ (by omega) (by omega), if_pos (show mxf (alk v U (nI 0)) 8 0 0 < 9 by omega), if_pos (show mxf (alk v U (nI 0)) 8 0 0 < 9 by omega), sX _ _ 1 _ (by omega) (by omega)]
      rw [sY _ _ 0 _ hU (by omega) (by omega), if_pos (show mxf (alk v U (nI 0)) 8 0 0 < 1000000 by omega), if_pos (show mxf (alk v U (nI 0)) 8 0 0 < 1000000 by omega), sY _ _ 1 _ hU (by omega) (by omega)]
      generalize mxf (alk v U (nI 0)) 8 0 0 = A0 at m0
      have m1' := mb (nI 1)
      generalize mxf (alk v U (nI 1)) 8 0 0 = A1 at m1'
      have e1 : (if A1 < A0 then nI 1 else nI 0) = nI (if A1 < A0 then 1 else 0) := by split <;> rfl
      have e2 : (if A1 < A0 then A1 else A0) ≤ 8 := by split <;> omega
      have e4 : (if A1 < A0 then 1 else 0) ≤ 1 := by split <;> omega
      rw [e1]
      generalize (if A1 < A0 then 1 else 0) = B1 at e4
      generalize (if A1 < A0 then A1 else A0) = F1 at e2
      rw [sX _ _ 2 _ (by omega) (by omega), sY _ _ 2 _ hU (by omega) (by omega)]
      generalize mxf (alk v U (nI 2)) 8 0 0 = A2
      have e3 : (if A2 < F1 then nI 2 else nI B1) = nI (if A2 < F1 then 2 else B1) := by split <;> rfl
      rw [e3]
      have e5 : (if A2 < F1 then 2 else B1) ≤ 2 := by split <;> omega
      generalize (if A2 < F1 then 2 else B1) = B2 at e5
      generalize (if A2 < F1 then A2 else F1) = F2
      refine ⟨if nI k = nI 0 then nI B2 else nI F2, ?_, ?_⟩
      · show fb_X11_ask_36 n (zlp6 (fb_X11_ask_36 n) f) 1 (nI k) (nI U) (nI B2) (nI F2) (nI 3) (g, mi, ml) = _
        unfold fb_X11_ask_36 fb_X11_ask_78
        simp only [li]
        rw [iLe1 (by omega) (by omega) (by omega)]
        by_cases z : nI k = nI 0
        · rw [iP z, iP z]
        · rw [iN z, iN z]
      · show fb_X12_ask_25 n (zlp6 (fb_X12_ask_25 n) f) 422 (nI k) (nI U) (nI B2) (nI F2) (nI 3) (g, mi, ml) = _
        unfold fb_X12_ask_25 fb_X12_ask_67
        simp only [li, ng1]
        rw [iLe1 (by omega) (by omega) (by omega), iN (show ¬ nI B2 = m1 from nI_nm (by omega))]
        by_cases z : nI k = nI 0
        · rw [iP z, iP z]
        · rw [iN z, iN z]
/-- scratch of the Java side and of the plain form -/
theorem VE_s {mi mi' : Nat → Nat → Int32} (h : ∀ a, a ≠ 23 → a ≠ 422 → a ≠ 434 → mi' a = mi a) (h2 : ∀ k, (k < 22 ∨ 25 < k) → mi' 422 k = mi 422 k) : VE mi mi' := by
  have h1 : mi' 1 = mi 1 := h 1 (by decide) (by decide) (by decide)
  refine ⟨fun a ha => h a ?_ ?_ ?_, ⟨h2 0 (by decide), h2 6 (by decide), h2 13 (by decide), h2 14 (by decide), h2 31 (by decide), h2 33 (by decide), h2 41 (by decide)⟩, by rw [h1], by rw [h1], by rw [h1], by rw [h1]⟩ <;> (intro q; subst q; exact absurd ha (by decide))
theorem VE_FM {mi M : Nat → Nat → Int32} {f : Nat → Int32} (h : FM (zrw mi 23 f) M) (h4 : M 424 = mi 424) : VE mi M := VE_s (fun a h1 h2 h3 => by
  by_cases q : a = 424
  · rw [q]; exact h4
  · rw [h.1 a h2 q h3, zrw_a h1]) (fun k hk => by rw [h.2 k hk, zrw_a (by decide)])
end
