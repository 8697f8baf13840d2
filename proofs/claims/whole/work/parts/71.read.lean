/-! the plain form reads sums -/
def RDb (g : zS) (M : Nat → Nat → Int32) (F : zH → Option (Unit × zH)) : Prop := ∀ t l x ml, x ≠ m1 → F (g, Mt M t l x, ml) = some ((), (g, Mt M t l x, ml))
def RDx (g : zS) (M : Nat → Nat → Int32) (T : Nat) (P : Nat → Nat) (F : zH → Option (Unit × zH)) (i p : Nat) (res : Except Nat (Nat × Nat)) : Prop := ∀ ml, (∀ j p', res = .ok (j, p') → F (g, Mt M (nI i) (nI p) m1, ml) = some ((), (g, Mt M (nI j) (nI p') m1, ml))) ∧ ∀ q, res = .error q → q ≤ T ∧ ∃ t l, F (g, Mt M (nI i) (nI p) m1, ml) = some ((), (g, Mt M t l (nI (P q)), ml))
def pS (r : RS) : Except Nat (Nat × Nat) := match r with
  | .error q => .error q
  | .ok (j, p', _, _) => .ok (j, p')
def pT (r : RT) : Except Nat (Nat × Nat) := match r with
  | .error q => .error q
  | .ok (j, p', _, _, _) => .ok (j, p')
theorem pS_o {r : RS} {j p : Nat} (h : pS r = .ok (j, p)) : ∃ c d, r = .ok (j, p, c, d) := by
  cases r with
  | error q => exact absurd h (by simp [pS])
  | ok x =>
    obtain ⟨j1, p1, c, d⟩ := x
    injection h with h
    injection h with h1 h2
    exact ⟨c, d, by rw [h1, h2]⟩
theorem pS_e {r : RS} {q : Nat} (h : pS r = .error q) : r = .error q := by
  cases r with
  | error q' => injection h with h; rw [h]
  | ok x => exact absurd h (by simp [pS])
theorem pT_o {r : RT} {j p : Nat} (h : pT r = .ok (j, p)) : ∃ k c d, r = .ok (j, p, k, c, d) := by
  cases r with
  | error q => exact absurd h (by simp [pT])
  | ok x =>
    obtain ⟨j1, p1, k, c, d⟩ := x
    injection h with h
    injection h with h1 h2
    exact ⟨k, c, d, by rw [h1, h2]⟩
theorem pT_e {r : RT} {q : Nat} (h : pT r = .error q) : r = .error q := by
  cases r with
  | error q' => injection h with h; rw [h]
  | ok x => exact absurd h (by simp [pT])
def RDs (g : zS) (M : Nat → Nat → Int32) (T : Nat) (P : Nat → Nat) (sub : Nat → Nat → RS) (F : zH → Option (Unit × zH)) : Prop := RDb g M F ∧ ∀ i p, i ≤ T → p ≤ 50 → RDx g M T P F i p (pS (sub i p))
def RDt (g : zS) (M : Nat → Nat → Int32) (T : Nat) (P : Nat → Nat) (sub : Nat → Nat → RT) (F : zH → Option (Unit × zH)) : Prop := RDb g M F ∧ ∀ i p, i ≤ T → p ≤ 50 → RDx g M T P F i p (pT (sub i p))
theorem zb_iu (X : Option (Unit × zH)) : (zb X fun _ h => some ((), h)) = X := by
  cases X <;> rfl
theorem tb1 : tB true = nI 1 := rfl
theorem tb0' : tB false = nI 0 := rfl
section
variable {g : zS} {M : Nat → Nat → Int32} {n T : Nat} {D V P : Nat → Nat} {o : Bool} {kH : Nat → Int32 → zH → Option (Unit × zH)}
theorem t_leaf1 {ml : Nat → Nat → Int64} (hs : Sy g) {i p : Nat} (hp : p < 50) : f_X12_leaf n 422 (g, Mt M (nI i) (nI p) m1, ml) = some ((), (g, Mt M (nI (i + 1)) (nI (p + 1)) m1, ml)) := by
  unfold f_X12_leaf fb_X12_leaf_13
  simp only [lit]
  simp (disch := omega) only [↓t_lf hs, ↓iEq0, ↓t_plf hs, ↓S_ck422 hs, t_fine1 hs, zb_s, nEq, if_neg, ↓t_tk hs, ↓t_ptk hs, nI_add]
theorem t_leaf0 {ml : Nat → Nat → Int64} (hs : Sy g) (h : TR o M T D V P) {i : Nat} (hi : i ≤ T) : f_X12_leaf n 422 (g, Mt M (nI i) (nI 50) m1, ml) = some ((), (g, Mt M (nI i) (nI 51) (nI (P i)), ml)) := by
  unfold f_X12_leaf fb_X12_leaf_13
  simp only [lit]
  simp (disch := omega) only [↓t_lf hs, if_T, ↓t_plf hs, ↓S_ck422 hs, t_fl1 hs h hi, t_fine0 hs (t_pb h hi), zb_s, nI_add]
theorem t_135 {ml : Nat → Nat → Int64} {t l x : Int32} (hs : Sy g) (hx : x ≠ m1) {c : Int32} : fb_X12_readPart_135 n kH 422 c (g, Mt M t l x, ml) = some ((), (g, Mt M t l x, ml)) := by
  unfold fb_X12_readPart_135
  simp only [lit]
  simp only [↓t_10 hs, ↓S_ck422 hs, t_nu0 hs hx, zb_s]
  split
  · rfl
  · split <;> rfl
theorem t_part (hs : Sy g) (h : TR o M T D V P) {sub : Nat → Nat → RS} (ok : OkS T sub) {dp r : Nat} (hd : dp + r = 8) (h0 : r = 0 → ∀ i p, sub i p = .error (i - 1)) (hk : 0 < r → RDs g M T P sub (kH 422 (nI (dp + 1)))) : RDs g M T P (pPart o D V sub) (f_X12_readPart n kH 422 (nI dp)) := by
  have hT := h.2.1.1
  refine ⟨fun t l x ml hx => ?_, fun i p hi hp ml => ?_⟩
  · unfold f_X12_readPart
    simp only [lit]
    simp (disch := omega) only [↓S_ck422 hs, t_fine0 hs hx, zb_s, if_T]
  have hD := h.2.1.2.2 i
  have hne : ∀ k, k ≤ T → D k ≠ 0 → k < T := fun k h1 h2 => by
    rcases Nat.lt_or_eq_of_le h1 with q | q
    · exact q
    · exact absurd (by rw [q]; exact h.2.1.2.1) h2
  unfold pPart
  by_cases q1 : D i = 191
  · rw [if_pos q1]
    have hi' := hne i hi (by omega)
    by_cases z : dp = 8
    · rw [h0 (by omega)]
      refine ⟨fun j p' he => absurd he (by simp [pS]), fun q he => ?_⟩
      have he : (Except.error (i + 1 - 1) : Except Nat (Nat × Nat)) = .error q := he
      injection he with he
      have he : q = i := by omega
      subst he
      refine ⟨hi, nI q, nI p, ?_⟩
      unfold f_X12_readPart f_X12_sign fb_X12_readPart_37
      simp only [lit]
      simp (disch := omega) only [↓S_ck422 hs, t_fine1 hs, zb_s, ↓iEq0, nEq, if_neg, ↓S_gR422_15 hs, ↓t_tk hs, ↓t_cd hs h hi, nI_add, q1, if_T, z, t_fl1 hs h hi, t_fine0 hs (t_pb h hi)]
    · have U : ∀ X, (zck (g, Mt M (nI (i + 1)) (nI p) m1, ml) 13 422 (zb (kH 422 (nI (dp + 1)) (g, Mt M (nI (i + 1)) (nI p) m1, ml)) fun _ h6 => zb (f_X12_sign n (nI 93) h6) fun r7 h8 => zck h8 13 422 (zb (f_X12_must n 422 r7 h8) fun _ h10 => some ((), h10)))) = X → f_X12_readPart n kH 422 (nI dp) (g, Mt M (nI i) (nI p) m1, ml) = X := by
        intro X hX
        unfold f_X12_readPart fb_X12_readPart_37
        have hsg : ∀ h : zH, f_X12_sign n (nI 91) h = some (nI 191, h) := fun h => rfl
        simp only [lit]
        simp (disch := omega) only [↓S_ck422 hs, t_fine1 hs, zb_s, ↓iEq0, nEq, if_neg, ↓S_gR422_15 hs, ↓t_tk hs, ↓t_cd hs h hi, nI_add, q1, if_T, ↓t_ptk hs, hsg]
        rw [S_ck422 hs] at hX
        exact hX
      obtain ⟨kb, kx⟩ := hk (by omega)
      obtain ⟨k1, k2⟩ := kx (i + 1) p (by omega) hp ml
      cases hc : sub (i + 1) p with
      | error q' =>
        rw [hc] at k1 k2
        obtain ⟨s1, t, l, s2⟩ := k2 q' rfl
        refine ⟨fun j p' he => absurd he (by simp [pS]), fun q he => ?_⟩
        have he : (Except.error q' : Except Nat (Nat × Nat)) = .error q := he
        injection he with he
        subst he
        refine ⟨s1, t, l, U _ ?_⟩
        rw [S_ck422 hs, s2, zb_s]
        unfold f_X12_sign
        rw [zb_s, S_ck422 hs, t_mu0 hs (t_pb h s1)]
        rfl
      | ok x =>
        obtain ⟨j1, p1, c1, d1⟩ := x
        rw [hc] at k1 k2
        obtain ⟨a1, a2, a3, a4, a5, a6⟩ := ok _ _ _ _ _ _ (by omega) hp hc
        have s2 := k1 j1 p1 rfl
        have U2 : f_X12_readPart n kH 422 (nI dp) (g, Mt M (nI i) (nI p) m1, ml) = if D j1 = 193 then some ((), (g, Mt M (nI (j1 + 1)) (nI p1) m1, ml)) else some ((), (g, Mt M (nI j1) (nI p1) (nI (P j1)), ml)) := U _ (by
          rw [S_ck422 hs, s2, zb_s]
          have hsg : ∀ h : zH, f_X12_sign n (nI 93) h = some (nI 193, h) := fun h => rfl
          rw [hsg, zb_s, S_ck422 hs, t_mu1 hs h a2 (by decide), zb_iu])
        rw [U2]
        dsimp only
        by_cases q2 : D j1 = 193
        · rw [if_pos q2, if_pos q2]
          refine ⟨fun j p' he => ?_, fun q he => absurd he (by simp [pS])⟩
          have he : (Except.ok (j1 + 1, p1) : Except Nat (Nat × Nat)) = .ok (j, p') := he
          injection he with he
          injection he with e1 e2
          subst e1
          subst e2
          rfl
        · rw [if_neg q2, if_neg q2]
          refine ⟨fun j p' he => absurd he (by simp [pS]), fun q he => ?_⟩
          have he : (Except.error j1 : Except Nat (Nat × Nat)) = .error q := he
          injection he with he
          subst he
          exact ⟨a2, _, _, rfl⟩
  · rw [if_neg q1]
    have h8 := h.2.2.2.1
    have h9 := h.2.2.2.2
    have h10 := h.2.2.1
    have hpi := t_pb h hi
    have hf : (if o = true then (13 : Nat) else 7) < 100 ∧ (if o = true then (19 : Nat) else 13) < 100 := by cases o <;> decide
    have UW : (D i = 50 ∧ V i ≤ 1000 ∨ (if o then 13 else 7) ≤ D i ∧ D i ≤ (if o then 19 else 13)) → f_X12_readPart n kH 422 (nI dp) (g, Mt M (nI i) (nI p) m1, ml) = fb_X12_readPart_111 n kH 422 (nI (D i)) (g, Mt M (nI i) (nI p) m1, ml) := by
      intro hW
      unfold f_X12_readPart f_X12_sign
      simp only [lit]
      simp (disch := omega) only [↓S_ck422 hs, t_fine1 hs, zb_s, ↓iEq0, nEq, if_neg, ↓S_gR422_15 hs, ↓t_tk hs, ↓t_cd hs h hi, nI_add]
      by_cases z : D i = 50
      · by_cases y : V i ≤ 1000
        · simp (disch := omega) only [z, if_T, ↓S_gR422_16 hs, ↓t_tk hs, ↓t_vl hs h hi, (h.1 i hi).2.2.2.1 z y, ↓iLe1]
        · exfalso
          rcases hW with w | w
          · exact y w.2
          · have := hf.2
            cases o <;> simp at w <;> omega
      · simp (disch := omega) only [z, if_F]
        rcases hW with w | w
        · exact absurd w.1 z
        · unfold fb_X12_readPart_95
          rw [t_8 hs, h8, iLt0 (by omega) (by omega) w.1, t_9 hs, h9, iLt0 (by omega) (by omega) w.2]
    have UN : ¬ (D i = 50 ∧ V i ≤ 1000 ∨ (if o then 13 else 7) ≤ D i ∧ D i ≤ (if o then 19 else 13)) → f_X12_readPart n kH 422 (nI dp) (g, Mt M (nI i) (nI p) m1, ml) = some ((), (g, Mt M (nI i) (nI p) (nI (P i)), ml)) := by
      intro hW
      have k158 : fb_X12_readPart_158 n kH 422 (g, Mt M (nI i) (nI p) m1, ml) = some ((), (g, Mt M (nI i) (nI p) (nI (P i)), ml)) := by
        unfold fb_X12_readPart_158
        rw [S_ck422 hs, t_fl1 hs h hi, zb_s]
      have k95 : fb_X12_readPart_95 n kH 422 (nI (D i)) (g, Mt M (nI i) (nI p) m1, ml) = some ((), (g, Mt M (nI i) (nI p) (nI (P i)), ml)) := by
        unfold fb_X12_readPart_95
        rw [t_8 hs, h8]
        by_cases w : (if o = true then 13 else 7) ≤ D i
        · rw [iLt0 (by omega) (by omega) w, t_9 hs, h9, iLt1 (by omega) (by omega) (by
            have : ¬ D i ≤ (if o = true then 19 else 13) := fun w2 => hW (Or.inr ⟨w, w2⟩)
            omega), k158]
        · rw [iLt1 (by omega) (by omega) (by omega), k158]
      unfold f_X12_readPart f_X12_sign
      simp only [lit]
      simp (disch := omega) only [↓S_ck422 hs, t_fine1 hs, zb_s, ↓iEq0, nEq, if_neg, ↓S_gR422_15 hs, ↓t_tk hs, ↓t_cd hs h hi, nI_add]
      by_cases z : D i = 50
      · have y : 1000 < V i := Nat.lt_of_not_le (fun y => hW (Or.inl ⟨z, y⟩))
        have y2 := (h.1 i hi).2.2.2.2 z y
        have y3 : ¬ M 432 i ≤ nI 1000 := Int32.not_le.mpr y2
        rw [z] at k95
        simp (disch := omega) only [z, if_T, ↓S_gR422_16 hs, ↓t_tk hs, ↓t_vl hs h hi, y3, if_F, k95]
      · simp (disch := omega) only [z, if_F, k95]
    have bad : f_X12_readPart n kH 422 (nI dp) (g, Mt M (nI i) (nI p) m1, ml) = some ((), (g, Mt M (nI i) (nI (if (D i = 50 ∧ V i ≤ 1000 ∨ (if o then 13 else 7) ≤ D i ∧ D i ≤ (if o then 19 else 13)) then 51 else p)) (nI (P i)), ml)) → ∀ q, (Except.error i : Except Nat (Nat × Nat)) = .error q → q ≤ T ∧ ∃ t l, f_X12_readPart n kH 422 (nI dp) (g, Mt M (nI i) (nI p) m1, ml) = some ((), (g, Mt M t l (nI (P q)), ml)) := by
      intro e1 q he
      injection he with he
      subst he
      exact ⟨hi, _, _, e1⟩
    by_cases q2 : 50 ≤ p
    · rw [if_pos q2]
      have e50 : p = 50 := by omega
      refine ⟨fun j p' he => absurd he (by simp [pS]), bad ?_⟩
      by_cases hW : (D i = 50 ∧ V i ≤ 1000 ∨ (if o then 13 else 7) ≤ D i ∧ D i ≤ (if o then 19 else 13))
      · rw [UW hW, if_pos hW, e50]
        unfold fb_X12_readPart_111
        simp only [lit]
        rw [S_ck422 hs, t_leaf0 hs h hi, zb_s, t_10 hs, h10]
        cases o
        · simp (disch := omega) only [tb0', if_T, t_135 hs hpi]
        · simp (disch := omega) only [tb1, nEq, if_neg, ↓S_ck422 hs, t_nu0 hs hpi, zb_s, t_135 hs hpi]
          by_cases z : D i = 18
          · simp only [z, if_T]
          · simp only [z, if_F]
      · rw [UN hW, if_neg hW]
    · rw [if_neg q2]
      have fin : ∀ j0 c0 d0, f_X12_readPart n kH 422 (nI dp) (g, Mt M (nI i) (nI p) m1, ml) = some ((), (g, Mt M (nI j0) (nI (p + 1)) m1, ml)) → (∀ j p', pS (.ok (j0, p + 1, c0, d0)) = .ok (j, p') → f_X12_readPart n kH 422 (nI dp) (g, Mt M (nI i) (nI p) m1, ml) = some ((), (g, Mt M (nI j) (nI p') m1, ml))) ∧ ∀ q, pS (.ok (j0, p + 1, c0, d0)) = .error q → q ≤ T ∧ ∃ t l, f_X12_readPart n kH 422 (nI dp) (g, Mt M (nI i) (nI p) m1, ml) = some ((), (g, Mt M t l (nI (P q)), ml)) := by
        intro j0 c0 d0 e1
        refine ⟨fun j p' he => ?_, fun q he => absurd he (by simp [pS])⟩
        have he : (Except.ok (j0, p + 1) : Except Nat (Nat × Nat)) = .ok (j, p') := he
        injection he with he
        injection he with e2 e3
        subst e2
        subst e3
        exact e1
      have U111 : D i ≠ 18 ∨ o = false → D i ≠ 19 ∨ o = false → fb_X12_readPart_111 n kH 422 (nI (D i)) (g, Mt M (nI i) (nI p) m1, ml) = some ((), (g, Mt M (nI (i + 1)) (nI (p + 1)) m1, ml)) := by
        intro w1 w2
        unfold fb_X12_readPart_111 fb_X12_readPart_135
        simp only [lit]
        rw [S_ck422 hs, t_leaf1 hs (by omega), zb_s, t_10 hs, h10]
        cases o
        · simp (disch := omega) only [tb0', if_T, ↓t_10 hs, h10]
        · have w1 : D i ≠ 18 := w1.resolve_right (by decide)
          have w2 : D i ≠ 19 := w2.resolve_right (by decide)
          simp (disch := omega) only [tb1, nEq, if_neg, ↓t_10 hs, h10]
      by_cases q3 : isWd o (D i) = true
      · rw [if_pos q3]
        have hW : D i = 50 ∧ V i ≤ 1000 ∨ (if o then 13 else 7) ≤ D i ∧ D i ≤ (if o then 19 else 13) := by
          cases o <;> simp [isWd] at q3 ⊢ <;> omega
        refine fin _ _ _ ?_
        rw [UW hW]
        refine U111 ?_ ?_ <;> (cases o <;> simp [isWd] at q3 ⊢ <;> omega)
      · rw [if_neg q3]
        by_cases q4 : o = true ∧ D i = 18
        · rw [if_pos q4]
          obtain ⟨q41, q42⟩ := q4
          subst q41
          have hi' := hne i hi (by omega)
          have hW : D i = 50 ∧ V i ≤ 1000 ∨ (if true then 13 else 7) ≤ D i ∧ D i ≤ (if true then 19 else 13) := by
            simp; omega
          have e1 : f_X12_readPart n kH 422 (nI dp) (g, Mt M (nI i) (nI p) m1, ml) = if D (i + 1) = 50 ∧ 0 ≤ V (i + 1) ∧ V (i + 1) ≤ 7 then some ((), (g, Mt M (nI (i + 2)) (nI (p + 1)) m1, ml)) else some ((), (g, Mt M (nI (i + 1)) (nI (p + 1)) (nI (P (i + 1))), ml)) := by
            rw [UW hW]
            unfold fb_X12_readPart_111
            simp only [lit]
            rw [S_ck422 hs, t_leaf1 hs (by omega), zb_s, t_10 hs, h10]
            simp (disch := omega) only [tb1, nEq, if_neg, q42, if_T, ↓S_ck422 hs, t_nu1 hs h]
            have e135 : ∀ b t l, fb_X12_readPart_135 n kH 422 (nI 18) (g, Mt M t l b, ml) = some ((), (g, Mt M t l b, ml)) := by
              intro b t l
              unfold fb_X12_readPart_135
              simp only [lit]
              rw [t_10 hs, h10]
              simp (disch := omega) only [tb1, nEq, if_neg]
            by_cases z : D (i + 1) = 50 ∧ 0 ≤ V (i + 1) ∧ V (i + 1) ≤ 7
            · rw [if_pos z, zb_s, e135]
            · rw [if_neg z, zb_s, e135]
          by_cases q5 : D (i + 1) = 50 ∧ V (i + 1) ≤ 7
          · rw [if_pos q5]
            rw [if_pos ⟨q5.1, Nat.zero_le _, q5.2⟩] at e1
            exact fin _ _ _ e1
          · rw [if_neg q5]
            rw [if_neg (fun z => q5 ⟨z.1, z.2.2⟩)] at e1
            refine ⟨fun j p' he => absurd he (by simp [pS]), fun q he => ?_⟩
            have he : (Except.error (i + 1) : Except Nat (Nat × Nat)) = .error q := he
            injection he with he
            subst he
            exact ⟨by omega, _, _, e1⟩
        · rw [if_neg q4]
          by_cases q6 : o = true ∧ D i = 19
          · rw [if_pos q6]
            obtain ⟨q41, q42⟩ := q6
            subst q41
            have hi' := hne i hi (by omega)
            have hW : D i = 50 ∧ V i ≤ 1000 ∨ (if true then 13 else 7) ≤ D i ∧ D i ≤ (if true then 19 else 13) := by
              simp; omega
            have e1 : f_X12_readPart n kH 422 (nI dp) (g, Mt M (nI i) (nI p) m1, ml) = if D (i + 1) = 50 ∧ 0 ≤ V (i + 1) ∧ V (i + 1) ≤ 99 then some ((), (g, Mt M (nI (i + 2)) (nI (p + 1)) m1, ml)) else some ((), (g, Mt M (nI (i + 1)) (nI (p + 1)) (nI (P (i + 1))), ml)) := by
              rw [UW hW]
              unfold fb_X12_readPart_111
              simp only [lit]
              rw [S_ck422 hs, t_leaf1 hs (by omega), zb_s, t_10 hs, h10]
              simp (disch := omega) only [tb1, nEq, if_neg, q42]
              unfold fb_X12_readPart_135
              simp only [lit]
              rw [t_10 hs, h10]
              simp (disch := omega) only [tb1, nEq, if_neg, if_T, ↓S_ck422 hs, t_nu1 hs h]
              by_cases z : D (i + 1) = 50 ∧ 0 ≤ V (i + 1) ∧ V (i + 1) ≤ 99
              · rw [if_pos z, zb_s]
              · rw [if_neg z, zb_s]
            by_cases q5 : D (i + 1) = 50 ∧ V (i + 1) ≤ 99
            · rw [if_pos q5]
              rw [if_pos ⟨q5.1, Nat.zero_le _, q5.2⟩] at e1
              exact fin _ _ _ e1
            · rw [if_neg q5]
              rw [if_neg (fun z => q5 ⟨z.1, z.2.2⟩)] at e1
              refine ⟨fun j p' he => absurd he (by simp [pS]), fun q he => ?_⟩
              have he : (Except.error (i + 1) : Except Nat (Nat × Nat)) = .error q := he
              injection he with he
              subst he
              exact ⟨by omega, _, _, e1⟩
          · rw [if_neg q6]
            have w1 : D i ≠ 18 ∨ o = false := by
              cases o
              · exact Or.inr rfl
              · exact Or.inl (fun z => q4 ⟨rfl, z⟩)
            have w2 : D i ≠ 19 ∨ o = false := by
              cases o
              · exact Or.inr rfl
              · exact Or.inl (fun z => q6 ⟨rfl, z⟩)
            by_cases q7 : D i = 50 ∧ V i ≤ 1000
            · rw [if_pos q7]
              refine fin _ _ _ ?_
              rw [UW (Or.inl q7)]
              exact U111 w1 w2
            · rw [if_neg q7]
              have hW : ¬ (D i = 50 ∧ V i ≤ 1000 ∨ (if o then 13 else 7) ≤ D i ∧ D i ≤ (if o then 19 else 13)) := by
                intro w
                rcases w with w | w
                · exact q7 w
                · cases o <;> simp [isWd] at q3 w w1 w2 <;> omega
              refine ⟨fun j p' he => absurd he (by simp [pS]), bad ?_⟩
              rw [UN hW, if_neg hW]
end
