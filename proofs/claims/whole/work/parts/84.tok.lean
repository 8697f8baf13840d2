/-! the Java side cuts the tape -/
def Qs (M : Nat → Nat → Int32) (ct : Int32) (k1 k2 k3 : Nat → Int32) : Nat → Nat → Int32 := fun a k => if a = 415 then (if k = 3 then ct else M a k) else if a = 416 then k1 k else if a = 417 then k2 k else if a = 418 then k3 k else M a k
def TPc (M : Nat → Nat → Int32) (b : Nat → Nat) (len : Nat) : Prop := M 408 1 = nI len ∧ len ≤ 400 ∧ ∀ i, i < len → M 409 i = nI (b i) ∧ b i < 256
def TLc (o : Bool) (b : Nat → Nat) (len : Nat) (k1 k2 k3 : Nat → Int32) : Nat → List (Nat × Nat × Nat) → Prop
  | t, [] => k1 t = nI 0 ∧ k2 t = nI len
  | t, x :: l => (k1 t = nI (km o x.1) ∧ k2 t = nI x.2.1 ∧ (x.1 = 50 → k3 t = nI (pC b (x.2.2 - x.2.1) x.2.1 0))) ∧ TLc o b len k1 k2 k3 (t + 1) l
theorem gd_map : ∀ (W : List Nat) (j : Nat), j < W.length → (W.map nI).getD j 0 = nI (W.getD j 0)
  | [], j, h => absurd h (by simp)
  | x :: W, 0, _ => rfl
  | x :: W, j + 1, h => gd_map W j (by simpa using h)
theorem gd_drop : ∀ (W : List Nat) (j : Nat), j < W.length → W.drop j = W.getD j 0 :: W.drop (j + 1)
  | [], j, h => absurd h (by simp)
  | x :: W, 0, _ => rfl
  | x :: W, j + 1, h => gd_drop W j (by simpa using h)
theorem gd_mem : ∀ (W : List Nat) (j : Nat), j < W.length → W.getD j 0 ∈ W
  | [], j, h => absurd h (by simp)
  | x :: W, 0, _ => List.mem_cons_self
  | x :: W, j + 1, h => List.mem_cons_of_mem _ (gd_mem W j (by simpa using h))
section
variable {g : zS} {M : Nat → Nat → Int32} {ml : Nat → Nat → Int64} {ct y : Int32} {k1 k2 k3 : Nat → Int32} {ρ : Type} {n len : Nat} {b : Nat → Nat} {o : Bool}
theorem q_gct {K : Int32 → Option ρ} (hs : Sy g) : zgI ((g, Qs M ct k1 k2 k3, ml) : zH) 10 415 3 K = K ct := by
  rw [S_gI415 hs]; rfl
theorem q_pct {K : zH → Option ρ} (hs : Sy g) : zpI ((g, Qs M ct k1 k2 k3, ml) : zH) 10 415 3 y K = K (g, Qs M y k1 k2 k3, ml) := by
  rw [S_pI415 hs, p_z]
  congr 2
  congr 1
  funext a k
  unfold Qs
  by_cases h : a = 415
  · subst h
    by_cases h1 : k = 3
    · subst h1; simp
    · simp [h1]
  · simp [h]
theorem q_e1 {K : zH → Option ρ} (hs : Sy g) {j : Nat} (hj : j < 401) : zeI ((g, Qs M ct k1 k2 k3, ml) : zH) 416 (nI j) y K = K (g, Qs M ct (upd k1 j y) k2 k3, ml) := by
  rw [S_eI416 hs hj, p_z]
  congr 2
  congr 1
  funext a k
  unfold Qs upd
  by_cases h : a = 416
  · subst h
    by_cases h1 : k = j
    · subst h1; simp
    · simp [h1]
  · simp [h]
theorem q_e2 {K : zH → Option ρ} (hs : Sy g) {j : Nat} (hj : j < 401) : zeI ((g, Qs M ct k1 k2 k3, ml) : zH) 417 (nI j) y K = K (g, Qs M ct k1 (upd k2 j y) k3, ml) := by
  rw [S_eI417 hs hj, p_z]
  congr 2
  congr 1
  funext a k
  unfold Qs upd
  by_cases h : a = 417
  · subst h
    by_cases h1 : k = j
    · subst h1; simp
    · simp [h1]
  · simp [h]
theorem q_e3 {K : zH → Option ρ} (hs : Sy g) {j : Nat} (hj : j < 401) : zeI ((g, Qs M ct k1 k2 k3, ml) : zH) 418 (nI j) y K = K (g, Qs M ct k1 k2 (upd k3 j y), ml) := by
  rw [S_eI418 hs hj, p_z]
  congr 2
  congr 1
  funext a k
  unfold Qs upd
  by_cases h : a = 418
  · subst h
    by_cases h1 : k = j
    · subst h1; simp
    · simp [h1]
  · simp [h]
theorem q_len {K : Int32 → Option ρ} (hs : Sy g) (h : TPc M b len) : zgI ((g, Qs M ct k1 k2 k3, ml) : zH) 8 408 1 K = K (nI len) := by
  rw [S_gI408 hs, ← h.1]; rfl
theorem q_byte (hs : Sy g) (h : TPc M b len) {i : Nat} (hi : i < len) : f_X9_byteAt n 408 (nI i) (g, Qs M ct k1 k2 k3, ml) = some (nI (b i), (g, Qs M ct k1 k2 k3, ml)) := by
  have hl := h.2.1
  unfold f_X9_byteAt
  simp only [lit]
  simp (disch := omega) only [↓iLt0, ↓iLe0, ↓S_gR408_0 hs, ↓S_aI409 hs]
  rw [← (h.2.2 i hi).1]
  rfl
theorem q_let' {x : Nat} (hx : x < 256) {h : zH} : f_X9_isLetter n (nI x) h = some (tB (isL x), h) := by
  unfold f_X9_isLetter isL
  simp only [lit]
  by_cases h1 : 97 ≤ x
  · by_cases h2 : x ≤ 122
    · simp (disch := omega) only [nLt, if_neg, h1, h2, decide_true, Bool.and_self]; rfl
    · simp (disch := omega) only [nLt, if_neg, if_pos, h1, h2, decide_true, decide_false, Bool.and_false]; rfl
  · simp (disch := omega) only [nLt, if_pos, h1, decide_false, Bool.false_and]; rfl
theorem q_dig {x : Nat} (hx : x < 256) {h : zH} : f_X9_isDigit n (nI x) h = some (tB (isG x), h) := by
  unfold f_X9_isDigit isG
  simp only [lit]
  by_cases h1 : 48 ≤ x
  · by_cases h2 : x ≤ 57
    · simp (disch := omega) only [nLt, if_neg, h1, h2, decide_true, Bool.and_self]; rfl
    · simp (disch := omega) only [nLt, if_neg, if_pos, h1, h2, decide_true, decide_false, Bool.and_false]; rfl
  · simp (disch := omega) only [nLt, if_pos, h1, decide_false, Bool.false_and]; rfl
theorem q_sl {s : Nat} (hs : s < 29) {h : zH} : zStrLen s h = some (nI (WN.getD s []).length, h) := by
  unfold zStrLen
  rw [if_pos hs, (WN_ok s hs).2.1]
  rfl
theorem q_sa {s j : Nat} (hs : s < 29) {h : zH} (hj : j < (WN.getD s []).length) : zStrAt s (nI j) h = some (nI ((WN.getD s []).getD j 0), h) := by
  obtain ⟨e1, e2, e3⟩ := WN_ok s hs
  unfold zStrAt
  have z : ¬ (nI j < 0 ∨ (WN.getD s []).length ≤ j) := by
    intro z
    rcases z with z | z
    · have z' : nI j < nI 0 := z
      rw [nLt (by omega) (by omega)] at z'
      omega
    · omega
  rw [e2, nI_clamp (by omega), if_pos ⟨hs, z⟩, e1, gd_map _ _ hj]
theorem q_sm_ (hs : Sy g) (h : TPc M b len) {s k : Nat} (hs9 : s < 29) (hk : k + (WN.getD s []).length ≤ len) : ∀ (r j ff : Nat), j + r = (WN.getD s []).length → r < ff → zlp4 (fb_X9_same_15 n) ff 408 (nI k) s (nI j) (g, Qs M ct k1 k2 k3, ml) = some (if sg b r (k + j) = (WN.getD s []).drop j then nI 1 else nI 0, (g, Qs M ct k1 k2 k3, ml))
  | r, j, 0, _, h2 => absurd h2 (by omega)
  | 0, j, ff + 1, h1, _ => by
    have hl := h.2.1
    have e3 := (WN_ok s hs9).2.2
    show fb_X9_same_15 n (zlp4 (fb_X9_same_15 n) ff) 408 (nI k) s (nI j) _ = _
    unfold fb_X9_same_15
    simp only [lit]
    rw [q_sl hs9, zb_s, iLe1 (by omega) (by omega) (by omega), List.drop_eq_nil_of_le (by omega)]
    rfl
  | r + 1, j, ff + 1, h1, h2 => by
    have hl := h.2.1
    have e3 := (WN_ok s hs9).2.2
    have ih := q_sm_ hs h hs9 hk r (j + 1) ff (by omega) (by omega)
    have hb := (h.2.2 (k + j) (by omega)).2
    have hw : (WN.getD s []).getD j 0 < 256 := by
      have : ∀ i, i < 29 → ((WN.getD i []).all fun x => decide (x < 256)) = true := by decide +kernel
      have := List.all_eq_true.mp (this s hs9) ((WN.getD s []).getD j 0) (gd_mem _ _ (by omega))
      exact of_decide_eq_true this
    show fb_X9_same_15 n (zlp4 (fb_X9_same_15 n) ff) 408 (nI k) s (nI j) _ = _
    generalize zlp4 (fb_X9_same_15 n) ff = kx at ih ⊢
    unfold fb_X9_same_15
    simp only [lit]
    rw [q_sl hs9, zb_s, iLe0 (by omega) (by omega) (by omega), nI_add, q_byte hs h (by omega), zb_s, q_sa hs9 (by omega), zb_s, nI_add, ih]
    have e4 := gd_drop (WN.getD s []) j (by omega)
    have e5 : sg b (r + 1) (k + j) = b (k + j) :: sg b r (k + (j + 1)) := rfl
    rw [e4, e5]
    by_cases z : b (k + j) = (WN.getD s []).getD j 0
    · rw [iEq1 z]
      by_cases w : sg b r (k + (j + 1)) = List.drop (j + 1) (WN.getD s [])
      · rw [if_pos w, if_pos (by rw [z, w])]
      · rw [if_neg w, if_neg (fun e => w (List.cons.inj e).2)]
    · rw [iEq0 (by omega) (by omega) z, if_neg (fun e => z (List.cons.inj e).1)]
theorem sg_len : ∀ (c k : Nat), (sg b c k).length = c
  | 0, _ => rfl
  | c + 1, k => by
    unfold sg
    rw [List.length_cons, sg_len c]
theorem q_sm (hs : Sy g) (h : TPc M b len) (hn : 3000 < n) {s k to : Nat} (hs9 : s < 29) (hk : k ≤ to) (ht : to ≤ len) : f_X9_same n 408 (nI k) (nI to) s (g, Qs M ct k1 k2 k3, ml) = some (if sg b (to - k) k = WN.getD s [] then nI 1 else nI 0, (g, Qs M ct k1 k2 k3, ml)) := by
  have hl := h.2.1
  have e3 := (WN_ok s hs9).2.2
  unfold f_X9_same
  simp only [lit]
  rw [q_sl hs9, zb_s, nI_sub hk]
  by_cases z : to - k = (WN.getD s []).length
  · rw [iEq1 z, q_sm_ hs h hs9 (by omega) (WN.getD s []).length 0 n (by omega) (by omega), z]
    rfl
  · rw [iEq0 (by omega) (by omega) z, if_neg (fun e => z (by rw [← e, sg_len]))]
end
