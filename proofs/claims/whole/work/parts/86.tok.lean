/-! the plain form knows the words -/
def sb (x : Nat) : Int32 := if x < 128 then nI x else nI x - nI 256
theorem sb_neg : ∀ x, x < 256 → 128 ≤ x → sb x < nI 0 := by decide +kernel
theorem sb_and : ∀ x, x < 256 → nI 100 + (sb x &&& nI 255) = nI (100 + x) := by decide +kernel
def WA (f : Nat → Int32) : Nat → List (List Nat) → Prop
  | off, [] => off = 146
  | off, w :: l => ((∀ i, i < w.length → f (off + i) = nI (w.getD i 0) ∧ w.getD i 0 ≠ 32 ∧ w.getD i 0 < 128) ∧ f (off + w.length) = nI 32 ∧ off + w.length < 146) ∧ WA f (off + w.length + 1) l
def TPr (M : Nat → Nat → Int32) (b : Nat → Nat) (len : Nat) : Prop := len ≤ 400 ∧ (∀ i, i < len → M 429 i = sb (b i) ∧ b i < 256) ∧ WA (M 428) 0 WS
def Rs (M : Nat → Nat → Int32) (ct : Int32) (c u p : Nat → Int32) : Nat → Nat → Int32 := fun a k => if a = 422 then (if k = 18 then ct else M a k) else if a = 431 then c k else if a = 432 then u k else if a = 433 then p k else M a k
theorem sc_all {q : Nat → Bool} {b : Nat → Nat} {len : Nat} : ∀ (f k j : Nat), k ≤ j → j < sc q b len f k → q (b j) = true
  | 0, k, j, h1, h2 => by
    unfold sc at h2
    omega
  | f + 1, k, j, h1, h2 => by
    unfold sc at h2
    by_cases z : k < len ∧ q (b k) = true
    · rw [if_pos z] at h2
      by_cases y : j = k
      · rw [y]; exact z.2
      · exact sc_all f (k + 1) j (by omega) h2
    · rw [if_neg z] at h2
      omega
section
variable {g : zS} {M : Nat → Nat → Int32} {ml : Nat → Nat → Int64} {ct y : Int32} {c u p : Nat → Int32} {ρ : Type} {n len : Nat} {b : Nat → Nat}
theorem r_gct {K : Int32 → Option ρ} (hs : Sy g) : zgI ((g, Rs M ct c u p, ml) : zH) 13 422 18 K = K ct := by
  rw [S_gI422 hs]; rfl
theorem r_pct {K : zH → Option ρ} (hs : Sy g) : zpI ((g, Rs M ct c u p, ml) : zH) 13 422 18 y K = K (g, Rs M y c u p, ml) := by
  rw [S_pI422 hs, p_z]
  congr 2
  congr 1
  funext a k
  unfold Rs
  by_cases h : a = 422
  · subst h
    by_cases h1 : k = 18
    · subst h1; simp
    · simp [h1]
  · simp [h]
theorem r_ec {K : zH → Option ρ} (hs : Sy g) {j : Nat} (hj : j < 401) : zeI ((g, Rs M ct c u p, ml) : zH) 431 (nI j) y K = K (g, Rs M ct (upd c j y) u p, ml) := by
  rw [S_eI431 hs hj, p_z]
  congr 2
  congr 1
  funext a k
  unfold Rs upd
  by_cases h : a = 431
  · subst h
    by_cases h1 : k = j
    · subst h1; simp
    · simp [h1]
  · simp [h]
theorem r_eu {K : zH → Option ρ} (hs : Sy g) {j : Nat} (hj : j < 401) : zeI ((g, Rs M ct c u p, ml) : zH) 432 (nI j) y K = K (g, Rs M ct c (upd u j y) p, ml) := by
  rw [S_eI432 hs hj, p_z]
  congr 2
  congr 1
  funext a k
  unfold Rs upd
  by_cases h : a = 432
  · subst h
    by_cases h1 : k = j
    · subst h1; simp
    · simp [h1]
  · simp [h]
theorem r_ep {K : zH → Option ρ} (hs : Sy g) {j : Nat} (hj : j < 401) : zeI ((g, Rs M ct c u p, ml) : zH) 433 (nI j) y K = K (g, Rs M ct c u (upd p j y), ml) := by
  rw [S_eI433 hs hj, p_z]
  congr 2
  congr 1
  funext a k
  unfold Rs upd
  by_cases h : a = 433
  · subst h
    by_cases h1 : k = j
    · subst h1; simp
    · simp [h1]
  · simp [h]
theorem r_gu {K : Int32 → Option ρ} (hs : Sy g) {j : Nat} (hj : j < 401) : zaI ((g, Rs M ct c u p, ml) : zH) 21 432 (nI j) K = K (u j) := by
  rw [S_aI432 hs hj]; rfl
theorem r_tp {K : Int32 → Option ρ} (hs : Sy g) (h : TPr M b len) {i : Nat} (hi : i < len) : zaI ((g, Rs M ct c u p, ml) : zH) 23 429 (nI i) K = K (sb (b i)) := by
  have hl := h.1
  rw [S_aI429 hs (by omega), ← (h.2.1 i hi).1]; rfl
theorem r_wc {K : Int32 → Option ρ} (hs : Sy g) {i : Nat} (hi : i < 146) : zaI ((g, Rs M ct c u p, ml) : zH) 23 428 (nI i) K = K (M 428 i) := by
  rw [S_aI428 hs hi]; rfl
theorem r_sml {x : Nat} (hx : x < 256) {h : zH} : f_X12_isSmall n (sb x) h = some (tB (isL x), h) := by
  by_cases h0 : x < 128
  · have e : sb x = nI x := if_pos h0
    rw [e]
    exact q_let' (n := n) hx
  · have e1 := sb_neg x hx (by omega)
    have e2 : sb x < nI 97 := lt_neg (by decide) e1
    have e3 : isL x = false := by
      unfold isL
      have : ¬ x ≤ 122 := by omega
      simp [this]
    rw [e3]
    exact if_pos e2
theorem r_dgt {x : Nat} (hx : x < 256) {h : zH} : f_X12_isDigit n (sb x) h = some (tB (isG x), h) := by
  by_cases h0 : x < 128
  · have e : sb x = nI x := if_pos h0
    rw [e]
    exact q_dig (n := n) hx
  · have e1 := sb_neg x hx (by omega)
    have e2 : sb x < nI 48 := lt_neg (by decide) e1
    have e3 : isG x = false := by
      unfold isG
      have : ¬ x ≤ 57 := by omega
      simp [this]
    rw [e3]
    exact if_pos e2
/-- one word is held against the tape -/
theorem r_cmp (hs : Sy g) (h : TPr M b len) {k5 : Nat → Int32 → Int32 → Int32 → Int32 → zH → Option (Int32 × zH)} {to wI : Int32} {k off : Nat} {w : List Nat} (hw : ∀ i, i < w.length → M 428 (off + i) = nI (w.getD i 0) ∧ w.getD i 0 ≠ 32 ∧ w.getD i 0 < 128) (ho : off + w.length < 146) (hk : k + w.length ≤ len) (hb : ∀ j, k ≤ j → j < k + w.length → b j < 128) : ∀ (r i ff : Nat), i + r = w.length → r + 1 < ff → zlp8 (fb_X12_wordOf_57 n k5) ff 422 (nI k) to wI (nI off) (nI w.length) (nI 1) (nI i) (g, Rs M ct c u p, ml) = fb_X12_wordOf_104 n k5 422 (nI k) to wI (nI off) (nI w.length) (if sg b r (k + i) = w.drop i then nI 1 else nI 0) (g, Rs M ct c u p, ml)
  | r, i, 0, _, h2 => absurd h2 (by omega)
  | 0, i, ff + 1, h1, _ => by
    have hl := h.1
    show fb_X12_wordOf_57 n k5 (zlp8 (fb_X12_wordOf_57 n k5) ff) 422 (nI k) to wI (nI off) (nI w.length) (nI 1) (nI i) _ = _
    generalize zlp8 (fb_X12_wordOf_57 n k5) ff = kx
    rw [List.drop_eq_nil_of_le (by omega), show sg b 0 (k + i) = [] from rfl, if_pos rfl]
    generalize hG : fb_X12_wordOf_104 n k5 422 (nI k) to wI (nI off) (nI w.length) (nI 1) (g, Rs M ct c u p, ml) = G
    unfold fb_X12_wordOf_57
    simp only [lit]
    simp (disch := omega) only [nLe, if_pos, hG]
  | r + 1, i, ff + 1, h1, h2 => by
    have hl := h.1
    obtain ⟨w1, w2, w3⟩ := hw i (by omega)
    have hbi := hb (k + i) (by omega) (by omega)
    have hsb : sb (b (k + i)) = nI (b (k + i)) := if_pos hbi
    have e4 := gd_drop w i (by omega)
    have e5 : sg b (r + 1) (k + i) = b (k + i) :: sg b r (k + (i + 1)) := rfl
    rw [e4, e5]
    show fb_X12_wordOf_57 n k5 (zlp8 (fb_X12_wordOf_57 n k5) ff) 422 (nI k) to wI (nI off) (nI w.length) (nI 1) (nI i) _ = _
    by_cases z : w.getD i 0 = b (k + i)
    · have ih := r_cmp hs h (k5 := k5) (to := to) (wI := wI) hw ho hk hb r (i + 1) ff (by omega) (by omega)
      have e6 : (b (k + i) :: sg b r (k + (i + 1)) = w.getD i 0 :: w.drop (i + 1)) = (sg b r (k + (i + 1)) = w.drop (i + 1)) := by
        rw [z]; simp
      simp only [e6]
      refine Eq.trans ?_ ih
      generalize zlp8 (fb_X12_wordOf_57 n k5) ff = kx
      unfold fb_X12_wordOf_57 fb_X12_wordOf_96
      simp only [lit]
      simp (disch := omega) only [nLe, if_neg, nEq, ↓S_gR422_7 hs, ↓S_gR422_11 hs, nI_add, ↓r_wc hs, w1, ↓r_tp hs h, hsb, eq_true z, if_T]
    · rw [if_neg (fun e => z (List.cons.inj e).1.symm)]
      obtain ⟨f2, rfl⟩ : ∃ f2, ff = f2 + 1 := ⟨ff - 1, by omega⟩
      have e7 : zlp8 (fb_X12_wordOf_57 n k5) (f2 + 1) 422 (nI k) to wI (nI off) (nI w.length) (nI 0) (nI (i + 1)) (g, Rs M ct c u p, ml) = fb_X12_wordOf_104 n k5 422 (nI k) to wI (nI off) (nI w.length) (nI 0) (g, Rs M ct c u p, ml) := by
        show fb_X12_wordOf_57 n k5 (zlp8 (fb_X12_wordOf_57 n k5) f2) 422 (nI k) to wI (nI off) (nI w.length) (nI 0) (nI (i + 1)) _ = _
        generalize zlp8 (fb_X12_wordOf_57 n k5) f2 = kx
        generalize hG : fb_X12_wordOf_104 n k5 422 (nI k) to wI (nI off) (nI w.length) (nI 0) (g, Rs M ct c u p, ml) = G
        unfold fb_X12_wordOf_57
        simp only [lit]
        by_cases y : w.length ≤ i + 1
        · simp (disch := omega) only [nLe, if_pos, hG]
        · simp (disch := omega) only [nLe, if_neg, if_T, hG]
      rw [← e7]
      generalize zlp8 (fb_X12_wordOf_57 n k5) (f2 + 1) = kx
      unfold fb_X12_wordOf_57 fb_X12_wordOf_96
      simp only [lit]
      simp (disch := omega) only [nLe, if_neg, nEq, ↓S_gR422_7 hs, ↓S_gR422_11 hs, nI_add, ↓r_wc hs, w1, ↓r_tp hs h, hsb, eq_false z, if_F]
theorem r_cmp0 {k5 : Nat → Int32 → Int32 → Int32 → Int32 → zH → Option (Int32 × zH)} {kI to wI of ln : Int32} {H : zH} {ff : Nat} (hf : 0 < ff) : zlp8 (fb_X12_wordOf_57 n k5) ff 422 kI to wI of ln (nI 0) (nI 0) H = fb_X12_wordOf_104 n k5 422 kI to wI of ln (nI 0) H := by
  obtain ⟨f2, rfl⟩ : ∃ f2, ff = f2 + 1 := ⟨ff - 1, by omega⟩
  show fb_X12_wordOf_57 n k5 (zlp8 (fb_X12_wordOf_57 n k5) f2) 422 kI to wI of ln (nI 0) (nI 0) _ = _
  unfold fb_X12_wordOf_57
  by_cases y : ln ≤ nI 0
  · rw [if_pos y]
  · rw [if_neg y]; exact if_pos rfl
theorem r_cnt (hs : Sy g) {k5 : Nat → Int32 → Int32 → Int32 → Int32 → zH → Option (Int32 × zH)} {kI to wI : Int32} {off : Nat} {w : List Nat} (hw : ∀ i, i < w.length → M 428 (off + i) = nI (w.getD i 0) ∧ w.getD i 0 ≠ 32 ∧ w.getD i 0 < 128) (h32 : M 428 (off + w.length) = nI 32) (ho : off + w.length < 146) : ∀ (r i ff : Nat), i + r = w.length → r < ff → zlp6 (fb_X12_wordOf_18 n k5) ff 422 kI to wI (nI off) (nI i) (g, Rs M ct c u p, ml) = fb_X12_wordOf_39 n k5 422 kI to wI (nI off) (nI w.length) (g, Rs M ct c u p, ml)
  | r, i, 0, _, h2 => absurd h2 (by omega)
  | 0, i, ff + 1, h1, _ => by
    have e : i = w.length := by omega
    subst e
    show fb_X12_wordOf_18 n k5 (zlp6 (fb_X12_wordOf_18 n k5) ff) 422 kI to wI (nI off) (nI w.length) _ = _
    generalize zlp6 (fb_X12_wordOf_18 n k5) ff = kx
    generalize hG : fb_X12_wordOf_39 n k5 422 kI to wI (nI off) (nI w.length) (g, Rs M ct c u p, ml) = G
    unfold fb_X12_wordOf_18
    simp only [lit]
    simp (disch := omega) only [↓S_gR422_7 hs, nI_add, ↓r_wc hs, h32, if_T, hG]
  | r + 1, i, ff + 1, h1, h2 => by
    obtain ⟨w1, w2, w3⟩ := hw i (by omega)
    rw [← r_cnt hs (k5 := k5) (kI := kI) (to := to) (wI := wI) hw h32 ho r (i + 1) ff (by omega) (by omega)]
    show fb_X12_wordOf_18 n k5 (zlp6 (fb_X12_wordOf_18 n k5) ff) 422 kI to wI (nI off) (nI i) _ = _
    generalize zlp6 (fb_X12_wordOf_18 n k5) ff = kx
    unfold fb_X12_wordOf_18
    simp only [lit]
    simp (disch := omega) only [↓S_gR422_7 hs, nI_add, ↓r_wc hs, w1, nEq, eq_false w2, if_F]
theorem r_wds (hs : Sy g) (h : TPr M b len) (hn : 3000 < n) {k to : Nat} (hk : k ≤ to) (ht : to ≤ len) (hb : ∀ j, k ≤ j → j < to → b j < 128) : ∀ (l : List (List Nat)) (off wi ff : Nat), WA (M 428) off l → off ≤ 146 → wi + l.length < 100 → l.length < ff → zlp5 (fb_X12_wordOf_5 n) ff 422 (nI k) (nI to) (nI wi) (nI off) (g, Rs M ct c u p, ml) = some (nI (wdx l wi (sg b (to - k) k)), (g, Rs M ct c u p, ml))
  | l, off, wi, 0, _, _, _, h2 => absurd h2 (by omega)
  | [], off, wi, ff + 1, hW, _, _, _ => by
    have hW : off = 146 := hW
    show fb_X12_wordOf_5 n (zlp5 (fb_X12_wordOf_5 n) ff) 422 (nI k) (nI to) (nI wi) (nI off) _ = _
    unfold fb_X12_wordOf_5 wdx
    simp only [lit]
    simp (disch := omega) only [↓S_gR422_7 hs, ↓S_ln428 hs, nLe, if_pos]
  | w :: l, off, wi, ff + 1, hW, hof, hwi, hff => by
    have hl := h.1
    obtain ⟨⟨w1, w2, w3⟩, w4⟩ := hW
    simp only [List.length_cons] at hwi hff
    have ih := r_wds hs h hn hk ht hb l (off + w.length + 1) (wi + 1) ff w4 (by omega) (by omega) (by omega)
    show fb_X12_wordOf_5 n (zlp5 (fb_X12_wordOf_5 n) ff) 422 (nI k) (nI to) (nI wi) (nI off) _ = _
    generalize zlp5 (fb_X12_wordOf_5 n) ff = kx at ih ⊢
    have e1 := r_cnt (ct := ct) (c := c) (u := u) (p := p) (ml := ml) (n := n) (k5 := kx) (kI := nI k) (to := nI to) (wI := nI wi) hs w1 w2 w3 w.length 0 n (by omega) (by omega)
    have e2 : fb_X12_wordOf_39 n kx 422 (nI k) (nI to) (nI wi) (nI off) (nI w.length) (g, Rs M ct c u p, ml) = fb_X12_wordOf_104 n kx 422 (nI k) (nI to) (nI wi) (nI off) (nI w.length) (if sg b (to - k) k = w then nI 1 else nI 0) (g, Rs M ct c u p, ml) := by
      unfold fb_X12_wordOf_39 fb_X12_wordOf_52
      rw [nI_sub hk]
      by_cases z : w.length = to - k
      · rw [iEq1 z]
        have e3 := r_cmp (ct := ct) (c := c) (u := u) (p := p) (ml := ml) (n := n) (k5 := kx) (to := nI to) (wI := nI wi) hs h w1 w3 (k := k) (by omega) (fun j h1 h2 => hb j h1 (by omega)) w.length 0 n (by omega) (by omega)
        refine e3.trans ?_
        rw [z]
        rfl
      · rw [iEq0 (by omega) (by omega) z, if_neg (fun e => z (by rw [← e, sg_len]))]
        exact r_cmp0 (by omega)
    unfold fb_X12_wordOf_5 wdx
    simp only [lit]
    simp (disch := omega) only [↓S_gR422_7 hs, ↓S_ln428 hs, nLe, if_neg]
    refine e1.trans (e2.trans ?_)
    unfold fb_X12_wordOf_104
    simp only [lit]
    by_cases z : sg b (to - k) k = w
    · simp (disch := omega) only [eq_true z, if_T, nEq, if_neg]
    · simp (disch := omega) only [eq_false z, if_F, if_T, ↓q_let, nI_add]
      exact ih
theorem r_word (hs : Sy g) (h : TPr M b len) (hn : 3000 < n) {k to : Nat} (hk : k ≤ to) (ht : to ≤ len) (hb : ∀ j, k ≤ j → j < to → b j < 128) : f_X12_wordOf n 422 (nI k) (nI to) (g, Rs M ct c u p, ml) = some (nI (wd (sg b (to - k) k)), (g, Rs M ct c u p, ml)) := by
  have e : WS.length = 29 := rfl
  exact r_wds hs h hn hk ht hb WS 0 1 n h.2.2 (by decide) (by omega) (by omega)
end
