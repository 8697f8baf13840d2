/-! the plain form cuts the tape -/
def TLr (b : Nat → Nat) (len : Nat) (c u p : Nat → Int32) : Nat → List (Nat × Nat × Nat) → Prop
  | t, [] => c t = nI 0 ∧ p t = nI len
  | t, x :: l => (c t = nI x.1 ∧ p t = nI x.2.1 ∧ (x.1 = 50 → u t = nI (pR b (x.2.2 - x.2.1) x.2.1 0))) ∧ TLr b len c u p (t + 1) l
section
variable {g : zS} {M : Nat → Nat → Int32} {ml : Nat → Nat → Int64} {n len : Nat} {b : Nat → Nat}
theorem r_scl (hs : Sy g) (h : TPr M b len) {k7 : Nat → Int32 → Int32 → zH → Option (Unit × zH)} {st x ct : Int32} {c u p : Nat → Int32} : ∀ (f i ff : Nat), i ≤ len → len < i + f → len < i + ff → zlp5 (fb_X12_splits_43 n k7) ff 422 (nI len) st x (nI i) (g, Rs M ct c u p, ml) = fb_X12_splits_68 n k7 422 (nI len) st x (nI (sc isL b len f i)) (g, Rs M ct c u p, ml)
  | 0, i, ff, h1, h2, _ => absurd h2 (by omega)
  | f + 1, i, 0, h1, _, h2 => absurd h2 (by omega)
  | f + 1, i, ff + 1, hi, hf, hff => by
    have hl := h.1
    show fb_X12_splits_43 n k7 (zlp5 (fb_X12_splits_43 n k7) ff) 422 (nI len) st x (nI i) _ = _
    unfold sc
    by_cases z : i < len
    · have hb := (h.2.1 i z).2
      by_cases z2 : isL (b i) = true
      · rw [if_pos ⟨z, z2⟩, ← r_scl hs h (k7 := k7) (st := st) (x := x) (ct := ct) (c := c) (u := u) (p := p) f (i + 1) ff (by omega) (by omega) (by omega)]
        generalize zlp5 (fb_X12_splits_43 n k7) ff = kx
        unfold fb_X12_splits_43
        simp only [lit]
        simp (disch := omega) only [nLe, if_neg, ↓S_gR422_11 hs, ↓r_tp hs h z, r_sml hb, zb_s, z2, tb1, nEq, nI_add]
      · rw [if_neg (fun y => z2 y.2)]
        have z3 : isL (b i) = false := by simpa using z2
        generalize zlp5 (fb_X12_splits_43 n k7) ff = kx
        generalize hG : fb_X12_splits_68 n k7 422 (nI len) st x (nI i) (g, Rs M ct c u p, ml) = G
        unfold fb_X12_splits_43
        simp only [lit]
        simp (disch := omega) only [nLe, if_neg, ↓S_gR422_11 hs, ↓r_tp hs h z, r_sml hb, zb_s, z3, tb0', if_T, hG]
    · rw [if_neg (fun y => z y.1)]
      generalize zlp5 (fb_X12_splits_43 n k7) ff = kx
      generalize hG : fb_X12_splits_68 n k7 422 (nI len) st x (nI i) (g, Rs M ct c u p, ml) = G
      unfold fb_X12_splits_43
      simp only [lit]
      simp (disch := omega) only [nLe, if_pos, hG]
theorem r_scd (hs : Sy g) (h : TPr M b len) {k7 : Nat → Int32 → Int32 → zH → Option (Unit × zH)} {st x ct : Int32} {c u p : Nat → Int32} : ∀ (f i ff : Nat), i ≤ len → len < i + f → len < i + ff → zlp5 (fb_X12_splits_75 n k7) ff 422 (nI len) st x (nI i) (g, Rs M ct c u p, ml) = fb_X12_splits_100 n k7 422 (nI len) st x (nI (sc isG b len f i)) (g, Rs M ct c u p, ml)
  | 0, i, ff, h1, h2, _ => absurd h2 (by omega)
  | f + 1, i, 0, h1, _, h2 => absurd h2 (by omega)
  | f + 1, i, ff + 1, hi, hf, hff => by
    have hl := h.1
    show fb_X12_splits_75 n k7 (zlp5 (fb_X12_splits_75 n k7) ff) 422 (nI len) st x (nI i) _ = _
    unfold sc
    by_cases z : i < len
    · have hb := (h.2.1 i z).2
      by_cases z2 : isG (b i) = true
      · rw [if_pos ⟨z, z2⟩, ← r_scd hs h (k7 := k7) (st := st) (x := x) (ct := ct) (c := c) (u := u) (p := p) f (i + 1) ff (by omega) (by omega) (by omega)]
        generalize zlp5 (fb_X12_splits_75 n k7) ff = kx
        unfold fb_X12_splits_75
        simp only [lit]
        simp (disch := omega) only [nLe, if_neg, ↓S_gR422_11 hs, ↓r_tp hs h z, r_dgt hb, zb_s, z2, tb1, nEq, nI_add]
      · rw [if_neg (fun y => z2 y.2)]
        have z3 : isG (b i) = false := by simpa using z2
        generalize zlp5 (fb_X12_splits_75 n k7) ff = kx
        generalize hG : fb_X12_splits_100 n k7 422 (nI len) st x (nI i) (g, Rs M ct c u p, ml) = G
        unfold fb_X12_splits_75
        simp only [lit]
        simp (disch := omega) only [nLe, if_neg, ↓S_gR422_11 hs, ↓r_tp hs h z, r_dgt hb, zb_s, z3, tb0', if_T, hG]
    · rw [if_neg (fun y => z y.1)]
      generalize zlp5 (fb_X12_splits_75 n k7) ff = kx
      generalize hG : fb_X12_splits_100 n k7 422 (nI len) st x (nI i) (g, Rs M ct c u p, ml) = G
      unfold fb_X12_splits_75
      simp only [lit]
      simp (disch := omega) only [nLe, if_pos, hG]
theorem r_val (hs : Sy g) (h : TPr M b len) {k7 : Nat → Int32 → Int32 → zH → Option (Unit × zH)} {x : Nat} (hx : x < 256) (hg : isG x = true) {t to : Nat} {c p : Nat → Int32} (ht : t < 401) (hto : to ≤ len) : ∀ (r i ff a : Nat) (u : Nat → Int32), i + r = to → r < ff → a ≤ 10000009 → u t = nI a → (∀ j, i ≤ j → j < to → isG (b j) = true) → ∃ u', zlp5 (fb_X12_splits_169 n k7) ff 422 (nI len) (sb x) (nI to) (nI i) (g, Rs M (nI t) c u p, ml) = fb_X12_splits_247 n k7 422 (nI len) (nI to) (g, Rs M (nI t) c u' p, ml) ∧ u' t = nI (pR b r i a) ∧ ∀ j, j ≠ t → u' j = u j
  | r, i, 0, a, u, _, h2, _, _, _ => absurd h2 (by omega)
  | 0, i, ff + 1, a, u, h1, _, _, h4, _ => by
    have hl := h.1
    refine ⟨u, ?_, h4, fun _ _ => rfl⟩
    show fb_X12_splits_169 n k7 (zlp5 (fb_X12_splits_169 n k7) ff) 422 (nI len) (sb x) (nI to) (nI i) _ = _
    generalize zlp5 (fb_X12_splits_169 n k7) ff = kx
    generalize hG : fb_X12_splits_247 n k7 422 (nI len) (nI to) (g, Rs M (nI t) c u p, ml) = G
    unfold fb_X12_splits_169
    simp only [lit]
    simp (disch := omega) only [nLe, if_pos, hG]
  | r + 1, i, ff + 1, a, u, h1, h2, h3, h4, h5 => by
    have hl := h.1
    have hi := h5 i (by omega) (by omega)
    have hi2 : 48 ≤ b i ∧ b i ≤ 57 := by simpa [isG] using hi
    have hsb : sb (b i) = nI (b i) := if_pos (by omega)
    obtain ⟨u', e1, e2, e3⟩ := r_val hs h (k7 := k7) hx hg ht hto r (i + 1) ff (if a ≤ 1000000 then 10 * a + b i - 48 else a) (upd u t (nI (if a ≤ 1000000 then 10 * a + b i - 48 else a))) (by omega) (by omega) (by split <;> omega) upd_eq (fun j g1 g2 => h5 j (by omega) g2)
    refine ⟨u', ?_, ?_, fun j hj => by rw [e3 j hj, upd_ne hj]⟩
    · rw [← e1]
      show fb_X12_splits_169 n k7 (zlp5 (fb_X12_splits_169 n k7) ff) 422 (nI len) (sb x) (nI to) (nI i) _ = _
      generalize zlp5 (fb_X12_splits_169 n k7) ff = kx
      unfold fb_X12_splits_169 fb_X12_splits_240
      simp only [lit]
      simp (disch := omega) only [nLe, if_neg, r_dgt hx, zb_s, hg, tb1, nEq, ↓S_gR422_16 hs, ↓S_gR422_11 hs, ↓r_gct hs, ↓r_gu hs, h4, ↓r_tp hs h, hsb]
      by_cases y : a ≤ 1000000
      · have e6 : nI 10 * nI a + nI (b i) - nI 48 = nI (10 * a + b i - 48) := by
          rw [pk_mul, nI_add, nI_sub (by omega)]
        simp (disch := omega) only [eq_true y, if_T, e6, ↓r_eu hs, nI_add]
      · simp (disch := omega) only [eq_false y, if_F, ↓r_eu hs, nI_add]
    · rw [e2]
      rfl
theorem r_val0 {k7 : Nat → Int32 → Int32 → zH → Option (Unit × zH)} {x : Nat} (hx : x < 256) (hg : isG x = false) {to i : Int32} {H : zH} {L : Int32} {ff : Nat} (hf : 0 < ff) : zlp5 (fb_X12_splits_169 n k7) ff 422 L (sb x) to i H = fb_X12_splits_247 n k7 422 L to H := by
  obtain ⟨f2, rfl⟩ : ∃ f2, ff = f2 + 1 := ⟨ff - 1, by omega⟩
  show fb_X12_splits_169 n k7 (zlp5 (fb_X12_splits_169 n k7) f2) 422 L (sb x) to i _ = _
  unfold fb_X12_splits_169
  by_cases y : to ≤ i
  · rw [if_pos y]
  · rw [if_neg y, r_dgt hx, zb_s, hg]; exact if_pos rfl
theorem r_lp (hs : Sy g) (h : TPr M b len) (hn : 3000 < n) : ∀ (f k t ff : Nat) (c u p : Nat → Int32), k ≤ len → len < k + f → len < k + ff → t ≤ k → ∃ c' u' p', zlp3 (fb_X12_splits_7 n) ff 422 (nI len) (nI k) (g, Rs M (nI t) c u p, ml) = some ((), (g, Rs M (nI (t + (pTk b len f k).length)) c' u' p', ml)) ∧ (∀ j, j < t → c' j = c j ∧ u' j = u j ∧ p' j = p j) ∧ TLr b len c' u' p' t (pTk b len f k)
  | 0, k, t, ff, c, u, p, h1, h2, _, _ => absurd h2 (by omega)
  | f + 1, k, t, 0, c, u, p, h1, _, h2, _ => absurd h2 (by omega)
  | f + 1, k, t, ff + 1, c, u, p, hk, hf, hff, ht => by
    have hl := h.1
    unfold pTk
    by_cases z : len ≤ k
    · rw [if_pos z]
      refine ⟨upd c t (nI 0), upd u t (nI 0), upd p t (nI len), ?_, fun j hj => ⟨upd_ne (by omega), upd_ne (by omega), upd_ne (by omega)⟩, upd_eq, upd_eq⟩
      show fb_X12_splits_7 n (zlp3 (fb_X12_splits_7 n) ff) 422 (nI len) (nI k) _ = _
      generalize zlp3 (fb_X12_splits_7 n) ff = kx
      unfold fb_X12_splits_7 fb_X12_splits_263
      simp only [lit]
      simp (disch := omega) only [nLe, if_pos, ↓S_gR422_17 hs, ↓S_gR422_15 hs, ↓S_gR422_16 hs, ↓r_gct hs, ↓r_ep hs, ↓r_ec hs, ↓r_eu hs]
      rfl
    · rw [if_neg z]
      have z' : k < len := by omega
      have hb := (h.2.1 k z').2
      have go : ∀ (x : Int32) (u2 : Nat → Int32) (k' : Nat) (e : Nat × Nat × Nat), k < k' → k' ≤ len → zlp3 (fb_X12_splits_7 n) (ff + 1) 422 (nI len) (nI k) (g, Rs M (nI t) c u p, ml) = zlp3 (fb_X12_splits_7 n) ff 422 (nI len) (nI k') (g, Rs M (nI (t + 1)) (upd c t x) u2 (upd p t (nI k)), ml) → (∀ j, j ≠ t → u2 j = u j) → x = nI e.1 → e.2.1 = k → (e.1 = 50 → u2 t = nI (pR b (e.2.2 - e.2.1) e.2.1 0)) → ∃ c' u' p', zlp3 (fb_X12_splits_7 n) (ff + 1) 422 (nI len) (nI k) (g, Rs M (nI t) c u p, ml) = some ((), (g, Rs M (nI (t + (e :: pTk b len f k').length)) c' u' p', ml)) ∧ (∀ j, j < t → c' j = c j ∧ u' j = u j ∧ p' j = p j) ∧ TLr b len c' u' p' t (e :: pTk b len f k') := by
        intro x u2 k' e g1 g2 g3 g4 g5 g6 g7
        obtain ⟨a1, a2, a3, b1, b2, b3⟩ := r_lp hs h hn f k' (t + 1) ff (upd c t x) u2 (upd p t (nI k)) g2 (by omega) (by omega) (by omega)
        have e1 : t + (e :: pTk b len f k').length = t + 1 + (pTk b len f k').length := by simp; omega
        refine ⟨a1, a2, a3, by rw [g3, b1, e1], fun j hj => ?_, ⟨?_, ?_, ?_⟩, b3⟩
        · obtain ⟨c1, c2, c3⟩ := b2 j (by omega)
          rw [c1, c2, c3]
          exact ⟨upd_ne (by omega), g4 j (by omega), upd_ne (by omega)⟩
        · rw [(b2 t (by omega)).1, upd_eq, g5]
        · rw [(b2 t (by omega)).2.2, upd_eq, g6]
        · intro h5
          rw [(b2 t (by omega)).2.1, g7 h5]
      by_cases z1 : isL (b k) = true
      · rw [if_pos z1]
        have z1' : 97 ≤ b k ∧ b k ≤ 122 := by simpa [isL] using z1
        have n32 : ¬ sb (b k) = nI 32 := by
          rw [show sb (b k) = nI (b k) from if_pos (by omega)]
          intro e
          have := nI_inj (by omega) (by decide) e
          omega
        have z3 : isG (b k) = false := by
          unfold isG
          have : ¬ b k ≤ 57 := by omega
          simp [this]
        have a : k < sc isL b len 401 k := sc_gt (f := 400) z' z1
        have cc := (sc_le (q := isL) (b := b) (len := len) 401 k hk).2
        have e401 : sc isL b len 400 (k + 1) = sc isL b len 401 k := by
          rw [show sc isL b len 401 k = if k < len ∧ isL (b k) = true then sc isL b len 400 (k + 1) else k from rfl, if_pos ⟨z', z1⟩]
        have hb8 : ∀ j, k ≤ j → j < sc isL b len 401 k → b j < 128 := by
          intro j h1 h2
          have := sc_all 401 k j h1 h2
          have : 97 ≤ b j ∧ b j ≤ 122 := by simpa [isL] using this
          omega
        refine go (nI (wd (sg b (sc isL b len 401 k - k) k))) (upd u t (nI 0)) (sc isL b len 401 k) (wd (sg b (sc isL b len 401 k - k) k), k, sc isL b len 401 k) a cc ?_ (fun j hj => upd_ne hj) rfl rfl (fun h5 => ?_)
        · show fb_X12_splits_7 n (zlp3 (fb_X12_splits_7 n) ff) 422 (nI len) (nI k) _ = _
          generalize zlp3 (fb_X12_splits_7 n) ff = kx
          have e1 := r_scl hs h (k7 := kx) (st := nI k) (x := sb (b k)) (ct := nI t) (c := c) (u := u) (p := p) (n := n) (ml := ml) 400 (k + 1) n (by omega) (by omega) (by omega)
          unfold fb_X12_splits_7
          simp only [lit]
          simp (disch := omega) only [nLe, if_neg, ↓S_gR422_11 hs, ↓r_tp hs h z', n32, if_F, ↓q_let, nI_add, r_sml hb, zb_s, z1, tb1, nEq]
          refine e1.trans ?_
          rw [e401]
          unfold fb_X12_splits_68 fb_X12_splits_100 fb_X12_splits_165
          simp only [lit]
          simp (disch := omega) only [r_dgt hb, zb_s, z3, tb0', if_T, ↓S_gR422_17 hs, ↓S_gR422_15 hs, ↓S_gR422_16 hs, ↓r_gct hs, ↓r_ep hs, ↓r_ec hs, ↓r_eu hs, r_sml hb, z1, tb1, nEq, if_neg, ↓S_ck422 hs, r_word hs h hn (Nat.le_of_lt a) cc hb8, r_val0 hb z3 (n := n)]
          unfold fb_X12_splits_247
          simp only [lit]
          simp (disch := omega) only [↓r_gct hs, ↓r_pct hs, nI_add]
        · have := wd_lt (sg b (sc isL b len 401 k - k) k)
          have h5' : wd (sg b (sc isL b len 401 k - k) k) = 50 := h5
          omega
      · rw [if_neg z1]
        have z3 : isL (b k) = false := by simpa using z1
        by_cases z2 : isG (b k) = true
        · rw [if_pos z2]
          have z2' : 48 ≤ b k ∧ b k ≤ 57 := by simpa [isG] using z2
          have n32 : ¬ sb (b k) = nI 32 := by
            rw [show sb (b k) = nI (b k) from if_pos (by omega)]
            intro e
            have := nI_inj (by omega) (by decide) e
            omega
          have a : k < sc isG b len 401 k := sc_gt (f := 400) z' z2
          have cc := (sc_le (q := isG) (b := b) (len := len) 401 k hk).2
          have e401 : sc isG b len 400 (k + 1) = sc isG b len 401 k := by
            rw [show sc isG b len 401 k = if k < len ∧ isG (b k) = true then sc isG b len 400 (k + 1) else k from rfl, if_pos ⟨z', z2⟩]
          have hall : ∀ j, k ≤ j → j < sc isG b len 401 k → isG (b j) = true := fun j h1 h2 => sc_all 401 k j h1 h2
          have main : ∀ kx : Nat → Int32 → Int32 → zH → Option (Unit × zH), ∃ u', fb_X12_splits_7 n kx 422 (nI len) (nI k) (g, Rs M (nI t) c u p, ml) = kx 422 (nI len) (nI (sc isG b len 401 k)) (g, Rs M (nI (t + 1)) (upd c t (nI 50)) u' (upd p t (nI k)), ml) ∧ u' t = nI (pR b (sc isG b len 401 k - k) k 0) ∧ ∀ j, j ≠ t → u' j = upd u t (nI 0) j := by
            intro kx
            have e1 := r_scd hs h (k7 := kx) (st := nI k) (x := sb (b k)) (ct := nI t) (c := c) (u := u) (p := p) (n := n) (ml := ml) 400 (k + 1) n (by omega) (by omega) (by omega)
            obtain ⟨u', v1, v2, v3⟩ := r_val hs h (k7 := kx) hb z2 (t := t) (to := sc isG b len 401 k) (c := upd c t (nI 50)) (p := upd p t (nI k)) (n := n) (ml := ml) (by omega) cc (sc isG b len 401 k - k) k n 0 (upd u t (nI 0)) (by omega) (by omega) (by decide) upd_eq hall
            refine ⟨u', ?_, v2, v3⟩
            unfold fb_X12_splits_7
            simp only [lit]
            simp (disch := omega) only [nLe, if_neg, ↓S_gR422_11 hs, ↓r_tp hs h z', n32, if_F, ↓q_let, nI_add, r_sml hb, zb_s, z3, tb0', if_T]
            unfold fb_X12_splits_68
            simp only [lit]
            simp (disch := omega) only [r_dgt hb, zb_s, z2, tb1, nEq, if_neg]
            refine e1.trans ?_
            rw [e401]
            unfold fb_X12_splits_100 fb_X12_splits_165
            simp only [lit]
            simp (disch := omega) only [r_dgt hb, zb_s, z2, tb0', tb1, if_T, ↓S_gR422_17 hs, ↓S_gR422_15 hs, ↓S_gR422_16 hs, ↓r_gct hs, ↓r_ep hs, ↓r_ec hs, ↓r_eu hs, r_sml hb, z3, nEq, if_neg]
            refine v1.trans ?_
            unfold fb_X12_splits_247
            simp only [lit]
            simp (disch := omega) only [↓r_gct hs, ↓r_pct hs, nI_add]
          obtain ⟨u', m1', m2, m3⟩ := main (zlp3 (fb_X12_splits_7 n) ff)
          exact go (nI 50) u' (sc isG b len 401 k) (50, k, sc isG b len 401 k) a cc m1' (fun j hj => by rw [m3 j hj, upd_ne hj]) rfl rfl (fun _ => m2)
        · rw [if_neg z2]
          have z4 : isG (b k) = false := by simpa using z2
          by_cases z5 : b k = 32
          · rw [if_pos z5]
            obtain ⟨a1, a2, a3, b1, b2, b3⟩ := r_lp hs h hn f (k + 1) t ff c u p (by omega) (by omega) (by omega) (by omega)
            refine ⟨a1, a2, a3, ?_, b2, b3⟩
            rw [← b1]
            have e32 : sb (b k) = nI 32 := by rw [z5]; rfl
            show fb_X12_splits_7 n (zlp3 (fb_X12_splits_7 n) ff) 422 (nI len) (nI k) _ = _
            generalize zlp3 (fb_X12_splits_7 n) ff = kx
            unfold fb_X12_splits_7
            simp only [lit]
            simp (disch := omega) only [nLe, if_neg, ↓S_gR422_11 hs, ↓r_tp hs h z', e32, if_T, nI_add]
          · rw [if_neg z5]
            have n32 : ¬ sb (b k) = nI 32 := by
              intro e
              by_cases y : b k < 128
              · rw [show sb (b k) = nI (b k) from if_pos y] at e
                exact z5 (nI_inj (by omega) (by decide) e)
              · have := sb_neg (b k) hb (by omega)
                rw [e] at this
                exact absurd this (by decide)
            refine go (nI (100 + b k)) (upd u t (nI 0)) (k + 1) (100 + b k, k, k + 1) (by omega) (by omega) ?_ (fun j hj => upd_ne hj) rfl rfl (fun h5 => absurd h5 (by omega))
            show fb_X12_splits_7 n (zlp3 (fb_X12_splits_7 n) ff) 422 (nI len) (nI k) _ = _
            generalize zlp3 (fb_X12_splits_7 n) ff = kx
            unfold fb_X12_splits_7
            simp only [lit]
            simp (disch := omega) only [nLe, if_neg, ↓S_gR422_11 hs, ↓r_tp hs h z', n32, if_F, ↓q_let, nI_add, r_sml hb, zb_s, z3, tb0', if_T]
            unfold fb_X12_splits_68 fb_X12_splits_100 fb_X12_splits_165
            simp only [lit]
            simp (disch := omega) only [r_dgt hb, zb_s, z4, tb0', if_T, ↓S_gR422_17 hs, ↓S_gR422_15 hs, ↓S_gR422_16 hs, ↓r_gct hs, ↓r_ep hs, ↓r_ec hs, ↓r_eu hs, r_sml hb, z3, sb_and (b k) hb, r_val0 hb z4 (n := n)]
            unfold fb_X12_splits_247
            simp only [lit]
            simp (disch := omega) only [↓r_gct hs, ↓r_pct hs, nI_add]
end
