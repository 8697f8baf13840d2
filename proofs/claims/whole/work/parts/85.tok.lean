/-! the Java side cuts the tape: the loop -/
theorem wdx_b : ∀ (l : List (List Nat)) (i : Nat) (s : List Nat), wdx l i s = 0 ∨ wdx l i s < i + l.length
  | [], i, s => Or.inl rfl
  | w :: l, i, s => by
    unfold wdx
    by_cases z : s = w
    · rw [if_pos z]; exact Or.inr (by simp)
    · rw [if_neg z]
      rcases wdx_b l (i + 1) s with y | y
      · exact Or.inl y
      · exact Or.inr (by simp; omega)
theorem wd_lt (s : List Nat) : wd s < 30 := by
  rcases wdx_b WS 1 s with y | y
  · have : wd s = 0 := y
    omega
  · exact y
section
variable {g : zS} {M : Nat → Nat → Int32} {ml : Nat → Nat → Int64} {n len : Nat} {b : Nat → Nat} {o : Bool}
theorem q_add {k1 k2 k3 : Nat → Int32} (hs : Sy g) {t : Nat} (ht : t < 401) {x y z : Int32} : f_X9_add n 415 x y z (g, Qs M (nI t) k1 k2 k3, ml) = some ((), (g, Qs M (nI (t + 1)) (upd k1 t x) (upd k2 t y) (upd k3 t z), ml)) := by
  unfold f_X9_add
  simp only [lit]
  simp (disch := omega) only [↓q_gct hs, ↓iLe0, ↓S_gR415_0 hs, ↓S_gR415_1 hs, ↓S_gR415_2 hs, ↓q_e1 hs, ↓q_e2 hs, ↓q_e3 hs, ↓q_pct hs, nI_add]
theorem q_scl (hs : Sy g) (h : TPc M b len) {k10 : Nat → Nat → Int32 → Int32 → Int32 → zH → Option (Unit × zH)} {x rd st ct : Int32} {k1 k2 k3 : Nat → Int32} : ∀ (f i ff : Nat), i ≤ len → len < i + f → len < i + ff → zlp6 (fb_X9_split_44 n k10) ff 415 408 x (nI i) rd st (g, Qs M ct k1 k2 k3, ml) = fb_X9_split_69 n k10 415 408 x (nI (sc isL b len f i)) rd st (g, Qs M ct k1 k2 k3, ml)
  | 0, i, ff, h1, h2, _ => absurd h2 (by omega)
  | f + 1, i, 0, h1, _, h2 => absurd h2 (by omega)
  | f + 1, i, ff + 1, hi, hf, hff => by
    have hl := h.2.1
    show fb_X9_split_44 n k10 (zlp6 (fb_X9_split_44 n k10) ff) 415 408 x (nI i) rd st _ = _
    unfold sc
    by_cases z : i < len
    · have hb := (h.2.2 i z).2
      by_cases z2 : isL (b i) = true
      · rw [if_pos ⟨z, z2⟩]
        have ih := q_scl hs h (k10 := k10) (x := x) (rd := rd) (st := st) (ct := ct) (k1 := k1) (k2 := k2) (k3 := k3) f (i + 1) ff (by omega) (by omega) (by omega)
        rw [← ih]
        generalize zlp6 (fb_X9_split_44 n k10) ff = kx
        unfold fb_X9_split_44
        simp only [lit]
        simp (disch := omega) only [↓q_len hs h, ↓iLe0, q_byte hs h z, zb_s, q_let' hb, z2, tb1, nEq, if_neg, nI_add]
      · rw [if_neg (fun y => z2 y.2)]
        have z3 : isL (b i) = false := by simpa using z2
        generalize zlp6 (fb_X9_split_44 n k10) ff = kx
        generalize hG : fb_X9_split_69 n k10 415 408 x (nI i) rd st (g, Qs M ct k1 k2 k3, ml) = G
        unfold fb_X9_split_44
        simp only [lit]
        simp (disch := omega) only [↓q_len hs h, ↓iLe0, q_byte hs h z, zb_s, q_let' hb, z3, tb0', if_T, hG]
    · rw [if_neg (fun y => z y.1)]
      generalize zlp6 (fb_X9_split_44 n k10) ff = kx
      generalize hG : fb_X9_split_69 n k10 415 408 x (nI i) rd st (g, Qs M ct k1 k2 k3, ml) = G
      unfold fb_X9_split_44
      simp only [lit]
      simp (disch := omega) only [↓q_len hs h, nLe, if_pos, hG]
theorem q_scd (hs : Sy g) (h : TPc M b len) {k10 : Nat → Nat → Int32 → Int32 → Int32 → zH → Option (Unit × zH)} {x rd st ct : Int32} {k1 k2 k3 : Nat → Int32} : ∀ (f i ff a : Nat), i ≤ len → len < i + f → len < i + ff → a ≤ 10000 → zlp7 (fb_X9_split_98 n k10) ff 415 408 x (nI i) rd st (nI a) (g, Qs M ct k1 k2 k3, ml) = fb_X9_split_145 n k10 415 408 x (nI (sc isG b len f i)) rd st (nI (pC b (sc isG b len f i - i) i a)) (g, Qs M ct k1 k2 k3, ml)
  | 0, i, ff, a, h1, h2, _, _ => absurd h2 (by omega)
  | f + 1, i, 0, a, h1, _, h2, _ => absurd h2 (by omega)
  | f + 1, i, ff + 1, a, hi, hf, hff, ha => by
    have hl := h.2.1
    show fb_X9_split_98 n k10 (zlp7 (fb_X9_split_98 n k10) ff) 415 408 x (nI i) rd st (nI a) _ = _
    unfold sc
    by_cases z : i < len
    · have hb := (h.2.2 i z).2
      by_cases z2 : isG (b i) = true
      · rw [if_pos ⟨z, z2⟩]
        have z4 : 48 ≤ b i ∧ b i ≤ 57 := by simpa [isG] using z2
        have c := (sc_le (q := isG) (b := b) (len := len) f (i + 1) (by omega)).1
        have e1 : sc isG b len f (i + 1) - i = (sc isG b len f (i + 1) - (i + 1)) + 1 := by omega
        have ih := q_scd hs h (k10 := k10) (x := x) (rd := rd) (st := st) (ct := ct) (k1 := k1) (k2 := k2) (k3 := k3) f (i + 1) ff (if 10 * a + b i - 48 < 10000 then 10 * a + b i - 48 else 10000) (by omega) (by omega) (by omega) (by split <;> omega)
        rw [e1]
        unfold pC
        rw [← ih]
        generalize zlp7 (fb_X9_split_98 n k10) ff = kx
        have e2 : nI 10 * nI a + nI (b i) - nI 48 = nI (10 * a + b i - 48) := by
          rw [pk_mul, nI_add, nI_sub (by omega)]
        have e3 : ∀ H : zH, f_J9_min_7cf53 n (nI 10000) (nI (10 * a + b i - 48)) H = some (nI (if 10 * a + b i - 48 < 10000 then 10 * a + b i - 48 else 10000), H) := by
          intro H
          unfold f_J9_min_7cf53
          by_cases y : 10 * a + b i - 48 < 10000
          · rw [iLt1 (by omega) (by omega) y, if_pos y]
          · rw [iLt0 (by omega) (by omega) (by omega), if_neg y]
        unfold fb_X9_split_98
        simp only [lit]
        simp (disch := omega) only [↓q_len hs h, ↓iLe0, q_byte hs h z, zb_s, q_dig hb, z2, tb1, nEq, if_neg, e2, e3, nI_add]
      · rw [if_neg (fun y => z2 y.2), Nat.sub_self]
        have z3 : isG (b i) = false := by simpa using z2
        generalize zlp7 (fb_X9_split_98 n k10) ff = kx
        unfold pC
        generalize hG : fb_X9_split_145 n k10 415 408 x (nI i) rd st (nI a) (g, Qs M ct k1 k2 k3, ml) = G
        unfold fb_X9_split_98
        simp only [lit]
        simp (disch := omega) only [↓q_len hs h, ↓iLe0, q_byte hs h z, zb_s, q_dig hb, z3, tb0', if_T, hG]
    · rw [if_neg (fun y => z y.1), Nat.sub_self]
      generalize zlp7 (fb_X9_split_98 n k10) ff = kx
      unfold pC
      generalize hG : fb_X9_split_145 n k10 415 408 x (nI i) rd st (nI a) (g, Qs M ct k1 k2 k3, ml) = G
      unfold fb_X9_split_98
      simp only [lit]
      simp (disch := omega) only [↓q_len hs h, nLe, if_pos, hG]
theorem q_word (hs : Sy g) (h : TPc M b len) (hn : 3000 < n) {k to : Nat} (hk : k ≤ to) (ht : to ≤ len) {ct : Int32} {k1 k2 k3 : Nat → Int32} : f_X9_wordFrom n 408 (nI k) (nI to) (tB o) (g, Qs M ct k1 k2 k3, ml) = some (nI (km o (wd (sg b (to - k) k))), (g, Qs M ct k1 k2 k3, ml)) := by
  cases o
  · exact q_wl hs h hn hk ht
  · exact q_wo hs h hn hk ht
theorem q_lp (hs : Sy g) (h : TPc M b len) (hn : 3000 < n) : ∀ (f k t rd ff : Nat) (k1 k2 k3 : Nat → Int32), k ≤ len → len < k + f → len < k + ff → rd ≤ k → t ≤ k → ∃ k1' k2' k3', zlp5 (fb_X9_split_10 n) ff 415 408 (tB o) (nI k) (nI rd) (g, Qs M (nI t) k1 k2 k3, ml) = some ((), (g, Qs M (nI (t + (pTk b len f k).length + 1)) k1' k2' k3', ml)) ∧ (∀ j, j < t → k1' j = k1 j ∧ k2' j = k2 j ∧ k3' j = k3 j) ∧ TLc o b len k1' k2' k3' t (pTk b len f k)
  | 0, k, t, rd, ff, k1, k2, k3, h1, h2, _, _, _ => absurd h2 (by omega)
  | f + 1, k, t, rd, 0, k1, k2, k3, h1, _, h2, _, _ => absurd h2 (by omega)
  | f + 1, k, t, rd, ff + 1, k1, k2, k3, hk, hf, hff, hr, ht => by
    have hl := h.2.1
    have e193 : fb_X9_split_193 n 415 408 (g, Qs M (nI t) k1 k2 k3, ml) = some ((), (g, Qs M (nI (t + 1)) (upd k1 t (nI 0)) (upd k2 t (nI len)) (upd k3 t (nI 0)), ml)) := by
      unfold fb_X9_split_193
      simp only [lit]
      simp (disch := omega) only [↓q_len hs h, ↓S_ck415 hs, q_add hs, zb_s]
    unfold pTk
    by_cases z : len ≤ k
    · rw [if_pos z]
      refine ⟨upd k1 t (nI 0), upd k2 t (nI len), upd k3 t (nI 0), ?_, fun j hj => ⟨upd_ne (by omega), upd_ne (by omega), upd_ne (by omega)⟩, upd_eq, upd_eq⟩
      rw [show t + ([] : List (Nat × Nat × Nat)).length + 1 = t + 1 from rfl, ← e193]
      show fb_X9_split_10 n (zlp5 (fb_X9_split_10 n) ff) 415 408 (tB o) (nI k) (nI rd) _ = _
      generalize zlp5 (fb_X9_split_10 n) ff = kx
      generalize hG : fb_X9_split_193 n 415 408 (g, Qs M (nI t) k1 k2 k3, ml) = G
      unfold fb_X9_split_10
      simp only [lit]
      by_cases y : 400 ≤ rd
      · simp (disch := omega) only [nLe, if_pos, hG]
      · simp (disch := omega) only [nLe, if_neg, ↓q_len hs h, if_pos, hG]
    · rw [if_neg z]
      have z' : k < len := by omega
      have hb := (h.2.2 k z').2
      -- a token is added, the loop goes on
      have go : ∀ (x y' v' : Int32) (k' : Nat) (e : Nat × Nat × Nat), k < k' → k' ≤ len → zlp5 (fb_X9_split_10 n) (ff + 1) 415 408 (tB o) (nI k) (nI rd) (g, Qs M (nI t) k1 k2 k3, ml) = zlp5 (fb_X9_split_10 n) ff 415 408 (tB o) (nI k') (nI (rd + 1)) (g, Qs M (nI (t + 1)) (upd k1 t x) (upd k2 t y') (upd k3 t v'), ml) → x = nI (km o e.1) → y' = nI e.2.1 → (e.1 = 50 → v' = nI (pC b (e.2.2 - e.2.1) e.2.1 0)) → ∃ k1' k2' k3', zlp5 (fb_X9_split_10 n) (ff + 1) 415 408 (tB o) (nI k) (nI rd) (g, Qs M (nI t) k1 k2 k3, ml) = some ((), (g, Qs M (nI (t + (e :: pTk b len f k').length + 1)) k1' k2' k3', ml)) ∧ (∀ j, j < t → k1' j = k1 j ∧ k2' j = k2 j ∧ k3' j = k3 j) ∧ TLc o b len k1' k2' k3' t (e :: pTk b len f k') := by
        intro x y' v' k' e g1 g2 g3 g4 g5 g6
        obtain ⟨a1, a2, a3, b1, b2, b3⟩ := q_lp hs h hn f k' (t + 1) (rd + 1) ff (upd k1 t x) (upd k2 t y') (upd k3 t v') g2 (by omega) (by omega) (by omega) (by omega)
        have e1 : t + (e :: pTk b len f k').length + 1 = t + 1 + (pTk b len f k').length + 1 := by simp; omega
        refine ⟨a1, a2, a3, by rw [g3, b1, e1], fun j hj => ?_, ⟨?_, ?_, ?_⟩, b3⟩
        · obtain ⟨c1, c2, c3⟩ := b2 j (by omega)
          rw [c1, c2, c3]
          exact ⟨upd_ne (by omega), upd_ne (by omega), upd_ne (by omega)⟩
        · rw [(b2 t (by omega)).1, upd_eq, g4]
        · rw [(b2 t (by omega)).2.1, upd_eq, g5]
        · intro h5
          rw [(b2 t (by omega)).2.2, upd_eq, g6 h5]
      by_cases z1 : isL (b k) = true
      · rw [if_pos z1]
        have a : k < sc isL b len 401 k := sc_gt (f := 400) z' z1
        have c := (sc_le (q := isL) (b := b) (len := len) 401 k hk).2
        refine go (nI (km o (wd (sg b (sc isL b len 401 k - k) k)))) (nI k) (nI 0) (sc isL b len 401 k) (wd (sg b (sc isL b len 401 k - k) k), k, sc isL b len 401 k) a c ?_ rfl rfl (fun h5 => ?_)
        · show fb_X9_split_10 n (zlp5 (fb_X9_split_10 n) ff) 415 408 (tB o) (nI k) (nI rd) _ = _
          generalize zlp5 (fb_X9_split_10 n) ff = kx
          have e1 := q_scl hs h (k10 := kx) (x := tB o) (rd := nI rd) (st := nI k) (ct := nI t) (k1 := k1) (k2 := k2) (k3 := k3) (n := n) (ml := ml) 401 k n hk (by omega) (by omega)
          unfold fb_X9_split_10
          simp only [lit]
          simp (disch := omega) only [nLe, if_neg, ↓q_len hs h, q_byte hs h z', zb_s, q_let' hb, z1, tb1, nEq]
          refine e1.trans ?_
          unfold fb_X9_split_69 fb_X9_split_187
          simp only [lit]
          simp (disch := omega) only [q_word hs h hn, zb_s, ↓S_ck415 hs, q_add hs, nI_add]
        · have := wd_lt (sg b (sc isL b len 401 k - k) k)
          have h5' : wd (sg b (sc isL b len 401 k - k) k) = 50 := h5
          omega
      · rw [if_neg z1]
        have z3 : isL (b k) = false := by simpa using z1
        by_cases z2 : isG (b k) = true
        · rw [if_pos z2]
          have a : k < sc isG b len 401 k := sc_gt (f := 400) z' z2
          have c := (sc_le (q := isG) (b := b) (len := len) 401 k hk).2
          refine go (nI 1) (nI k) (nI (pC b (sc isG b len 401 k - k) k 0)) (sc isG b len 401 k) (50, k, sc isG b len 401 k) a c ?_ (by cases o <;> rfl) rfl (fun _ => rfl)
          show fb_X9_split_10 n (zlp5 (fb_X9_split_10 n) ff) 415 408 (tB o) (nI k) (nI rd) _ = _
          generalize zlp5 (fb_X9_split_10 n) ff = kx
          have e1 := q_scd hs h (k10 := kx) (x := tB o) (rd := nI rd) (st := nI k) (ct := nI t) (k1 := k1) (k2 := k2) (k3 := k3) (n := n) (ml := ml) 401 k n 0 hk (by omega) (by omega) (by decide)
          unfold fb_X9_split_10
          simp only [lit]
          simp (disch := omega) only [nLe, if_neg, ↓q_len hs h, q_byte hs h z', zb_s, q_let' hb, z3, tb0', if_T, q_dig hb, z2, tb1, nEq]
          refine e1.trans ?_
          unfold fb_X9_split_145 fb_X9_split_187
          simp only [lit]
          simp (disch := omega) only [↓S_ck415 hs, q_add hs, zb_s, nI_add]
        · rw [if_neg z2]
          have z4 : isG (b k) = false := by simpa using z2
          by_cases z5 : b k = 32
          · rw [if_pos z5]
            obtain ⟨a1, a2, a3, b1, b2, b3⟩ := q_lp hs h hn f (k + 1) t (rd + 1) ff k1 k2 k3 (by omega) (by omega) (by omega) (by omega) (by omega)
            refine ⟨a1, a2, a3, ?_, b2, b3⟩
            rw [← b1]
            show fb_X9_split_10 n (zlp5 (fb_X9_split_10 n) ff) 415 408 (tB o) (nI k) (nI rd) _ = _
            generalize zlp5 (fb_X9_split_10 n) ff = kx
            unfold fb_X9_split_10 fb_X9_split_187
            simp only [lit]
            simp (disch := omega) only [nLe, if_neg, ↓q_len hs h, q_byte hs h z', zb_s, q_let' hb, z3, tb0', if_T, q_dig hb, z4, nEq, eq_true z5, nI_add]
          · rw [if_neg z5]
            refine go (nI (km o (100 + b k))) (nI k) (nI 0) (k + 1) (100 + b k, k, k + 1) (by omega) (by omega) ?_ rfl rfl (fun h5 => absurd h5 (by omega))
            have e0 : km o (100 + b k) = if b k ≤ 32 then 2 else b k := by
              unfold km
              rw [if_pos (by omega)]
              by_cases y : b k ≤ 32
              · rw [if_neg (by omega), if_pos y]
              · rw [if_pos (by omega), if_neg y]; omega
            rw [e0]
            show fb_X9_split_10 n (zlp5 (fb_X9_split_10 n) ff) 415 408 (tB o) (nI k) (nI rd) _ = _
            generalize zlp5 (fb_X9_split_10 n) ff = kx
            unfold fb_X9_split_10 fb_X9_split_181 fb_X9_split_187
            simp only [lit]
            by_cases y : b k ≤ 32
            · simp (disch := omega) only [nLe, if_neg, ↓q_len hs h, q_byte hs h z', zb_s, q_let' hb, z3, tb0', if_T, q_dig hb, z4, nEq, z5, if_F, y, ↓S_ck415 hs, q_add hs, nI_add]
            · simp (disch := omega) only [nLe, if_neg, ↓q_len hs h, q_byte hs h z', zb_s, q_let' hb, z3, tb0', if_T, q_dig hb, z4, nEq, z5, if_F, y, ↓S_ck415 hs, q_add hs, nI_add]
end
