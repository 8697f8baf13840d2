/-! a text is read on both sides -/
def tD (len : Nat) (l : List (Nat × Nat × Nat)) (i : Nat) : Nat := (l.getD i (0, len, len)).1
def tP (len : Nat) (l : List (Nat × Nat × Nat)) (i : Nat) : Nat := (l.getD i (0, len, len)).2.1
def tV (b : Nat → Nat) (len : Nat) (l : List (Nat × Nat × Nat)) (i : Nat) : Nat := pC b ((l.getD i (0, len, len)).2.2 - (l.getD i (0, len, len)).2.1) (l.getD i (0, len, len)).2.1 0
def tU (b : Nat → Nat) (len : Nat) (l : List (Nat × Nat × Nat)) (i : Nat) : Nat := pR b ((l.getD i (0, len, len)).2.2 - (l.getD i (0, len, len)).2.1) (l.getD i (0, len, len)).2.1 0
def TkO (b : Nat → Nat) (len : Nat) (l : List (Nat × Nat × Nat)) : Prop := ∀ x, x ∈ l → x.1 < 356 ∧ x.2.1 ≤ len ∧ (x.1 = 50 → x.2.1 ≤ x.2.2 ∧ ∀ j, x.2.1 ≤ j → j < x.2.2 → isG (b j) = true)
theorem pTk_ok {b : Nat → Nat} {len : Nat} (hb : ∀ i, i < len → b i < 256) : ∀ (f k : Nat), k ≤ len → TkO b len (pTk b len f k)
  | 0, k, _ => fun x hx => absurd hx (by simp [pTk])
  | f + 1, k, h => by
    have cons : ∀ (e : Nat × Nat × Nat) (k' : Nat), k' ≤ len → (e.1 < 356 ∧ e.2.1 ≤ len ∧ (e.1 = 50 → e.2.1 ≤ e.2.2 ∧ ∀ j, e.2.1 ≤ j → j < e.2.2 → isG (b j) = true)) → TkO b len (e :: pTk b len f k') := by
      intro e k' hk' he x hx
      rcases List.mem_cons.mp hx with y | y
      · rw [y]; exact he
      · exact pTk_ok hb f k' hk' x y
    unfold pTk
    by_cases z : len ≤ k
    · rw [if_pos z]; exact fun x hx => absurd hx (by simp)
    · rw [if_neg z]
      have hbk := hb k (by omega)
      by_cases z1 : isL (b k) = true
      · rw [if_pos z1]
        have c := sc_le (q := isL) (b := b) (len := len) 401 k h
        have w := wd_lt (sg b (sc isL b len 401 k - k) k)
        exact cons _ _ c.2 ⟨by dsimp only; omega, h, fun e => by
          have e' : wd (sg b (sc isL b len 401 k - k) k) = 50 := e
          omega⟩
      · rw [if_neg z1]
        by_cases z2 : isG (b k) = true
        · rw [if_pos z2]
          have c := sc_le (q := isG) (b := b) (len := len) 401 k h
          exact cons _ _ c.2 ⟨show 50 < 356 by decide, h, fun _ => ⟨c.1, fun j h1 h2 => sc_all 401 k j h1 h2⟩⟩
        · rw [if_neg z2]
          by_cases z3 : b k = 32
          · rw [if_pos z3]; exact pTk_ok hb f (k + 1) (by omega)
          · rw [if_neg z3]
            exact cons _ _ (by omega) ⟨by dsimp only; omega, h, fun e => by
              have e' : 100 + b k = 50 := e
              omega⟩
theorem gd_in {α : Type} : ∀ (l : List α) (i : Nat) (d : α), i < l.length → l.getD i d ∈ l
  | [], i, d, h => absurd h (by simp)
  | x :: l, 0, d, _ => List.mem_cons_self
  | x :: l, i + 1, d, h => List.mem_cons_of_mem _ (gd_in l i d (by simpa using h))
theorem gd_out {α : Type} : ∀ (l : List α) (i : Nat) (d : α), l.length ≤ i → l.getD i d = d
  | [], i, d, _ => by cases i <;> rfl
  | x :: l, 0, d, h => absurd h (by simp)
  | x :: l, i + 1, d, h => gd_out l i d (by simpa using h)
theorem TLc_g {o : Bool} {b : Nat → Nat} {len : Nat} {k1 k2 k3 : Nat → Int32} : ∀ (l : List (Nat × Nat × Nat)) (t i : Nat), TLc o b len k1 k2 k3 t l → i ≤ l.length → k1 (t + i) = nI (kk o l.length (tD len l) i) ∧ k2 (t + i) = nI (tP len l i) ∧ (tD len l i = 50 → k3 (t + i) = nI (tV b len l i))
  | [], t, i, h, hi => by
    have e : i = 0 := by simpa using hi
    subst e
    exact ⟨h.1, h.2, fun z => absurd z (by simp [tD])⟩
  | x :: l, t, 0, h, _ => ⟨by
      have e : kk o (x :: l).length (tD len (x :: l)) 0 = km o x.1 := by
        unfold kk
        rw [if_pos (by simp)]
        rfl
      rw [e]; exact h.1.1, h.1.2.1, h.1.2.2⟩
  | x :: l, t, i + 1, h, hi => by
    have ih := TLc_g l (t + 1) i h.2 (by simpa using hi)
    have e1 : t + (i + 1) = t + 1 + i := by omega
    have e2 : kk o (x :: l).length (tD len (x :: l)) (i + 1) = kk o l.length (tD len l) i := by
      unfold kk
      have : (i + 1 < (x :: l).length) = (i < l.length) := by simp
      simp only [this]
      rfl
    rw [e1, e2]
    exact ih
theorem TLr_g {b : Nat → Nat} {len : Nat} {c u p : Nat → Int32} : ∀ (l : List (Nat × Nat × Nat)) (t i : Nat), TLr b len c u p t l → i ≤ l.length → c (t + i) = nI (tD len l i) ∧ p (t + i) = nI (tP len l i) ∧ (tD len l i = 50 → u (t + i) = nI (tU b len l i))
  | [], t, i, h, hi => by
    have e : i = 0 := by simpa using hi
    subst e
    exact ⟨h.1, h.2, fun z => absurd z (by simp [tD])⟩
  | x :: l, t, 0, h, _ => ⟨h.1.1, h.1.2.1, h.1.2.2⟩
  | x :: l, t, i + 1, h, hi => by
    have ih := TLr_g l (t + 1) i h.2 (by simpa using hi)
    have e1 : t + (i + 1) = t + 1 + i := by omega
    rw [e1]
    exact ih
section
variable {g : zS} {mi M : Nat → Nat → Int32} {ml : Nat → Nat → Int64} {n len : Nat} {b : Nat → Nat} {o : Bool} {l : List (Nat × Nat × Nat)}
theorem tk_f (h : TkO b len l) (hl : len ≤ 400) (i : Nat) : tD len l i < 356 ∧ tP len l i ≤ 400 ∧ (tD len l i = 50 → i < l.length ∧ (tV b len l i < 10000 → tU b len l i = tV b len l i) ∧ (10000 ≤ tV b len l i → 10000 ≤ tU b len l i) ∧ tV b len l i ≤ 10000 ∧ tU b len l i ≤ 10000009) := by
  unfold tD tP tV tU
  by_cases z : i < l.length
  · obtain ⟨h1, h2, h3⟩ := h _ (gd_in l i (0, len, len) z)
    refine ⟨h1, by omega, fun e => ⟨z, ?_⟩⟩
    obtain ⟨h4, h5⟩ := h3 e
    exact pCR _ _ 0 0 (fun j a1 a2 => h5 j a1 (by omega)) (fun _ => rfl) (fun x => absurd x (by decide)) (by decide) (by decide)
  · rw [gd_out l i _ (by omega)]
    exact ⟨show 0 < 356 by decide, hl, fun e => absurd e (show ¬ (0 = 50) by decide)⟩
theorem tc_of {k1 k2 k3 : Nat → Int32} {ct : Int32} (hT : TLc o b len k1 k2 k3 0 l) (h : TkO b len l) (hl : len ≤ 400) (hL : l.length ≤ 400) : TC o (Qs M ct k1 k2 k3) l.length (tD len l) (tV b len l) (tP len l) := by
  refine ⟨fun i hi => ?_, hL, ?_, fun i => (tk_f h hl i).1⟩
  · obtain ⟨e1, e2, e3⟩ := TLc_g l 0 i hT hi
    rw [Nat.zero_add] at e1 e2 e3
    exact ⟨e1, e2, fun e => ⟨e3 e, ((tk_f h hl i).2.2 e).2.2.2.1⟩⟩
  · unfold tD
    rw [gd_out l _ _ (Nat.le_refl _)]
theorem tr_of {c u p : Nat → Int32} {ct : Int32} (hT : TLr b len c u p 0 l) (h : TkO b len l) (hl : len ≤ 400) (hL : l.length ≤ 400) (h1 : M 422 10 = tB o) (h2 : M 422 8 = nI (if o then 13 else 7)) (h3 : M 422 9 = nI (if o then 19 else 13)) : TR o (Rs M ct c u p) l.length (tD len l) (tV b len l) (tP len l) := by
  refine ⟨fun i hi => ?_, ⟨hL, ?_, fun i => by have := (tk_f h hl i).1; omega⟩, h1, h2, h3⟩
  · obtain ⟨e1, e2, e3⟩ := TLr_g l 0 i hT hi
    rw [Nat.zero_add] at e1 e2 e3
    obtain ⟨f1, f2, f3⟩ := tk_f h hl i
    refine ⟨e1, e2, f2, fun e hv => ?_, fun e hv => ?_⟩
    · have := (f3 e).2.1 (by omega)
      rw [← this]; exact e3 e
    · have e4 : (Rs M ct c u p) 432 i = nI (tU b len l i) := e3 e
      obtain ⟨-, g1, g2, g3, g4⟩ := f3 e
      rw [e4, nLt (by decide) (by omega)]
      by_cases y : tV b len l i < 10000
      · rw [g1 y]; omega
      · have := g2 (by omega); omega
  · unfold tD
    rw [gd_out l _ _ (Nat.le_refl _)]
end
