/-! the two languages, read as plain functions of the row of tokens (D: the numbers of words and signs, V: of numbers) -/
abbrev DS : Type := (Nat → Int32) → Option Int64
abbrev DT : Type := (Nat → Int32) → Option Bool
abbrev RS : Type := Except Nat (Nat × Nat × List (Nat × Nat) × DS)
abbrev RT : Type := Except Nat (Nat × Nat × Nat × (Nat → List (Nat × Nat)) × DT)
def bnd (x : Int64) : Option Int64 := if 0 < lg_cmp x 1000000000 then none else if 0 ≤ lg_cmp x (-1000000000) then some x else none
def bop (s : Nat) (a b : Int64) : Option Int64 :=
  if s = 43 then bnd (a + b) else if s = 45 then bnd (a - b) else if s = 42 then bnd (a * b) else if b = 0 then none else if s = 47 then bnd (a / b) else bnd (a - a / b * b)
def bin (s : Nat) (d d' : DS) : DS := fun e => match d e with
  | none => none
  | some a => match d' e with
    | none => none
    | some b => bop s a b
def cpr (s : Nat) (a b : Int64) : Bool := if s = 60 then decide (lg_cmp a b < 0) else if s = 62 then decide (0 < lg_cmp a b) else decide (lg_cmp a b = 0)
def cmpD (s : Nat) (d d' : DS) : DT := fun e => match d e with
  | none => none
  | some a => match d' e with
    | none => none
    | some b => some (cpr s a b)
def cmb (x : Bool) (d d' : DT) : DT := fun e => match d e with
  | none => none
  | some b => if b = x then some x else d' e
def isWd (o : Bool) (d : Nat) : Bool := if o then decide (13 ≤ d) && decide (d ≤ 17) else decide (7 ≤ d) && decide (d ≤ 13)
def wi (o : Bool) (d : Nat) : Nat := if o then d - 13 else if d = 12 then 6 else if d = 13 then 5 else d - 7
def isTi (d : Nat) : Bool := d == 142 || d == 147 || d == 137
def isLo (d : Nat) : Bool := d == 143 || d == 145
section
variable (o : Bool) (D V : Nat → Nat)
def pPart (sub : Nat → Nat → RS) (i p : Nat) : RS :=
  if D i = 191 then match sub (i + 1) p with
    | .error q => .error q
    | .ok (j, p', c, d) => if D j = 193 then .ok (j + 1, p', c, d) else .error j
  else if 50 ≤ p then .error i
  else if isWd o (D i) = true then .ok (i + 1, p + 1, [(1, wi o (D i))], fun e => some (e (wi o (D i))).toInt64)
  else if o = true ∧ D i = 18 then (if D (i + 1) = 50 ∧ V (i + 1) ≤ 7 then .ok (i + 2, p + 1, [(1, 5 + V (i + 1))], fun e => some (e (5 + V (i + 1))).toInt64) else .error (i + 1))
  else if o = true ∧ D i = 19 then (if D (i + 1) = 50 ∧ V (i + 1) ≤ 99 then .ok (i + 2, p + 1, [(1, 13 + V (i + 1))], fun e => some (e (13 + V (i + 1))).toInt64) else .error (i + 1))
  else if D i = 50 ∧ V i ≤ 1000 then .ok (i + 1, p + 1, [(0, V i)], fun _ => some (nI (V i)).toInt64)
  else .error i
def pLp (sub : Nat → Nat → RS) (op : Nat → Bool) : Nat → Nat × Nat × List (Nat × Nat) × DS → RS
  | 0, x => .ok x
  | f + 1, (i, p, c, d) => if op (D i) = true then match sub (i + 1) p with
      | .error q => .error q
      | .ok (j, p', c', d') => pLp sub op f (j, p', c ++ c' ++ [(D i - 100, 0)], bin (D i - 100) d d')
    else .ok (i, p, c, d)
def pCh (sub : Nat → Nat → RS) (op : Nat → Bool) (i p : Nat) : RS := match sub i p with
  | .error q => .error q
  | .ok x => pLp D sub op 401 x
def pTm (part : Nat → Nat → RS) : Nat → Nat → RS := pCh D part isTi
def pSm (part : Nat → Nat → RS) : Nat → Nat → RS := pCh D (pTm D part) isLo
def pSum : Nat → Nat → Nat → RS
  | 0 => pSm D (pPart o D V (fun i _ => .error (i - 1)))
  | r + 1 => pSm D (pPart o D V (pSum r))
def pPt (r : Nat) : Nat → Nat → RS := pPart o D V (match r with
  | 0 => fun i _ => .error (i - 1)
  | r + 1 => pSum o D V r)
theorem pSum_e (r : Nat) : pSum o D V r = pSm D (pPt o D V r) := by
  cases r <;> rfl
def pNots : Nat → Nat → Bool → Nat × Bool
  | 0, i, b => (i, b)
  | f + 1, i, b => if D i = 6 then pNots f (i + 1) (!b) else (i, b)
def pFin (b : Bool) (j p ln : Nat) (c : Nat → List (Nat × Nat)) (d : DT) : RT := if b = true then .ok (j, p, ln + 1, fun L => c L ++ [(2, 0)], fun e => (d e).map (fun x => !x)) else .ok (j, p, ln, c, d)
def pPos (sub : Nat → Nat → RT) (sum : Nat → Nat → RS) (b : Bool) (i p : Nat) : RT :=
  if D i = 140 then match sub (i + 1) p with
    | .error q => .error q
    | .ok (j, p', ln, c, d) => if D j = 141 then pFin b (j + 1) p' ln c d else .error j
  else match sum i p with
    | .error q => .error q
    | .ok (j, p1, c1, d1) => if D j = 160 ∨ D j = 162 ∨ D j = 161 then match sum (j + 1) p1 with
        | .error q => .error q
        | .ok (j2, p2, c2, d2) => pFin b j2 p2 (c1.length + c2.length + 1) (fun _ => c1 ++ c2 ++ [(D j - 100, 0)]) (cmpD (D j - 100) d1 d2)
      else .error j
def pPln (sub : Nat → Nat → RT) (sum : Nat → Nat → RS) (i p : Nat) : RT := pPos D sub sum (pNots D 401 i false).2 (pNots D 401 i false).1 p
/-- a row of tests that are joined by a word (t: the word, s: the step that goes past, x: what goes past) -/
def pJp (sub : Nat → Nat → RT) (t s : Nat) (x : Bool) : Nat → Nat × Nat × Nat × (Nat → List (Nat × Nat)) × DT → RT
  | 0, y => .ok y
  | f + 1, (i, p, ln, c, d) => if D i = t then match sub (i + 1) p with
      | .error q => .error q
      | .ok (j, p', ln', c', d') => pJp sub t s x f (j, p', ln + 1 + ln', fun L => c L ++ (s, L + ln + 1 + ln') :: c' (L + ln + 1), cmb x d d')
    else .ok (i, p, ln, c, d)
def pJn (sub : Nat → Nat → RT) (t s : Nat) (x : Bool) (i p : Nat) : RT := match sub i p with
  | .error q => .error q
  | .ok y => pJp D sub t s x 401 y
def pBo (sub : Nat → Nat → RT) (sum : Nat → Nat → RS) : Nat → Nat → RT := pJn D (pPln D sub sum) 5 4 false
def pTs (sub : Nat → Nat → RT) (sum : Nat → Nat → RS) : Nat → Nat → RT := pJn D (pBo D sub sum) 4 3 true
def pTest : Nat → Nat → Nat → RT
  | 0 => pTs D (fun i _ => .error (i - 1)) (pSum o D V 0)
  | r + 1 => pTs D (pTest r) (pSum o D V (r + 1))
def pSb (r : Nat) : Nat → Nat → RT := match r with
  | 0 => fun i _ => .error (i - 1)
  | r + 1 => pTest o D V r
theorem pTest_e (r : Nat) : pTest o D V r = pTs D (pSb o D V r) (pSum o D V r) := by
  cases r <;> rfl
end
/-! what a reading gives: where it ends, how many parts, how long the code is -/
def OkS (T : Nat) (sub : Nat → Nat → RS) : Prop := ∀ i p j p' c d, i ≤ T → p ≤ 50 → sub i p = .ok (j, p', c, d) → i < j ∧ j ≤ T ∧ p < p' ∧ p' ≤ 50 ∧ 0 < c.length ∧ c.length ≤ j - i
def OkT (T : Nat) (sub : Nat → Nat → RT) : Prop := ∀ i p j p' ln c d, i ≤ T → p ≤ 50 → sub i p = .ok (j, p', ln, c, d) → i < j ∧ j ≤ T ∧ p < p' ∧ p' ≤ 50 ∧ 0 < ln ∧ ln ≤ j - i ∧ ∀ L, (c L).length = ln
section
variable {o : Bool} {D V : Nat → Nat} {T : Nat}
theorem ok_part (hT : D T = 0) {sub : Nat → Nat → RS} (hs : OkS T sub) : OkS T (pPart o D V sub) := by
  intro i p j p' c d hi hp h
  have hne : ∀ k, k ≤ T → D k ≠ 0 → k < T := fun k h1 h2 => by
    rcases Nat.lt_or_eq_of_le h1 with q | q
    · exact q
    · exact absurd (by rw [q]; exact hT) h2
  unfold pPart at h
  by_cases q1 : D i = 191
  · rw [if_pos q1] at h
    have hi' := hne i hi (by omega)
    cases hc : sub (i + 1) p with
    | error q => rw [hc] at h; exact absurd h (by simp)
    | ok x =>
      obtain ⟨j1, p1, c1, d1⟩ := x
      rw [hc] at h
      obtain ⟨a1, a2, a3, a4, a5, a6⟩ := hs _ _ _ _ _ _ (by omega) hp hc
      dsimp only at h
      by_cases q2 : D j1 = 193
      · rw [if_pos q2] at h
        have := hne j1 a2 (by omega)
        injection h with h
        obtain ⟨e1, e2, e3, e4⟩ := h
        refine ⟨by omega, by omega, a3, a4, a5, by omega⟩
      · rw [if_neg q2] at h; exact absurd h (by simp)
  · rw [if_neg q1] at h
    by_cases q2 : 50 ≤ p
    · rw [if_pos q2] at h; exact absurd h (by simp)
    · rw [if_neg q2] at h
      have fin : ∀ k c0 d0, D i ≠ 0 → D (i + k) ≠ 0 → k < 2 → (Except.ok (i + 1 + k, p + 1, [c0], d0) : RS) = .ok (j, p', c, d) → i < j ∧ j ≤ T ∧ p < p' ∧ p' ≤ 50 ∧ 0 < c.length ∧ c.length ≤ j - i := by
        intro k c0 d0 hk hk1 hk2 h
        injection h with h
        obtain ⟨e1, e2, e3, e4⟩ := h
        have := hne i hi hk
        have := hne (i + k) (by omega) hk1
        refine ⟨by omega, by omega, by omega, by omega, ?_, ?_⟩
        · simp
        · simp; omega
      by_cases q3 : isWd o (D i) = true
      · rw [if_pos q3] at h
        have : D i ≠ 0 := fun e => by rw [e] at q3; cases o <;> exact absurd q3 (by decide)
        exact fin 0 _ _ this this (by decide) h
      · rw [if_neg q3] at h
        by_cases q4 : o = true ∧ D i = 18
        · rw [if_pos q4] at h
          by_cases q5 : D (i + 1) = 50 ∧ V (i + 1) ≤ 7
          · rw [if_pos q5] at h
            exact fin 1 _ _ (by omega) (by omega) (by decide) h
          · rw [if_neg q5] at h; exact absurd h (by simp)
        · rw [if_neg q4] at h
          by_cases q6 : o = true ∧ D i = 19
          · rw [if_pos q6] at h
            by_cases q5 : D (i + 1) = 50 ∧ V (i + 1) ≤ 99
            · rw [if_pos q5] at h
              exact fin 1 _ _ (by omega) (by omega) (by decide) h
            · rw [if_neg q5] at h; exact absurd h (by simp)
          · rw [if_neg q6] at h
            by_cases q7 : D i = 50 ∧ V i ≤ 1000
            · rw [if_pos q7] at h
              exact fin 0 _ _ (by omega) (by simpa using (by omega : D i ≠ 0)) (by decide) h
            · rw [if_neg q7] at h; exact absurd h (by simp)
theorem ok_lp (hT : D T = 0) {sub : Nat → Nat → RS} (hs : OkS T sub) {op : Nat → Bool} (ho : op 0 = false) : ∀ (f i0 p0 i p : Nat) (c : List (Nat × Nat)) (d : DS) (j p' : Nat) (c' : List (Nat × Nat)) (d' : DS), i0 < i → i ≤ T → p0 < p → p ≤ 50 → 0 < c.length → c.length ≤ i - i0 → pLp D sub op f (i, p, c, d) = .ok (j, p', c', d') → i0 < j ∧ j ≤ T ∧ p0 < p' ∧ p' ≤ 50 ∧ 0 < c'.length ∧ c'.length ≤ j - i0
  | 0, i0, p0, i, p, c, d, j, p', c', d', h1, h2, h3, h4, h5, h6, h => by
    injection h with h
    obtain ⟨e1, e2, e3, e4⟩ := h
    exact ⟨by omega, by omega, by omega, by omega, by omega, by omega⟩
  | f + 1, i0, p0, i, p, c, d, j, p', c', d', h1, h2, h3, h4, h5, h6, h => by
    unfold pLp at h
    by_cases q : op (D i) = true
    · rw [if_pos q] at h
      have hi : i < T := by
        rcases Nat.lt_or_eq_of_le h2 with z | z
        · exact z
        · rw [z, hT, ho] at q; exact absurd q (by decide)
      cases hc : sub (i + 1) p with
      | error q => rw [hc] at h; exact absurd h (by simp)
      | ok x =>
        obtain ⟨j1, p1, c1, d1⟩ := x
        rw [hc] at h
        obtain ⟨a1, a2, a3, a4, a5, a6⟩ := hs _ _ _ _ _ _ (by omega) h4 hc
        exact ok_lp hT hs ho f i0 p0 j1 p1 _ _ j p' c' d' (by omega) a2 (by omega) a4 (by simp; omega) (by simp; omega) h
    · rw [if_neg q] at h
      injection h with h
      obtain ⟨e1, e2, e3, e4⟩ := h
      exact ⟨by omega, by omega, by omega, by omega, by omega, by omega⟩
theorem ok_ch (hT : D T = 0) {sub : Nat → Nat → RS} (hs : OkS T sub) {op : Nat → Bool} (ho : op 0 = false) : OkS T (pCh D sub op) := by
  intro i p j p' c d hi hp h
  unfold pCh at h
  cases hc : sub i p with
  | error q => rw [hc] at h; exact absurd h (by simp)
  | ok x =>
    obtain ⟨j1, p1, c1, d1⟩ := x
    rw [hc] at h
    obtain ⟨a1, a2, a3, a4, a5, a6⟩ := hs _ _ _ _ _ _ hi hp hc
    exact ok_lp hT hs ho 401 i p j1 p1 c1 d1 j p' c d a1 a2 a3 a4 a5 a6 h
theorem ok_e {T : Nat} : OkS T (fun i _ => .error (i - 1)) := fun _ _ _ _ _ _ _ _ h => absurd h (by simp)
theorem ok_sum (hT : D T = 0) : ∀ r, OkS T (pSum o D V r)
  | 0 => ok_ch hT (ok_ch hT (ok_part hT ok_e) rfl) rfl
  | r + 1 => ok_ch hT (ok_ch hT (ok_part hT (ok_sum hT r)) rfl) rfl
theorem ok_pt (hT : D T = 0) : ∀ r, OkS T (pPt o D V r)
  | 0 => ok_part hT ok_e
  | r + 1 => ok_part hT (ok_sum hT r)
theorem ok_nots (hT : D T = 0) : ∀ (f i : Nat) (b : Bool), i ≤ T → i ≤ (pNots D f i b).1 ∧ (pNots D f i b).1 ≤ T ∧ ((pNots D f i b).2 = b ∨ i < (pNots D f i b).1)
  | 0, i, b, h => ⟨Nat.le_refl _, h, Or.inl rfl⟩
  | f + 1, i, b, h => by
    unfold pNots
    by_cases q : D i = 6
    · rw [if_pos q]
      have hi : i < T := by
        rcases Nat.lt_or_eq_of_le h with z | z
        · exact z
        · rw [z, hT] at q; exact absurd q (by decide)
      obtain ⟨a, b', c⟩ := ok_nots hT f (i + 1) (!b) hi
      exact ⟨by omega, b', Or.inr (by omega)⟩
    · rw [if_neg q]
      exact ⟨Nat.le_refl _, h, Or.inl rfl⟩
theorem ok_pln (hT : D T = 0) {sub : Nat → Nat → RT} {sum : Nat → Nat → RS} (hs : OkT T sub) (hm : OkS T sum) : OkT T (pPln D sub sum) := by
  intro i p j p' ln c d hi hp h
  obtain ⟨n1, n2, n3⟩ := ok_nots hT 401 i false hi
  unfold pPln at h
  generalize (pNots D 401 i false).1 = i1 at h n1 n2 n3
  generalize (pNots D 401 i false).2 = b at h n3
  have hne : ∀ k, k ≤ T → D k ≠ 0 → k < T := fun k h1 h2 => by
    rcases Nat.lt_or_eq_of_le h1 with q | q
    · exact q
    · exact absurd (by rw [q]; exact hT) h2
  have fin : ∀ j1 p1 ln1 (c1 : Nat → List (Nat × Nat)) d1, i1 < j1 → j1 ≤ T → p < p1 → p1 ≤ 50 → 0 < ln1 → ln1 ≤ j1 - i1 → (∀ L, (c1 L).length = ln1) → pFin b j1 p1 ln1 c1 d1 = .ok (j, p', ln, c, d) → i < j ∧ j ≤ T ∧ p < p' ∧ p' ≤ 50 ∧ 0 < ln ∧ ln ≤ j - i ∧ ∀ L, (c L).length = ln := by
    intro j1 p1 ln1 c1 d1 a1 a2 a3 a4 a5 a6 a7 h
    unfold pFin at h
    cases b with
    | true =>
      have n3' : i < i1 := by
        rcases n3 with z | z
        · exact absurd z (by decide)
        · exact z
      rw [if_pos rfl] at h
      injection h with h
      obtain ⟨e1, e2, e3, e4, e5⟩ := h
      refine ⟨by omega, by omega, by omega, by omega, by omega, by omega, fun L => ?_⟩
      rw [List.length_append, a7 L]
      rfl
    | false =>
      rw [if_neg (by decide)] at h
      injection h with h
      obtain ⟨e1, e2, e3, e4, e5⟩ := h
      exact ⟨by omega, by omega, by omega, by omega, by omega, by omega, a7⟩
  unfold pPos at h
  by_cases q1 : D i1 = 140
  · rw [if_pos q1] at h
    have hi' := hne i1 n2 (by omega)
    cases hc : sub (i1 + 1) p with
    | error q => rw [hc] at h; exact absurd h (by simp)
    | ok x =>
      obtain ⟨j1, p1, ln1, c1, d1⟩ := x
      rw [hc] at h
      obtain ⟨a1, a2, a3, a4, a5, a6, a7⟩ := hs _ _ _ _ _ _ _ (by omega) hp hc
      dsimp only at h
      by_cases q2 : D j1 = 141
      · rw [if_pos q2] at h
        have := hne j1 a2 (by omega)
        exact fin _ _ _ _ _ (by omega) (by omega) a3 a4 a5 (by omega) a7 h
      · rw [if_neg q2] at h; exact absurd h (by simp)
  · rw [if_neg q1] at h
    cases hc : sum i1 p with
    | error q => rw [hc] at h; exact absurd h (by simp)
    | ok x =>
      obtain ⟨j1, p1, c1, d1⟩ := x
      rw [hc] at h
      obtain ⟨a1, a2, a3, a4, a5, a6⟩ := hm _ _ _ _ _ _ n2 hp hc
      dsimp only at h
      by_cases q2 : D j1 = 160 ∨ D j1 = 162 ∨ D j1 = 161
      · rw [if_pos q2] at h
        have hj := hne j1 a2 (by omega)
        cases hc2 : sum (j1 + 1) p1 with
        | error q => rw [hc2] at h; exact absurd h (by simp)
        | ok x =>
          obtain ⟨j2, p2, c2, d2⟩ := x
          rw [hc2] at h
          obtain ⟨b1, b2, b3, b4, b5, b6⟩ := hm _ _ _ _ _ _ (by omega) a4 hc2
          exact fin _ _ _ _ _ (by omega) b2 (by omega) b4 (by omega) (by omega) (fun L => by simp; omega) h
      · rw [if_neg q2] at h; exact absurd h (by simp)
theorem ok_jp (hT : D T = 0) {sub : Nat → Nat → RT} (hs : OkT T sub) {t s : Nat} {x : Bool} (ht : t ≠ 0) : ∀ (f i0 p0 i p ln : Nat) (c : Nat → List (Nat × Nat)) (d : DT) (j p' ln' : Nat) (c' : Nat → List (Nat × Nat)) (d' : DT), i0 < i → i ≤ T → p0 < p → p ≤ 50 → 0 < ln → ln ≤ i - i0 → (∀ L, (c L).length = ln) → pJp D sub t s x f (i, p, ln, c, d) = .ok (j, p', ln', c', d') → i0 < j ∧ j ≤ T ∧ p0 < p' ∧ p' ≤ 50 ∧ 0 < ln' ∧ ln' ≤ j - i0 ∧ ∀ L, (c' L).length = ln'
  | 0, i0, p0, i, p, ln, c, d, j, p', ln', c', d', h1, h2, h3, h4, h5, h6, h7, h => by
    injection h with h
    obtain ⟨e1, e2, e3, e4, e5⟩ := h
    exact ⟨by omega, by omega, by omega, by omega, by omega, by omega, h7⟩
  | f + 1, i0, p0, i, p, ln, c, d, j, p', ln', c', d', h1, h2, h3, h4, h5, h6, h7, h => by
    unfold pJp at h
    by_cases q : D i = t
    · rw [if_pos q] at h
      have hi : i < T := by
        rcases Nat.lt_or_eq_of_le h2 with z | z
        · exact z
        · rw [z, hT] at q; exact absurd q.symm ht
      cases hc : sub (i + 1) p with
      | error q => rw [hc] at h; exact absurd h (by simp)
      | ok x =>
        obtain ⟨j1, p1, ln1, c1, d1⟩ := x
        rw [hc] at h
        obtain ⟨a1, a2, a3, a4, a5, a6, a7⟩ := hs _ _ _ _ _ _ _ (by omega) h4 hc
        exact ok_jp hT hs ht f i0 p0 j1 p1 _ _ _ j p' ln' c' d' (by omega) a2 (by omega) a4 (by omega) (by omega) (fun L => by simp [h7, a7]; omega) h
    · rw [if_neg q] at h
      injection h with h
      obtain ⟨e1, e2, e3, e4, e5⟩ := h
      exact ⟨by omega, by omega, by omega, by omega, by omega, by omega, h7⟩
theorem ok_jn (hT : D T = 0) {sub : Nat → Nat → RT} (hs : OkT T sub) {t s : Nat} {x : Bool} (ht : t ≠ 0) : OkT T (pJn D sub t s x) := by
  intro i p j p' ln c d hi hp h
  unfold pJn at h
  cases hc : sub i p with
  | error q => rw [hc] at h; exact absurd h (by simp)
  | ok x =>
    obtain ⟨j1, p1, ln1, c1, d1⟩ := x
    rw [hc] at h
    obtain ⟨a1, a2, a3, a4, a5, a6, a7⟩ := hs _ _ _ _ _ _ _ hi hp hc
    exact ok_jp hT hs ht 401 i p j1 p1 ln1 c1 d1 j p' ln c d a1 a2 a3 a4 a5 a6 a7 h
theorem ok_et {T : Nat} : OkT T (fun i _ => .error (i - 1)) := fun _ _ _ _ _ _ _ _ _ h => absurd h (by simp)
theorem ok_test (hT : D T = 0) : ∀ r, OkT T (pTest o D V r)
  | 0 => ok_jn hT (ok_jn hT (ok_pln hT ok_et (ok_sum hT 0)) (by decide)) (by decide)
  | r + 1 => ok_jn hT (ok_jn hT (ok_pln hT (ok_test hT r) (ok_sum hT (r + 1))) (by decide)) (by decide)
theorem ok_sb (hT : D T = 0) : ∀ r, OkT T (pSb o D V r)
  | 0 => ok_et
  | r + 1 => ok_test hT r
end
