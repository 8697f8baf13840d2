/-! laws look at seven words alone -/
def AG (e e' : Nat → Int32) : Prop := ∀ k, k < 7 → e k = e' k
def CgS (sub : Nat → Nat → RS) : Prop := ∀ i p j p' c d, sub i p = .ok (j, p', c, d) → ∀ e e', AG e e' → d e = d e'
def CgT (sub : Nat → Nat → RT) : Prop := ∀ i p j p' k c d, sub i p = .ok (j, p', k, c, d) → ∀ e e', AG e e' → d e = d e'
theorem wd_7 {d : Nat} (h : isWd false d = true) : wi false d < 7 := by
  unfold isWd at h
  simp only [Bool.false_eq_true, if_F, Bool.and_eq_true, decide_eq_true_eq] at h
  unfold wi
  simp only [Bool.false_eq_true, if_F]
  by_cases h1 : d = 12
  · rw [if_pos h1]; omega
  · rw [if_neg h1]
    by_cases h2 : d = 13
    · rw [if_pos h2]; omega
    · rw [if_neg h2]; omega
section
variable {D V : Nat → Nat}
theorem cg_part {sub : Nat → Nat → RS} (hs : CgS sub) : CgS (pPart false D V sub) := by
  intro i p j p' c d h e e' ha
  unfold pPart at h
  by_cases q1 : D i = 191
  · rw [if_pos q1] at h
    cases hc : sub (i + 1) p with
    | error q => rw [hc] at h; exact absurd h (by simp)
    | ok x =>
      obtain ⟨j1, p1, c1, d1⟩ := x
      rw [hc] at h
      dsimp only at h
      by_cases q2 : D j1 = 193
      · rw [if_pos q2] at h
        cases h
        exact hs _ _ _ _ _ _ hc e e' ha
      · rw [if_neg q2] at h; exact absurd h (by simp)
  · rw [if_neg q1] at h
    by_cases q2 : 50 ≤ p
    · rw [if_pos q2] at h; exact absurd h (by simp)
    · rw [if_neg q2] at h
      by_cases q3 : isWd false (D i) = true
      · rw [if_pos q3] at h
        cases h
        show some (e (wi false (D i))).toInt64 = some (e' (wi false (D i))).toInt64
        rw [ha _ (wd_7 q3)]
      · rw [if_neg q3, if_neg (by simp), if_neg (by simp)] at h
        by_cases q7 : D i = 50 ∧ V i ≤ 1000
        · rw [if_pos q7] at h
          cases h
          rfl
        · rw [if_neg q7] at h; exact absurd h (by simp)
theorem cg_lp {sub : Nat → Nat → RS} (hs : CgS sub) {op : Nat → Bool} : ∀ (f i p : Nat) (c : List (Nat × Nat)) (d : DS) (j p' : Nat) (c' : List (Nat × Nat)) (d' : DS), (∀ e e', AG e e' → d e = d e') → pLp D sub op f (i, p, c, d) = .ok (j, p', c', d') → ∀ e e', AG e e' → d' e = d' e'
  | 0, i, p, c, d, j, p', c', d', hd, h => by
    have h : (Except.ok (i, p, c, d) : RS) = .ok (j, p', c', d') := h
    cases h
    exact hd
  | f + 1, i, p, c, d, j, p', c', d', hd, h => by
    unfold pLp at h
    by_cases q : op (D i) = true
    · rw [if_pos q] at h
      cases hc : sub (i + 1) p with
      | error q => rw [hc] at h; exact absurd h (by simp)
      | ok x =>
        obtain ⟨j1, p1, c1, d1⟩ := x
        rw [hc] at h
        exact cg_lp hs f j1 p1 _ _ j p' c' d' (fun e e' ha => by rw [bin_o, bin_o, hd e e' ha, hs _ _ _ _ _ _ hc e e' ha]) h
    · rw [if_neg q] at h
      cases h
      exact hd
theorem cg_ch {sub : Nat → Nat → RS} (hs : CgS sub) {op : Nat → Bool} : CgS (pCh D sub op) := by
  intro i p j p' c d h
  unfold pCh at h
  cases hc : sub i p with
  | error q => rw [hc] at h; exact absurd h (by simp)
  | ok x =>
    obtain ⟨j1, p1, c1, d1⟩ := x
    rw [hc] at h
    exact cg_lp hs 401 j1 p1 c1 d1 j p' c d (hs _ _ _ _ _ _ hc) h
theorem cg_sum : ∀ r, CgS (pSum false D V r)
  | 0 => cg_ch (cg_ch (cg_part (fun _ _ _ _ _ _ h => absurd h (by simp))))
  | r + 1 => cg_ch (cg_ch (cg_part (cg_sum r)))
theorem cg_fin {b : Bool} {j p k : Nat} {c : Nat → List (Nat × Nat)} {d : DT} {j' p' k' : Nat} {c' : Nat → List (Nat × Nat)} {d' : DT} (hd : ∀ e e', AG e e' → d e = d e') (h : pFin b j p k c d = .ok (j', p', k', c', d')) : ∀ e e', AG e e' → d' e = d' e' := by
  intro e e' ha
  unfold pFin at h
  cases b with
  | true =>
    rw [if_pos rfl] at h
    cases h
    show Option.map _ (d e) = Option.map _ (d e')
    rw [hd e e' ha]
  | false =>
    rw [if_neg (by decide)] at h
    cases h
    exact hd e e' ha
theorem cg_pln {sub : Nat → Nat → RT} {sum : Nat → Nat → RS} (ht : CgT sub) (hs : CgS sum) : CgT (pPln D sub sum) := by
  intro i p j p' k c d h
  unfold pPln at h
  generalize (pNots D 401 i false).1 = i1 at h
  generalize (pNots D 401 i false).2 = b at h
  unfold pPos at h
  by_cases q1 : D i1 = 140
  · rw [if_pos q1] at h
    cases hc : sub (i1 + 1) p with
    | error q => rw [hc] at h; exact absurd h (by simp)
    | ok x =>
      obtain ⟨j1, p1, k1, c1, d1⟩ := x
      rw [hc] at h
      dsimp only at h
      by_cases q2 : D j1 = 141
      · rw [if_pos q2] at h
        exact cg_fin (ht _ _ _ _ _ _ _ hc) h
      · rw [if_neg q2] at h; exact absurd h (by simp)
  · rw [if_neg q1] at h
    cases hc : sum i1 p with
    | error q => rw [hc] at h; exact absurd h (by simp)
    | ok x =>
      obtain ⟨j1, p1, c1, d1⟩ := x
      rw [hc] at h
      dsimp only at h
      by_cases q2 : D j1 = 160 ∨ D j1 = 162 ∨ D j1 = 161
      · rw [if_pos q2] at h
        cases hc2 : sum (j1 + 1) p1 with
        | error q => rw [hc2] at h; exact absurd h (by simp)
        | ok x =>
          obtain ⟨j2, p2, c2, d2⟩ := x
          rw [hc2] at h
          refine cg_fin (fun e e' ha => ?_) h
          unfold cmpD
          rw [hs _ _ _ _ _ _ hc e e' ha, hs _ _ _ _ _ _ hc2 e e' ha]
      · rw [if_neg q2] at h; exact absurd h (by simp)
theorem cg_jp {sub : Nat → Nat → RT} (hs : CgT sub) {t s : Nat} {x : Bool} : ∀ (f i p k : Nat) (c : Nat → List (Nat × Nat)) (d : DT) (j p' k' : Nat) (c' : Nat → List (Nat × Nat)) (d' : DT), (∀ e e', AG e e' → d e = d e') → pJp D sub t s x f (i, p, k, c, d) = .ok (j, p', k', c', d') → ∀ e e', AG e e' → d' e = d' e'
  | 0, i, p, k, c, d, j, p', k', c', d', hd, h => by
    have h : (Except.ok (i, p, k, c, d) : RT) = .ok (j, p', k', c', d') := h
    cases h
    exact hd
  | f + 1, i, p, k, c, d, j, p', k', c', d', hd, h => by
    unfold pJp at h
    by_cases q : D i = t
    · rw [if_pos q] at h
      cases hc : sub (i + 1) p with
      | error q => rw [hc] at h; exact absurd h (by simp)
      | ok y =>
        obtain ⟨j1, p1, k1, c1, d1⟩ := y
        rw [hc] at h
        refine cg_jp hs f j1 p1 _ _ _ j p' k' c' d' (fun e e' ha => ?_) h
        unfold cmb
        rw [hd e e' ha, hs _ _ _ _ _ _ _ hc e e' ha]
    · rw [if_neg q] at h
      cases h
      exact hd
theorem cg_jn {sub : Nat → Nat → RT} (hs : CgT sub) {t s : Nat} {x : Bool} : CgT (pJn D sub t s x) := by
  intro i p j p' k c d h
  unfold pJn at h
  cases hc : sub i p with
  | error q => rw [hc] at h; exact absurd h (by simp)
  | ok y =>
    obtain ⟨j1, p1, k1, c1, d1⟩ := y
    rw [hc] at h
    exact cg_jp hs 401 j1 p1 k1 c1 d1 j p' k c d (hs _ _ _ _ _ _ _ hc) h
theorem cg_test : ∀ r, CgT (pTest false D V r)
  | 0 => cg_jn (cg_jn (cg_pln (fun _ _ _ _ _ _ _ h => absurd h (by simp)) (cg_sum 0)))
  | r + 1 => cg_jn (cg_jn (cg_pln (cg_test r) (cg_sum (r + 1))))
/-- what a clause of a law is -/
def LC (x : Ci) : Prop := ((x.1 = 1 ∧ x.2.1 = none) ∨ (x.1 = 0 ∧ ∃ f, x.2.1 = some f ∧ ∀ e e', AG e e' → f.2 e = f.2 e')) ∧ ∀ f, x.2.2.2.2 = some f → ∀ e e', AG e e' → f.2 e = f.2 e'
theorem lc_cl {i p L j p' : Nat} {c : List (Nat × Nat)} {x : Ci} (h : pCl false D V i p L = .ok (j, p', c, x)) : LC x := by
  unfold pCl at h
  cases hd : pHd false D V i p L with
  | error q => rw [hd] at h; exact absurd h (by simp)
  | ok y =>
    obtain ⟨j1, p1, c1, kd, f1, f2, tm⟩ := y
    rw [hd] at h
    have hk : (kd = 1 ∧ f1 = none) ∨ (kd = 0 ∧ ∃ f, f1 = some f ∧ ∀ e e', AG e e' → f.2 e = f.2 e') := by
      unfold pHd at hd
      rw [if_neg (by decide)] at hd
      unfold pHl at hd
      by_cases q1 : D i = 2
      · rw [if_pos q1] at hd
        cases hd
        exact Or.inl ⟨rfl, rfl⟩
      · rw [if_neg q1] at hd
        by_cases q2 : D i = 1
        · rw [if_pos q2] at hd
          unfold pW at hd
          cases hc : pSum false D V 8 (i + 1) p with
          | error q => rw [hc] at hd; exact absurd hd (by simp)
          | ok z =>
            obtain ⟨j2, p2, c2, d2⟩ := z
            rw [hc] at hd
            cases hd
            exact Or.inr ⟨rfl, _, rfl, cg_sum 8 _ _ _ _ _ _ hc⟩
        · rw [if_neg q2] at hd; exact absurd hd (by simp)
    dsimp only at h
    by_cases q : D j1 = 3
    · rw [if_pos q] at h
      cases hc2 : pTest false D V 8 (j1 + 1) p1 with
      | error q => rw [hc2] at h; exact absurd h (by simp)
      | ok z =>
        obtain ⟨j2, p2, k2, c2, d2⟩ := z
        rw [hc2] at h
        cases h
        refine ⟨hk, fun f he => ?_⟩
        have he : some (L + c1.length, d2) = some f := he
        cases he
        exact cg_test 8 _ _ _ _ _ _ _ hc2
    · rw [if_neg q] at h
      cases h
      exact ⟨hk, fun f he => absurd he (by simp)⟩
theorem lc_rd {T : Nat} : ∀ (m i p L : Nat) (l : List Ci) (c : List (Nat × Nat)), pRd false D V T m i p L = .ok (l, c) → ∀ x, x ∈ l → LC x
  | 0, i, p, L, l, c, hh => absurd hh (by simp [pRd])
  | m + 1, i, p, L, l, c, hh => by
    unfold pRd at hh
    cases hc : pCl false D V i p L with
    | error q => rw [hc] at hh; exact absurd hh (by simp)
    | ok y =>
      obtain ⟨j1, p1, c1, x1⟩ := y
      rw [hc] at hh
      have hx1 := lc_cl hc
      dsimp only at hh
      by_cases w : j1 = T
      · rw [if_pos w] at hh
        cases hh
        intro x hx
        rw [List.mem_singleton.mp hx]; exact hx1
      · rw [if_neg w] at hh
        by_cases w2 : D j1 = 159
        · rw [if_pos w2] at hh
          cases hr : pRd false D V T m (j1 + 1) p1 (L + c1.length) with
          | error q => rw [hr] at hh; exact absurd hh (by simp)
          | ok z =>
            obtain ⟨l3, c3⟩ := z
            rw [hr] at hh
            have t1 := lc_rd m (j1 + 1) p1 (L + c1.length) l3 c3 hr
            cases hh
            intro x hx
            rcases List.mem_cons.mp hx with y | y
            · rw [y]; exact hx1
            · exact t1 x y
        · rw [if_neg w2] at hh; exact absurd hh (by simp)
end
/-! what a law tells -/
def tst (e : Nat → Int32) (x : Ci) : Bool := match x.2.2.2.2 with
  | none => true
  | some f => match f.2 e with
    | some b => b
    | none => false
def c64 (x : Int64) : Int64 := if 0 ≤ lg_cmp x 0 then (if lg_cmp x 99 ≤ 0 then x else 99) else 0
def clv (hd : Nat) (e : Nat → Int32) (x : Ci) : Option Int64 := if x.1 = hd then (if tst e x = true then (match x.2.1 with
  | none => some 1
  | some f => (f.2 e).map c64) else none) else none
def kl (hd : Nat) (e : Nat → Int32) (l : List Ci) (w : Int64) : Int64 := l.foldl (fun a x => (clv hd e x).getD a) w
theorem tst_c {e e' : Nat → Int32} {x : Ci} (h : LC x) (ha : AG e e') : tst e x = tst e' x := by
  unfold tst
  cases hx : x.2.2.2.2 with
  | none => rfl
  | some f =>
    show (match f.2 e with | some b => b | none => false) = (match f.2 e' with | some b => b | none => false)
    rw [h.2 f hx e e' ha]
theorem clv_c {hd : Nat} {e e' : Nat → Int32} {x : Ci} (h : LC x) (ha : AG e e') : clv hd e x = clv hd e' x := by
  unfold clv
  rw [tst_c h ha]
  rcases h.1 with ⟨-, q⟩ | ⟨-, f, q, q2⟩
  · rw [q]
  · rw [q]
    show (if x.1 = hd then if tst e' x = true then Option.map c64 (f.2 e) else none else none) = (if x.1 = hd then if tst e' x = true then Option.map c64 (f.2 e') else none else none)
    rw [q2 e e' ha]
theorem kl_c {hd : Nat} {e e' : Nat → Int32} (ha : AG e e') : ∀ (l : List Ci) (w : Int64), (∀ x, x ∈ l → LC x) → kl hd e l w = kl hd e' l w
  | [], w, _ => rfl
  | x :: l, w, h => by
    show kl hd e l ((clv hd e x).getD w) = kl hd e' l ((clv hd e' x).getD w)
    rw [clv_c (h x List.mem_cons_self) ha]
    exact kl_c ha l _ (fun y hy => h y (List.mem_cons_of_mem _ hy))
