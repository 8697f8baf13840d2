/-! codes of sums and tests at work -/
def o2 (R : Int64 → Int64 → Option Int64) (d1 d2 : Option Int64) : Option Int64 := match d1 with
  | none => none
  | some a => match d2 with
    | none => none
    | some b => R a b
def oP (x : Bool) (d1 d2 : Option Bool) : Option Bool := match d1 with
  | none => none
  | some b => if b = x then some x else d2
section
variable {n : Nat} {g : zS} {mi : Nat → Nat → Int32} {X sA aA ln : Nat}
theorem ex_op (hs : Sy g) (h : TX g mi X sA aA ln) {L L1 L2 p1 p2 s : Nat} {d1 d2 : Option Int64} {R : Int64 → Int64 → Option Int64} (x1 : EX n g mi X ln L L1 p1 d1) (x2 : EX n g mi X ln L1 L2 p2 d2) (l1 : L ≤ L1) (l2 : L1 ≤ L2) (l3 : L2 < ln) (q1 : 0 < p1) (q2 : 0 < p2) (hs1 : 6 ≤ s) (hs2 : s < 500) (e : mi sA L2 = nI s) (hR : ∀ ml a b, (∀ y, R a b = some y → f_X4_isBroken n 22 (nI s) a b (g, mi, ml) = some (nI 0, (g, mi, zu ml 22 2 y))) ∧ (R a b = none → ∃ ml', (ml' = ml ∨ ∃ x, ml' = zu ml 22 2 x) ∧ f_X4_isBroken n 22 (nI s) a b (g, mi, ml) = some (nI 1, (g, mi, ml')))) : EX n g mi X ln L (L2 + 1) (p1 + p2) (o2 R d1 d2) := by
  intro ml t dn ht hd
  obtain ⟨a1, a2⟩ := x1 ml t dn (by omega) (by omega)
  cases d1 with
  | none =>
    obtain ⟨e1, ml1, b1, b2, b3⟩ := a2 rfl
    exact ⟨fun x hx => absurd hx (by simp [o2]), fun _ => ⟨e1, ml1, by omega, b2, b3⟩⟩
  | some a =>
    obtain ⟨e1, ml1, b1, b2, b3, b4⟩ := a1 a rfl
    obtain ⟨c1, c2⟩ := x2 ml1 (t + 1) (dn + e1) (by omega) (by omega)
    cases d2 with
    | none =>
      obtain ⟨e2, ml2, f1, f2, f3⟩ := c2 rfl
      refine ⟨fun x hx => absurd hx (by simp [o2]), fun _ => ⟨e2 + e1, ml2, by omega, Xm_t b3 (Xm_w f2 (by omega)), fun f => ?_⟩⟩
      rw [← Nat.add_assoc, b4, f3]
    | some b =>
      obtain ⟨e2, ml2, f1, f2, f3, f4⟩ := c1 b rfl
      have k1 : ml2 24 t = a := by rw [f3.1 t (by omega), b2]
      have go : ∀ f, zlp5 (fb_X4_runs_20 n) (f + (1 + e2 + e1)) 22 X (nI t) (nI L) (nI dn) (g, mi, ml) = zb (f_X4_isBroken n 22 (nI s) a b (g, mi, ml2)) fun r11 h12 => if r11 = nI 0 then (zgR h12 5 22 1 fun v13 => zgL h12 5 22 2 fun v14 => zeL h12 v13 (nI t) v14 fun h15 => zlp5 (fb_X4_runs_20 n) f 22 X (nI (t + 1)) (nI (L2 + 1)) (nI (dn + e1 + e2 + 1)) h15) else some (nI 0, h12) := by
        intro f
        have e3 : f + (1 + e2 + e1) = f + 1 + e2 + e1 := by omega
        rw [e3, b4, f4, x_op hs h l3 (by omega) (by omega) hs1 hs2 e, k1, f2]
      obtain ⟨r1, r2⟩ := hR ml2 a b
      have xm2 : Xm ml ml2 t := Xm_t b3 (Xm_w f3 (by omega))
      refine ⟨fun x hx => ?_, fun hx => ?_⟩
      · have hx' : R a b = some x := hx
        refine ⟨1 + e2 + e1, zu (zu ml2 22 2 x) 24 t x, by omega, zul_s, Xm_t xm2 (Xm_t Xm_r (Xm_s (by omega))), fun f => ?_⟩
        have e4 : dn + (1 + e2 + e1) = dn + e1 + e2 + 1 := by omega
        rw [go, r1 x hx', zb_s, iEq1 rfl, S_gR22_1 hs, S_gL22 hs, S_eL24 hs (by omega), zul_s, e4]
      · have hx' : R a b = none := hx
        obtain ⟨ml3, s1, s2⟩ := r2 hx'
        refine ⟨1 + e2 + e1, ml3, by omega, Xm_t xm2 ?_, fun f => ?_⟩
        · rcases s1 with s1 | ⟨x, s1⟩
          · rw [s1]; exact Xm_0
          · rw [s1]; exact Xm_r
        · rw [go, s2, zb_s, iEq0 (by decide) (by decide) (by decide)]
theorem ex_not (hs : Sy g) (h : TX g mi X sA aA ln) {L L1 p : Nat} {d : Option Bool} (x1 : EX n g mi X ln L L1 p (d.map tI)) (l1 : L ≤ L1) (l3 : L1 < ln) (q1 : 0 < p) (e : mi sA L1 = nI 2) : EX n g mi X ln L (L1 + 1) p ((d.map (fun x => !x)).map tI) := by
  intro ml t dn ht hd
  obtain ⟨a1, a2⟩ := x1 ml t dn (by omega) (by omega)
  cases d with
  | none =>
    obtain ⟨e1, ml1, b1, b2, b3⟩ := a2 rfl
    exact ⟨fun x hx => absurd hx (by simp), fun _ => ⟨e1, ml1, by omega, b2, b3⟩⟩
  | some a =>
    obtain ⟨e1, ml1, b1, b2, b3, b4⟩ := a1 (tI a) rfl
    refine ⟨fun x hx => ?_, fun hx => absurd hx (by simp)⟩
    have hx' : x = tI (!a) := by simpa using hx.symm
    refine ⟨1 + e1, zu ml1 24 t (1 - ml1 24 t), by omega, ?_, Xm_t b3 (Xm_s (by omega)), fun f => ?_⟩
    · rw [zul_s, b2, hx']; cases a <;> decide
    · have e3 : f + (1 + e1) = f + 1 + e1 := by omega
      have e4 : dn + (1 + e1) = dn + e1 + 1 := by omega
      rw [e3, b4, x_not hs h l3 (by omega) (by omega) e, e4]
theorem ex_past (hs : Sy g) (h : TX g mi X sA aA ln) {L L1 L2 p1 p2 s : Nat} {x : Bool} {d1 d2 : Option Bool} (x1 : EX n g mi X ln L L1 p1 (d1.map tI)) (x2 : EX n g mi X ln (L1 + 1) L2 p2 (d2.map tI)) (l1 : L ≤ L1) (l2 : L1 + 1 ≤ L2) (l3 : L2 ≤ ln) (q1 : 0 < p1) (hx : s = 3 ∧ x = true ∨ s = 4 ∧ x = false) (e : mi sA L1 = nI s) (e' : mi aA L1 = nI L2) : EX n g mi X ln L L2 (p1 + p2) ((oP x d1 d2).map tI) := by
  intro ml t dn ht hd
  obtain ⟨a1, a2⟩ := x1 ml t dn (by omega) (by omega)
  cases d1 with
  | none =>
    obtain ⟨e1, ml1, b1, b2, b3⟩ := a2 rfl
    exact ⟨fun x hx => absurd hx (by simp [oP]), fun _ => ⟨e1, ml1, by omega, b2, b3⟩⟩
  | some a =>
    obtain ⟨e1, ml1, b1, b2, b3, b4⟩ := a1 (tI a) rfl
    have go : ∀ f, zlp5 (fb_X4_runs_20 n) (f + 1 + e1) 22 X (nI t) (nI L) (nI dn) (g, mi, ml) = if a = x then zlp5 (fb_X4_runs_20 n) f 22 X (nI (t + 1)) (nI L2) (nI (dn + e1 + 1)) (g, mi, ml1) else zlp5 (fb_X4_runs_20 n) f 22 X (nI t) (nI (L1 + 1)) (nI (dn + e1 + 1)) (g, mi, ml1) := by
      intro f
      rw [b4, x_past hs h (by omega) (by omega) (by omega) hx e e' b2]
    by_cases z : a = x
    · simp only [oP, z, if_T, Option.map_some]
      refine ⟨fun y hy => ?_, fun hy => absurd hy (by simp)⟩
      injection hy with hy
      refine ⟨1 + e1, ml1, by omega, by rw [b2, ← hy, z], b3, fun f => ?_⟩
      have e3 : f + (1 + e1) = f + 1 + e1 := by omega
      have e4 : dn + (1 + e1) = dn + e1 + 1 := by omega
      rw [e3, go, if_pos z, e4]
    · simp only [oP, z, if_F]
      obtain ⟨c1, c2⟩ := x2 ml1 t (dn + e1 + 1) (by omega) (by omega)
      refine ⟨fun y hy => ?_, fun hy => ?_⟩
      · obtain ⟨e2, ml2, f1, f2, f3, f4⟩ := c1 y hy
        refine ⟨e2 + 1 + e1, ml2, by omega, f2, Xm_t b3 f3, fun f => ?_⟩
        have e3 : f + (e2 + 1 + e1) = f + e2 + 1 + e1 := by omega
        have e4 : dn + (e2 + 1 + e1) = dn + e1 + 1 + e2 := by omega
        rw [e3, go, if_neg z, f4, e4]
      · obtain ⟨e2, ml2, f1, f2, f3⟩ := c2 hy
        refine ⟨e2 + 1 + e1, ml2, by omega, Xm_t b3 f2, fun f => ?_⟩
        have e3 : f + (e2 + 1 + e1) = f + e2 + 1 + e1 := by omega
        rw [e3, go, if_neg z, f3]
theorem ex_one (hs : Sy g) (h : TX g mi X sA aA ln) {L : Nat} {s a : Nat} {x : Int64} (hl : L < ln) (e1 : mi sA L = nI s) (e2 : mi aA L = nI a) (hc : s = 0 ∧ a < 2000 ∧ x = (nI a).toInt64 ∨ s = 1 ∧ a < 113 ∧ x = (mi 23 a).toInt64) : EX n g mi X ln L (L + 1) 1 (some x) := by
  intro ml t dn ht hd
  refine ⟨fun y hy => ?_, fun hy => absurd hy (by simp)⟩
  injection hy with hy
  refine ⟨1, zu ml 24 t x, by omega, by rw [zul_s, hy], Xm_s (by omega), fun f => ?_⟩
  rcases hc with ⟨q1, q2, q3⟩ | ⟨q1, q2, q3⟩ <;> subst q1
  · rw [x_num hs h hl (by omega) (by omega) e1 e2 q2, q3]
  · rw [x_wrd hs h hl (by omega) (by omega) e1 e2 q2, q3]
def XS (n : Nat) (g : zS) (mi : Nat → Nat → Int32) (X sA aA ln T : Nat) (sub : Nat → Nat → RS) : Prop := ∀ i p j p' c d L, i ≤ T → p ≤ 50 → sub i p = .ok (j, p', c, d) → CA (mi sA) (mi aA) L c → L + c.length ≤ ln → EX n g mi X ln L (L + c.length) (p' - p) (d (mi 23))
def XT (n : Nat) (g : zS) (mi : Nat → Nat → Int32) (X sA aA ln T : Nat) (sub : Nat → Nat → RT) : Prop := ∀ i p j p' k c d L, i ≤ T → p ≤ 50 → sub i p = .ok (j, p', k, c, d) → CA (mi sA) (mi aA) L (c L) → L + k ≤ ln → EX n g mi X ln L (L + k) (p' - p) ((d (mi 23)).map tI)
variable {T : Nat} {o : Bool} {D V : Nat → Nat}
theorem wi_lt {o : Bool} {d : Nat} (h : isWd o d = true) : wi o d < 113 := by
  unfold isWd at h
  unfold wi
  cases o
  · simp at h ⊢
    split
    · decide
    · split
      · decide
      · omega
  · simp at h ⊢
    omega
theorem x_part (hs : Sy g) (h : TX g mi X sA aA ln) (hT : D T = 0) {sub : Nat → Nat → RS} (ok : OkS T sub) (hx : XS n g mi X sA aA ln T sub) : XS n g mi X sA aA ln T (pPart o D V sub) := by
  intro i p j p' c d L hi hp hh hC hl
  unfold pPart at hh
  by_cases q1 : D i = 191
  · rw [if_pos q1] at hh
    have hi' : i < T := by
      rcases Nat.lt_or_eq_of_le hi with z | z
      · exact z
      · rw [z, hT] at q1; exact absurd q1 (by decide)
    cases hc : sub (i + 1) p with
    | error q => rw [hc] at hh; exact absurd hh (by simp)
    | ok x =>
      obtain ⟨j1, p1, c1, d1⟩ := x
      rw [hc] at hh
      dsimp only at hh
      by_cases q2 : D j1 = 193
      · rw [if_pos q2] at hh
        injection hh with hh
        obtain ⟨r1, r2, r3, r4⟩ := hh
        exact hx _ _ _ _ _ _ L (by omega) hp hc hC hl
      · rw [if_neg q2] at hh; exact absurd hh (by simp)
  · rw [if_neg q1] at hh
    by_cases q2 : 50 ≤ p
    · rw [if_pos q2] at hh; exact absurd hh (by simp)
    · rw [if_neg q2] at hh
      have fin : ∀ k s a d0, (Except.ok (i + k, p + 1, [(s, a)], d0) : RS) = .ok (j, p', c, d) → (∃ x, d0 (mi 23) = some x ∧ (s = 0 ∧ a < 2000 ∧ x = (nI a).toInt64 ∨ s = 1 ∧ a < 113 ∧ x = (mi 23 a).toInt64)) → EX n g mi X ln L (L + c.length) (p' - p) (d (mi 23)) := by
        intro k s a d0 h1 h2
        injection h1 with h1
        obtain ⟨x, h3, h4⟩ := h2
        have r1 := (Prod.mk.inj h1).2
        have r2 := (Prod.mk.inj r1).2
        have r3 := (Prod.mk.inj r2)
        have r4 : p' = p + 1 := (Prod.mk.inj r1).1.symm
        rw [← r3.2, h3, r4, ← r3.1]
        rw [← r3.1] at hC hl
        have e5 : p + 1 - p = 1 := by omega
        rw [e5]
        exact ex_one hs h (by simp at hl; omega) hC.1.1 hC.1.2 h4
      by_cases q3 : isWd o (D i) = true
      · rw [if_pos q3] at hh
        exact fin 1 _ _ _ hh ⟨_, rfl, Or.inr ⟨rfl, wi_lt q3, rfl⟩⟩
      · rw [if_neg q3] at hh
        by_cases q4 : o = true ∧ D i = 18
        · rw [if_pos q4] at hh
          by_cases q5 : D (i + 1) = 50 ∧ V (i + 1) ≤ 7
          · rw [if_pos q5] at hh
            exact fin 2 _ _ _ hh ⟨_, rfl, Or.inr ⟨rfl, by omega, rfl⟩⟩
          · rw [if_neg q5] at hh; exact absurd hh (by simp)
        · rw [if_neg q4] at hh
          by_cases q6 : o = true ∧ D i = 19
          · rw [if_pos q6] at hh
            by_cases q5 : D (i + 1) = 50 ∧ V (i + 1) ≤ 99
            · rw [if_pos q5] at hh
              exact fin 2 _ _ _ hh ⟨_, rfl, Or.inr ⟨rfl, by omega, rfl⟩⟩
            · rw [if_neg q5] at hh; exact absurd hh (by simp)
          · rw [if_neg q6] at hh
            by_cases q7 : D i = 50 ∧ V i ≤ 1000
            · rw [if_pos q7] at hh
              exact fin 1 _ _ _ hh ⟨_, rfl, Or.inl ⟨rfl, by omega, rfl⟩⟩
            · rw [if_neg q7] at hh; exact absurd hh (by simp)
theorem x_lp (hs : Sy g) (h : TX g mi X sA aA ln) (hT : D T = 0) {sub : Nat → Nat → RS} (ok : OkS T sub) (hx : XS n g mi X sA aA ln T sub) {op : Nat → Bool} (ho : ∀ k, op k = true → k = 142 ∨ k = 147 ∨ k = 137 ∨ k = 143 ∨ k = 145) : ∀ (f i0 p0 i p : Nat) (c : List (Nat × Nat)) (d : DS) (j p' : Nat) (c' : List (Nat × Nat)) (d' : DS) (L : Nat), i ≤ T → p0 < p → p ≤ 50 → (CA (mi sA) (mi aA) L c → L + c.length ≤ ln → EX n g mi X ln L (L + c.length) (p - p0) (d (mi 23))) → pLp D sub op f (i, p, c, d) = .ok (j, p', c', d') → CA (mi sA) (mi aA) L c' → L + c'.length ≤ ln → EX n g mi X ln L (L + c'.length) (p' - p0) (d' (mi 23))
  | 0, i0, p0, i, p, c, d, j, p', c', d', L, h2, h3, h4, h5, hh, h6, h7 => by
    injection hh with hh
    obtain ⟨e1, e2, e3, e4⟩ := hh
    exact h5 h6 h7
  | f + 1, i0, p0, i, p, c, d, j, p', c', d', L, h2, h3, h4, h5, hh, h6, h7 => by
    unfold pLp at hh
    by_cases q : op (D i) = true
    · rw [if_pos q] at hh
      have hq := ho _ q
      have hi : i < T := by
        rcases Nat.lt_or_eq_of_le h2 with z | z
        · exact z
        · rw [z, hT] at hq; omega
      cases hc : sub (i + 1) p with
      | error q => rw [hc] at hh; exact absurd hh (by simp)
      | ok x =>
        obtain ⟨j1, p1, c1, d1⟩ := x
        rw [hc] at hh
        obtain ⟨a1, a2, a3, a4, a5, a6⟩ := ok _ _ _ _ _ _ (by omega) h4 hc
        refine x_lp hs h hT ok hx ho f i0 p0 j1 p1 _ _ j p' c' d' L a2 (by omega) a4 (fun g1 g2 => ?_) hh h6 h7
        rw [List.append_assoc, CA_app, CA_app] at g1
        simp only [List.length_append, List.length_cons, List.length_nil] at g2
        have t1 := h5 g1.1 (by omega)
        have t2 := hx _ _ _ _ _ _ (L + c.length) (by omega) h4 hc g1.2.1 (by omega)
        have t3 : p1 - p0 = (p - p0) + (p1 - p) := by omega
        have t4 : L + (c ++ c1 ++ [(D i - 100, 0)]).length = L + c.length + c1.length + 1 := by simp; omega
        rw [t3, t4]
        exact ex_op hs h t1 t2 (by omega) (by omega) (by omega) (by omega) (by omega) (by omega) (by omega) g1.2.2.1.1 (fun ml a b => c_broken hs (by omega) a b)
    · rw [if_neg q] at hh
      injection hh with hh
      obtain ⟨e1, e2, e3, e4⟩ := hh
      exact h5 h6 h7
theorem x_ch (hs : Sy g) (h : TX g mi X sA aA ln) (hT : D T = 0) {sub : Nat → Nat → RS} (ok : OkS T sub) (hx : XS n g mi X sA aA ln T sub) {op : Nat → Bool} (ho : ∀ k, op k = true → k = 142 ∨ k = 147 ∨ k = 137 ∨ k = 143 ∨ k = 145) : XS n g mi X sA aA ln T (pCh D sub op) := by
  intro i p j p' c d L hi hp hh hC hl
  unfold pCh at hh
  cases hc : sub i p with
  | error q => rw [hc] at hh; exact absurd hh (by simp)
  | ok x =>
    obtain ⟨j1, p1, c1, d1⟩ := x
    rw [hc] at hh
    obtain ⟨a1, a2, a3, a4, a5, a6⟩ := ok _ _ _ _ _ _ hi hp hc
    exact x_lp hs h hT ok hx ho 401 i p j1 p1 c1 d1 j p' c d L a2 a3 a4 (fun g1 g2 => hx _ _ _ _ _ _ L hi hp hc g1 g2) hh hC hl
theorem ti_h : ∀ k, isTi k = true → k = 142 ∨ k = 147 ∨ k = 137 ∨ k = 143 ∨ k = 145 := fun k h => by
  unfold isTi at h
  simp at h
  omega
theorem lo_h : ∀ k, isLo k = true → k = 142 ∨ k = 147 ∨ k = 137 ∨ k = 143 ∨ k = 145 := fun k h => by
  unfold isLo at h
  simp at h
  omega
theorem xs_e : XS n g mi X sA aA ln T (fun i _ => .error (i - 1)) := fun _ _ _ _ _ _ _ _ _ h => absurd h (by simp)
theorem x_sum (hs : Sy g) (h : TX g mi X sA aA ln) (hT : D T = 0) : ∀ r, XS n g mi X sA aA ln T (pSum o D V r)
  | 0 => x_ch hs h hT (ok_ch hT (ok_part hT ok_e) rfl) (x_ch hs h hT (ok_part hT ok_e) (x_part hs h hT ok_e xs_e) ti_h) lo_h
  | r + 1 => x_ch hs h hT (ok_ch hT (ok_part hT (ok_sum hT r)) rfl) (x_ch hs h hT (ok_part hT (ok_sum hT r)) (x_part hs h hT (ok_sum hT r) (x_sum hs h hT r)) ti_h) lo_h
theorem x_pln (hs : Sy g) (h : TX g mi X sA aA ln) (hT : D T = 0) {sub : Nat → Nat → RT} {sum : Nat → Nat → RS} (okt : OkT T sub) (ok : OkS T sum) (xt : XT n g mi X sA aA ln T sub) (xs : XS n g mi X sA aA ln T sum) : XT n g mi X sA aA ln T (pPln D sub sum) := by
  intro i p j p' k c d L hi hp hh hC hl
  obtain ⟨n1, n2, n3⟩ := ok_nots hT 401 i false hi
  unfold pPln at hh
  generalize (pNots D 401 i false).1 = i1 at hh n1 n2 n3
  generalize (pNots D 401 i false).2 = b at hh n3
  have fin : ∀ j1 p1 k1 (c1 : Nat → List (Nat × Nat)) d1, p < p1 → (∀ L, (c1 L).length = k1) → (CA (mi sA) (mi aA) L (c1 L) → L + k1 ≤ ln → EX n g mi X ln L (L + k1) (p1 - p) ((d1 (mi 23)).map tI)) → pFin b j1 p1 k1 c1 d1 = .ok (j, p', k, c, d) → EX n g mi X ln L (L + k) (p' - p) ((d (mi 23)).map tI) := by
    intro j1 p1 k1 c1 d1 hp1 hk hE hf
    unfold pFin at hf
    cases b with
    | true =>
      rw [if_pos rfl] at hf
      injection hf with hf
      obtain ⟨e1, e2, e3, e4, e5⟩ := hf
      have hC : CA (mi sA) (mi aA) L (c1 L ++ [(2, 0)]) := hC
      have hl : L + (k1 + 1) ≤ ln := hl
      rw [CA_app, hk L] at hC
      exact ex_not (L1 := L + k1) hs h (hE hC.1 (by omega)) (by omega) (by omega) (by omega) hC.2.1.1
    | false =>
      rw [if_neg (by decide)] at hf
      injection hf with hf
      obtain ⟨e1, e2, e3, e4, e5⟩ := hf
      exact hE hC hl
  unfold pPos at hh
  by_cases q1 : D i1 = 140
  · rw [if_pos q1] at hh
    have hi' : i1 < T := by
      rcases Nat.lt_or_eq_of_le n2 with z | z
      · exact z
      · rw [z, hT] at q1; exact absurd q1 (by decide)
    cases hc : sub (i1 + 1) p with
    | error q => rw [hc] at hh; exact absurd hh (by simp)
    | ok x =>
      obtain ⟨j1, p1, k1, c1, d1⟩ := x
      rw [hc] at hh
      obtain ⟨a1, a2, a3, a4, a5, a6, a7⟩ := okt _ _ _ _ _ _ _ (by omega) hp hc
      dsimp only at hh
      by_cases q2 : D j1 = 141
      · rw [if_pos q2] at hh
        exact fin _ _ _ _ _ a3 a7 (fun g1 g2 => xt _ _ _ _ _ _ _ L (by omega) hp hc g1 g2) hh
      · rw [if_neg q2] at hh; exact absurd hh (by simp)
  · rw [if_neg q1] at hh
    cases hc : sum i1 p with
    | error q => rw [hc] at hh; exact absurd hh (by simp)
    | ok x =>
      obtain ⟨j1, p1, c1, d1⟩ := x
      rw [hc] at hh
      obtain ⟨a1, a2, a3, a4, a5, a6⟩ := ok _ _ _ _ _ _ n2 hp hc
      dsimp only at hh
      by_cases q2 : D j1 = 160 ∨ D j1 = 162 ∨ D j1 = 161
      · rw [if_pos q2] at hh
        have hj : j1 < T := by
          rcases Nat.lt_or_eq_of_le a2 with z | z
          · exact z
          · rw [z, hT] at q2; omega
        cases hc2 : sum (j1 + 1) p1 with
        | error q => rw [hc2] at hh; exact absurd hh (by simp)
        | ok x =>
          obtain ⟨j2, p2, c2, d2⟩ := x
          rw [hc2] at hh
          obtain ⟨b1, b2, b3, b4, b5, b6⟩ := ok _ _ _ _ _ _ (by omega) a4 hc2
          refine fin _ _ _ _ _ (by omega) (fun L => by simp; omega) (fun g1 g2 => ?_) hh
          rw [List.append_assoc, CA_app, CA_app] at g1
          have t1 := xs _ _ _ _ _ _ L n2 hp hc g1.1 (by omega)
          have t2 := xs _ _ _ _ _ _ (L + c1.length) (by omega) a4 hc2 g1.2.1 (by omega)
          have t3 : p2 - p = (p1 - p) + (p2 - p1) := by omega
          have t4 : L + (c1.length + c2.length + 1) = L + c1.length + c2.length + 1 := by omega
          rw [t3, t4]
          have t5 := ex_op (R := fun a b => some (tI (cpr (D j1 - 100) a b))) hs h t1 t2 (by omega) (by omega) (by omega) (by omega) (by omega) (by omega) (by omega) g1.2.2.1.1 (fun ml a b => ⟨fun y hy => by injection hy with hy; rw [← hy]; exact c_cmp hs (by omega) a b, fun hy => absurd hy (by simp)⟩)
          have t6 : ((cmpD (D j1 - 100) d1 d2) (mi 23)).map tI = o2 (fun a b => some (tI (cpr (D j1 - 100) a b))) (d1 (mi 23)) (d2 (mi 23)) := by
            unfold cmpD o2
            cases d1 (mi 23) with
            | none => rfl
            | some a => cases d2 (mi 23) <;> rfl
          rw [t6]
          exact t5
      · rw [if_neg q2] at hh; exact absurd hh (by simp)
theorem x_jp (hs : Sy g) (h : TX g mi X sA aA ln) (hT : D T = 0) {sub : Nat → Nat → RT} (ok : OkT T sub) (hx : XT n g mi X sA aA ln T sub) {t s : Nat} {x : Bool} (ht : t ≠ 0) (hx2 : s = 3 ∧ x = true ∨ s = 4 ∧ x = false) : ∀ (f p0 i p k : Nat) (c : Nat → List (Nat × Nat)) (d : DT) (j p' k' : Nat) (c' : Nat → List (Nat × Nat)) (d' : DT) (L : Nat), i ≤ T → p0 < p → p ≤ 50 → (∀ L, (c L).length = k) → (CA (mi sA) (mi aA) L (c L) → L + k ≤ ln → EX n g mi X ln L (L + k) (p - p0) ((d (mi 23)).map tI)) → pJp D sub t s x f (i, p, k, c, d) = .ok (j, p', k', c', d') → CA (mi sA) (mi aA) L (c' L) → L + k' ≤ ln → EX n g mi X ln L (L + k') (p' - p0) ((d' (mi 23)).map tI)
  | 0, p0, i, p, k, c, d, j, p', k', c', d', L, h2, h3, h4, hk, h5, hh, h6, h7 => by
    injection hh with hh
    obtain ⟨e1, e2, e3, e4, e5⟩ := hh
    exact h5 h6 h7
  | f + 1, p0, i, p, k, c, d, j, p', k', c', d', L, h2, h3, h4, hk, h5, hh, h6, h7 => by
    unfold pJp at hh
    by_cases q : D i = t
    · rw [if_pos q] at hh
      have hi : i < T := by
        rcases Nat.lt_or_eq_of_le h2 with z | z
        · exact z
        · rw [z, hT] at q; exact absurd q.symm ht
      cases hc : sub (i + 1) p with
      | error q => rw [hc] at hh; exact absurd hh (by simp)
      | ok y =>
        obtain ⟨j1, p1, k1, c1, d1⟩ := y
        rw [hc] at hh
        obtain ⟨a1, a2, a3, a4, a5, a6, a7⟩ := ok _ _ _ _ _ _ _ (by omega) h4 hc
        refine x_jp hs h hT ok hx ht hx2 f p0 j1 p1 _ _ _ j p' k' c' d' L a2 (by omega) a4 (fun L => by simp [hk, a7]; omega) (fun g1 g2 => ?_) hh h6 h7
        rw [CA_app, hk] at g1
        have t1 := h5 g1.1 (by omega)
        have t2 := hx _ _ _ _ _ _ _ (L + k + 1) (by omega) h4 hc g1.2.2 (by omega)
        have t3 : p1 - p0 = (p - p0) + (p1 - p) := by omega
        have t4 : L + (k + 1 + k1) = L + k + 1 + k1 := by omega
        rw [t3, t4]
        exact ex_past hs h t1 t2 (by omega) (by omega) (by omega) (by omega) hx2 g1.2.1.1 g1.2.1.2
    · rw [if_neg q] at hh
      injection hh with hh
      obtain ⟨e1, e2, e3, e4, e5⟩ := hh
      exact h5 h6 h7
theorem x_jn (hs : Sy g) (h : TX g mi X sA aA ln) (hT : D T = 0) {sub : Nat → Nat → RT} (ok : OkT T sub) (hx : XT n g mi X sA aA ln T sub) {t s : Nat} {x : Bool} (ht : t ≠ 0) (hx2 : s = 3 ∧ x = true ∨ s = 4 ∧ x = false) : XT n g mi X sA aA ln T (pJn D sub t s x) := by
  intro i p j p' k c d L hi hp hh hC hl
  unfold pJn at hh
  cases hc : sub i p with
  | error q => rw [hc] at hh; exact absurd hh (by simp)
  | ok y =>
    obtain ⟨j1, p1, k1, c1, d1⟩ := y
    rw [hc] at hh
    obtain ⟨a1, a2, a3, a4, a5, a6, a7⟩ := ok _ _ _ _ _ _ _ hi hp hc
    exact x_jp hs h hT ok hx ht hx2 401 p j1 p1 k1 c1 d1 j p' k c d L a2 a3 a4 a7 (fun g1 g2 => hx _ _ _ _ _ _ _ L hi hp hc g1 g2) hh hC hl
theorem xt_e : XT n g mi X sA aA ln T (fun i _ => .error (i - 1)) := fun _ _ _ _ _ _ _ _ _ _ h => absurd h (by simp)
theorem x_test (hs : Sy g) (h : TX g mi X sA aA ln) (hT : D T = 0) : ∀ r, XT n g mi X sA aA ln T (pTest o D V r)
  | 0 => x_jn hs h hT (ok_jn hT (ok_pln hT ok_et (ok_sum hT 0)) (by decide)) (x_jn hs h hT (ok_pln hT ok_et (ok_sum hT 0)) (x_pln hs h hT ok_et (ok_sum hT 0) xt_e (x_sum hs h hT 0)) (by decide) (by decide)) (by decide) (by decide)
  | r + 1 => x_jn hs h hT (ok_jn hT (ok_pln hT (ok_test hT r) (ok_sum hT (r + 1))) (by decide)) (x_jn hs h hT (ok_pln hT (ok_test hT r) (ok_sum hT (r + 1))) (x_pln hs h hT (ok_test hT r) (ok_sum hT (r + 1)) (x_test hs h hT r) (x_sum hs h hT (r + 1))) (by decide) (by decide)) (by decide) (by decide)
end
