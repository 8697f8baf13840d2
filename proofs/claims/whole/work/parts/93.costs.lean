/-! the Java side tells by a law -/
theorem EnL_app {E : Nat → Int32} : ∀ (l1 l2 : List Ci) (k : Nat), EnL E k (l1 ++ l2) ↔ EnL E k l1 ∧ EnL E (k + l1.length) l2
  | [], l2, k => ⟨fun h => ⟨trivial, h⟩, fun h => h.2⟩
  | x :: l1, l2, k => by
    have ih := EnL_app (E := E) l1 l2 (k + 1)
    have e : k + (x :: l1).length = k + 1 + l1.length := by simp; omega
    rw [e]
    exact ⟨fun h => ⟨⟨h.1, (ih.mp h.2).1⟩, (ih.mp h.2).2⟩, fun h => ⟨h.1.1, ih.mpr ⟨h.1.2, h.2⟩⟩⟩
theorem sn_c {α : Type} : ∀ (l : List α), l = [] ∨ ∃ l' x, l = l' ++ [x]
  | [] => Or.inl rfl
  | x :: l => by
    rcases sn_c l with h | ⟨l', y, h⟩
    · subst h; exact Or.inr ⟨[], x, rfl⟩
    · subst h; exact Or.inr ⟨x :: l', y, rfl⟩
/-- a text of the Java side: its arrays, its clauses -/
def LWx (g : zS) (mi : Nat → Nat → Int32) (X sA aA eA ln : Nat) (o : Bool) (D V : Nat → Nat) (T : Nat) (l : List Ci) : Prop := TX g mi X sA aA ln ∧ ((g.2.2.1 X 2 = eA ∧ eA ≠ 0) ∧ g.1 eA = 21 ∧ 5 * l.length ≤ g.2.1 eA ∧ g.2.1 eA < 2147483648) ∧ (mi X 4 = nI l.length ∧ l.length ≤ 12) ∧ EnL (mi eA) 0 l ∧ (D T = 0 ∧ ∃ c, CA (mi sA) (mi aA) 0 c ∧ c.length ≤ ln ∧ pRd o D V T 12 0 0 0 = .ok (l, c))
theorem LWx_c {g g' : zS} {mi mi' : Nat → Nat → Int32} {X sA aA eA ln : Nat} {o : Bool} {D V : Nat → Nat} {T : Nat} {l : List Ci} (h : LWx g mi X sA aA eA ln o D V T l) (hX : mi' X = mi X) (hs : mi' sA = mi sA) (ha : mi' aA = mi aA) (he : mi' eA = mi eA) (gX : g'.1 X = g.1 X ∧ g'.2.2.1 X = g.2.2.1 X) (gs : g'.1 sA = g.1 sA ∧ g'.2.1 sA = g.2.1 sA) (ga : g'.1 aA = g.1 aA ∧ g'.2.1 aA = g.2.1 aA) (ge : g'.1 eA = g.1 eA ∧ g'.2.1 eA = g.2.1 eA) : LWx g' mi' X sA aA eA ln o D V T l := by
  unfold LWx TX at h ⊢
  rw [hX, hs, ha, he, gX.1, gX.2, gs.1, gs.2, ga.1, ga.2, ge.1, ge.2]
  exact h
theorem kl_app {hd : Nat} {e : Nat → Int32} {l : List Ci} {x : Ci} {w : Int64} : kl hd e (l ++ [x]) w = (clv hd e x).getD (kl hd e l w) := by
  unfold kl
  rw [List.foldl_append]
  rfl
theorem c64_m {x : Int64} {h : zH} {n : Nat} : (zb (f_J9_min_f86c9 n 99 x h) fun r3 h4 => zb (f_J9_max_f86c9 n 0 r3 h4) fun r5 h6 => some (Int64.toInt32 r5, h6)) = some (Int64.toInt32 (c64 x), h) := by
  unfold f_J9_min_f86c9 f_J9_max_f86c9 c64
  have h99 : (99 : Int64).toInt = 99 := by decide +kernel
  have h00 : (0 : Int64).toInt = 0 := by decide +kernel
  by_cases q1 : 0 < lg_cmp 99 x
  · rw [if_pos q1, zb_s]
    rw [lg_cmp_gt, Int64.lt_iff_toInt_lt, h99] at q1
    by_cases q2 : lg_cmp 0 x < 0
    · rw [if_pos q2, zb_s]
      rw [lg_cmp_lt, Int64.lt_iff_toInt_lt, h00] at q2
      rw [if_pos (by rw [lg_cmp_ge, Int64.le_iff_toInt_le, h00]; omega), if_pos (by rw [lg_cmp_le, Int64.le_iff_toInt_le, h99]; omega)]
    · rw [if_neg q2, zb_s]
      rw [lg_cmp_lt, Int64.lt_iff_toInt_lt, h00] at q2
      by_cases q3 : 0 ≤ lg_cmp x 0
      · rw [if_pos q3, if_pos (by rw [lg_cmp_le, Int64.le_iff_toInt_le, h99]; omega)]
        rw [lg_cmp_ge, Int64.le_iff_toInt_le, h00] at q3
        have : x = 0 := Int64.toInt_inj.mp (by rw [h00]; omega)
        rw [this]
      · rw [if_neg q3]
  · rw [if_neg q1, zb_s]
    rw [lg_cmp_gt, Int64.lt_iff_toInt_lt, h99] at q1
    rw [if_pos (by rw [lg_cmp_lt, Int64.lt_iff_toInt_lt, h00, h99]; decide), zb_s, if_pos (by rw [lg_cmp_ge, Int64.le_iff_toInt_le, h00]; omega)]
    by_cases q3 : lg_cmp x 99 ≤ 0
    · rw [if_pos q3]
      rw [lg_cmp_le, Int64.le_iff_toInt_le, h99] at q3
      have : x = 99 := Int64.toInt_inj.mp (by rw [h99]; omega)
      rw [this]
    · rw [if_neg q3]
theorem i64_10 : (1 : Int64) ≠ 0 := by decide +kernel
theorem nI_m1 (k : Nat) : nI (k + 1) + m1 = nI k := pk_m1 k
theorem nI0_m1 : nI 0 + m1 = m1 := by decide
section
variable {g : zS} {mi : Nat → Nat → Int32} {ml : Nat → Nat → Int64} {n X sA aA eA ln T : Nat} {o : Bool} {D V : Nat → Nat} {l : List Ci} {v : Nat → Int32}
theorem c_entry (hx : LWx g mi X sA aA eA ln o D V T l) {k w : Nat} (hk : k < l.length) (hw : w < 5) : f_X8_entry n X (nI k) (nI w) (g, mi, ml) = some (mi eA (5 * k + w), (g, mi, ml)) := by
  obtain ⟨h1, ⟨⟨h2, h3⟩, h4, h5, h6⟩, h7, -⟩ := hx
  unfold f_X8_entry
  simp only [li, ng1]
  rw [q_let, pk_mul, nI_add, iLt0 (by omega) (by omega) (by omega), q_gR h1.1.1 h2 h3, q_ln h4 rfl, iLe0 (by omega) (by omega) (by omega), q_gR h1.1.1 h2 h3, q_aI h4 rfl h6 (by omega)]
theorem en_at (hx : LWx g mi X sA aA eA ln o D V T l) {l1 l2 : List Ci} {x : Ci} (e : l = l1 ++ x :: l2) : l1.length < l.length ∧ mi eA (5 * l1.length + 0) = nI x.1 ∧ mi eA (5 * l1.length + 1) = oL x.2.1 ∧ mi eA (5 * l1.length + 2) = oL x.2.2.1 ∧ mi eA (5 * l1.length + 3) = nI x.2.2.2.1 ∧ mi eA (5 * l1.length + 4) = oL x.2.2.2.2 := by
  have h := hx.2.2.2.1
  rw [e, EnL_app, Nat.zero_add] at h
  exact ⟨by rw [e]; simp, h.2.1⟩
theorem rk_all (hs : Sy g) (hx : LWx g mi X sA aA eA ln o D V T l) : ∀ x, x ∈ l → RKi n g mi X sA ln x := by
  obtain ⟨h1, -, -, -, h5, c, h6, h7, h8⟩ := hx
  exact x_rd hs h1 h5 12 0 0 0 l c (by omega) (by omega) h8 h6 (by omega)
theorem c_rt (hs : Sy g) (hn : 3000 < n) (hx : TX g mi X sA aA ln) {x : Ci} (hr : RKi n g mi X sA ln x) : ∃ r ml', f_X4_runs n 22 X (oL x.2.2.2.2) (g, mi, ml) = some (r, (g, mi, ml')) ∧ ((tst (mi 23) x = true ∧ r = nI 1 ∧ ml' 22 2 ≠ 0) ∨ (tst (mi 23) x = false ∧ (r = nI 0 ∨ (r = nI 1 ∧ ml' 22 2 = 0)))) := by
  rw [tst_q]
  have h3 := hr.2.2
  cases hq : x.2.2.2.2 with
  | none => exact ⟨nI 1, _, c_runs0 hs, Or.inl ⟨rfl, rfl, by rw [zul_s]; exact i64_10⟩⟩
  | some f =>
    obtain ⟨L, d⟩ := f
    obtain ⟨L', p, e1, e2, e3, e4, e5, e6⟩ := h3 _ hq
    obtain ⟨r1, r2⟩ := c_runs (ml := ml) hs hx e1 e2 e3 e5 e4 (by omega) e6
    show ∃ r ml', f_X4_runs n 22 X (nI L) (g, mi, ml) = some (r, (g, mi, ml')) ∧ (((match d (mi 23) with | some b => b | none => false) = true ∧ r = nI 1 ∧ ml' 22 2 ≠ 0) ∨ ((match d (mi 23) with | some b => b | none => false) = false ∧ (r = nI 0 ∨ (r = nI 1 ∧ ml' 22 2 = 0))))
    have r1 : ∀ x, Option.map tI (d (mi 23)) = some x → ∃ ml', f_X4_runs n 22 X (nI L) (g, mi, ml) = some (nI 1, (g, mi, ml')) ∧ ml' 22 2 = x ∧ ∀ a, a ≠ 24 → a ≠ 22 → ml' a = ml a := r1
    have r2 : Option.map tI (d (mi 23)) = none → ∃ ml', f_X4_runs n 22 X (nI L) (g, mi, ml) = some (nI 0, (g, mi, ml')) ∧ ∀ a, a ≠ 24 → a ≠ 22 → ml' a = ml a := r2
    cases hd : d (mi 23) with
    | none =>
      obtain ⟨ml', s1, -⟩ := r2 (by rw [hd]; rfl)
      exact ⟨_, ml', s1, Or.inr ⟨rfl, Or.inl rfl⟩⟩
    | some b =>
      obtain ⟨ml', s1, s2, -⟩ := r1 (tI b) (by rw [hd]; rfl)
      refine ⟨_, ml', s1, ?_⟩
      cases b
      · exact Or.inr ⟨rfl, Or.inr ⟨rfl, s2⟩⟩
      · exact Or.inl ⟨rfl, rfl, by rw [s2]; exact i64_10⟩
theorem c_rs (hs : Sy g) (hn : 3000 < n) (hx : TX g mi X sA aA ln) {f : Nat × DS} (hr : RK n g mi X sA ln f.1 (f.2 (mi 23))) : (∀ y, f.2 (mi 23) = some y → ∃ ml', f_X4_runs n 22 X (nI f.1) (g, mi, ml) = some (nI 1, (g, mi, ml')) ∧ ml' 22 2 = y) ∧ (f.2 (mi 23) = none → ∃ ml', f_X4_runs n 22 X (nI f.1) (g, mi, ml) = some (nI 0, (g, mi, ml'))) := by
  obtain ⟨L', p, e1, e2, e3, e4, e5, e6⟩ := hr
  obtain ⟨r1, r2⟩ := c_runs (ml := ml) hs hx e1 e2 e3 e5 e4 (by omega) e6
  refine ⟨fun y h => ?_, fun h => ?_⟩
  · obtain ⟨ml', s1, s2, -⟩ := r1 y h
    exact ⟨ml', s1, s2⟩
  · obtain ⟨ml', s1, -⟩ := r2 h
    exact ⟨ml', s1⟩
/-- one clause of costs -/
theorem c_cst (hs : Sy g) (hn : 3000 < n) (hx : LWx g mi X sA aA eA ln o D V T l) {l1 l2 : List Ci} {x : Ci} (e : l = l1 ++ x :: l2) (hL : LC x) {k61 : Nat → Nat → Int32 → zH → Option (Int32 × zH)} : (∀ y, clv 0 (mi 23) x = some y → ∃ ml', fb_X6_costOf_61 n k61 25 X (nI l1.length) (g, mi, ml) = some (Int64.toInt32 y, (g, mi, ml'))) ∧ (clv 0 (mi 23) x = none → ∃ ml', fb_X6_costOf_61 n k61 25 X (nI l1.length) (g, mi, ml) = k61 25 X (nI l1.length + m1) (g, mi, ml')) := by
  obtain ⟨h0, h1, h2, h3, h4, h5⟩ := en_at hx e
  have hr := rk_all (n := n) hs hx x (by rw [e]; simp)
  have hl := hx.2.2.1.2
  have hck : ∀ (ml : Nat → Nat → Int64) (Y : Option (Int32 × zH)), zck ((g, mi, ml) : zH) 9 X Y = Y := fun ml Y => q_ck hx.1.1.1
  have u : ∀ ml, fb_X6_costOf_61 n k61 25 X (nI l1.length) (g, mi, ml) = if nI x.1 = nI 0 then zb (f_X4_runs n 22 X (oL x.2.2.2.2) (g, mi, ml)) fun r6 h7 => (if r6 = nI 0 then fb_X6_costOf_147 n k61 25 X (nI l1.length) h7 else zgR h7 7 25 0 fun v8 => zgL h7 5 v8 2 fun v9 => if lg_cmp v9 0 = nI 0 then fb_X6_costOf_147 n k61 25 X (nI l1.length) h7 else zgR h7 7 25 0 fun v10 => zck h7 9 X (zb (f_X8_entry n X (nI l1.length) (nI 1) h7) fun r11 h12 => zck h12 5 v10 (zb (f_X4_runs n v10 X r11 h12) fun r13 h14 => if r13 = nI 0 then fb_X6_costOf_147 n k61 25 X (nI l1.length) h14 else fb_X6_costOf_124 n 25 h14))) else fb_X6_costOf_147 n k61 25 X (nI l1.length) (g, mi, ml) := by
    intro ml
    unfold fb_X6_costOf_61
    simp only [li]
    rw [iLt0 (by omega) (by omega) (by omega), hck, c_entry hx h0 (by decide), zb_s, h1]
    by_cases q : nI x.1 = nI 0
    · rw [iP q, iP q, S_gR25_0 hs, hck, c_entry hx h0 (by decide), zb_s, h5, S_ck22 hs]
    · rw [iN q, iN q]
  have u147 : ∀ ml, fb_X6_costOf_147 n k61 25 X (nI l1.length) (g, mi, ml) = k61 25 X (nI l1.length + m1) (g, mi, ml) := fun _ => rfl
  rw [u]
  unfold clv
  by_cases q : x.1 = 0
  · rw [iP q, iP (show nI x.1 = nI 0 by rw [q])]
    obtain ⟨r, ml1, e1, e2⟩ := c_rt (ml := ml) hs hn hx.1 hr
    rw [e1, zb_s]
    rcases e2 with ⟨a1, a2, a3⟩ | ⟨a1, a2⟩
    · rw [iP a1, a2, iN n01.symm, S_gR25_0 hs, S_gL22 hs, iN (by rw [cmp0]; exact a3), S_gR25_0 hs, hck, c_entry hx h0 (by decide), zb_s, h2, S_ck22 hs]
      rcases hL.1 with ⟨b1, b2⟩ | ⟨b1, f, b2, b3⟩
      · rw [q] at b1; exact absurd b1 (by decide)
      · rw [b2]
        obtain ⟨s1, s2⟩ := c_rs (ml := ml1) hs hn hx.1 (hr.1 f b2)
        show (∀ y, Option.map c64 (f.2 (mi 23)) = some y → _) ∧ (Option.map c64 (f.2 (mi 23)) = none → _)
        have of : oL (some f) = nI f.1 := by obtain ⟨f1, f2⟩ := f; rfl
        rw [of]
        cases hd : f.2 (mi 23) with
        | none =>
          obtain ⟨ml2, t1⟩ := s2 hd
          refine ⟨fun y hy => absurd hy (by simp), fun _ => ⟨ml2, ?_⟩⟩
          rw [t1, zb_s, iP rfl, u147]
        | some z =>
          obtain ⟨ml2, t1, t2⟩ := s1 z hd
          refine ⟨fun y hy => ⟨ml2, ?_⟩, fun hy => absurd hy (by simp)⟩
          have hy : c64 z = y := by simpa using hy
          rw [t1, zb_s, iN n01.symm]
          unfold fb_X6_costOf_124
          rw [S_gR25_0 hs, S_gL22 hs, c64_m, t2, hy]
    · refine ⟨fun y hy => absurd hy (by rw [iN (by rw [a1]; simp)]; simp), fun _ => ⟨ml1, ?_⟩⟩
      rcases a2 with a2 | ⟨a2, a3⟩
      · rw [a2, iP rfl, u147]
      · rw [a2, iN n01.symm, S_gR25_0 hs, S_gL22 hs, iP (by rw [cmp0]; exact a3), u147]
  · rw [iN q]
    refine ⟨fun y hy => absurd hy (by simp), fun _ => ⟨ml, ?_⟩⟩
    have hx1 : x.1 = 1 := by
      rcases hL.1 with b | b
      · exact b.1
      · exact absurd b.1 q
    rw [iN (show ¬ nI x.1 = nI 0 by rw [hx1]; exact n01.symm), u147]
theorem c_cl (hs : Sy g) (hn : 3000 < n) (hx : LWx g mi X sA aA eA ln o D V T l) (hL : ∀ x, x ∈ l → LC x) : ∀ (m : Nat) (l1 l2 : List Ci) (ff : Nat) (ml : Nat → Nat → Int64), l1.length = m → l = l1 ++ l2 → m < ff → ∃ ml', zlp3 (fb_X6_costOf_61 n) ff 25 X (nI l1.length + m1) (g, mi, ml) = some (Int64.toInt32 (kl 0 (mi 23) l1 (nI 1).toInt64), (g, mi, ml'))
  | m, l1, l2, 0, ml, _, _, hf => absurd hf (by omega)
  | 0, l1, l2, ff + 1, ml, hm, he, _ => by
    have : l1 = [] := List.length_eq_zero_iff.mp hm
    subst this
    refine ⟨ml, ?_⟩
    show fb_X6_costOf_61 n (zlp3 (fb_X6_costOf_61 n) ff) 25 X (nI 0 + m1) (g, mi, ml) = _
    rw [nI0_m1]
    unfold fb_X6_costOf_61
    rw [if_pos (by decide)]
    rfl
  | m + 1, l1, l2, ff + 1, ml, hm, he, hf => by
    rcases sn_c l1 with h | ⟨l0, x, h⟩
    · subst h; exact absurd hm (by simp)
    · subst h
      have hm : l0.length = m := by simpa using hm
      have he2 : l = l0 ++ x :: l2 := by rw [he]; simp
      have e0 : nI (l0 ++ [x]).length + m1 = nI l0.length := by
        have : (l0 ++ [x]).length = l0.length + 1 := by simp
        rw [this, nI_m1]
      rw [e0, kl_app]
      obtain ⟨r1, r2⟩ := c_cst (ml := ml) (k61 := zlp3 (fb_X6_costOf_61 n) ff) hs hn hx he2 (hL x (by rw [he2]; simp))
      cases hc : clv 0 (mi 23) x with
      | some y => exact r1 y hc
      | none =>
        obtain ⟨ml1, s1⟩ := r2 hc
        obtain ⟨ml2, s2⟩ := c_cl hs hn hx hL m l0 (x :: l2) ff ml1 hm he2 (by omega)
        exact ⟨ml2, s1.trans s2⟩
/-- one clause of bars -/
theorem c_bcl (hs : Sy g) (hn : 3000 < n) (hx : LWx g mi X sA aA eA ln o D V T l) {l1 l2 : List Ci} {x : Ci} (e : l = l1 ++ x :: l2) (hL : LC x) {k32 : Nat → Nat → Int32 → zH → Option (Int32 × zH)} : ((clv 1 (mi 23) x = some 1) ∧ ∃ ml', fb_X6_bars_32 n k32 25 X (nI l1.length) (g, mi, ml) = some (nI 1, (g, mi, ml'))) ∨ (clv 1 (mi 23) x = none ∧ ∃ ml', fb_X6_bars_32 n k32 25 X (nI l1.length) (g, mi, ml) = k32 25 X (nI (l1.length + 1)) (g, mi, ml')) := by
  obtain ⟨h0, h1, h2, h3, h4, h5⟩ := en_at hx e
  have hr := rk_all (n := n) hs hx x (by rw [e]; simp)
  have hl := hx.2.2.1
  have hck : ∀ (ml : Nat → Nat → Int64) (Y : Option (Int32 × zH)), zck ((g, mi, ml) : zH) 9 X Y = Y := fun ml Y => q_ck hx.1.1.1
  have u84 : ∀ ml, fb_X6_bars_84 n k32 25 X (nI l1.length) (g, mi, ml) = k32 25 X (nI (l1.length + 1)) (g, mi, ml) := by
    intro ml
    unfold fb_X6_bars_84
    simp only [li, nI_add]
  have u : fb_X6_bars_32 n k32 25 X (nI l1.length) (g, mi, ml) = if nI x.1 = nI 1 then zb (f_X4_runs n 22 X (oL x.2.2.2.2) (g, mi, ml)) fun r7 h8 => (if r7 = nI 0 then fb_X6_bars_84 n k32 25 X (nI l1.length) h8 else zgR h8 7 25 0 fun v9 => zgL h8 5 v9 2 fun v10 => if lg_cmp v10 0 = nI 0 then fb_X6_bars_84 n k32 25 X (nI l1.length) h8 else some (nI 1, h8)) else fb_X6_bars_84 n k32 25 X (nI l1.length) (g, mi, ml) := by
    unfold fb_X6_bars_32
    simp only [li]
    rw [q_gI hx.1.1.1, hl.1, iLe0 (by omega) (by omega) (by omega), hck, c_entry hx h0 (by decide), zb_s, h1]
    by_cases q : nI x.1 = nI 1
    · rw [iP q, iP q, S_gR25_0 hs, hck, c_entry hx h0 (by decide), zb_s, h5, S_ck22 hs]
    · rw [iN q, iN q]
  rw [u]
  unfold clv
  rcases hL.1 with ⟨b1, b2⟩ | ⟨b1, f, b2, b3⟩
  · rw [iP b1, iP (show nI x.1 = nI 1 by rw [b1]), b2]
    obtain ⟨r, ml1, e1, e2⟩ := c_rt (ml := ml) hs hn hx.1 hr
    rw [e1, zb_s]
    rcases e2 with ⟨a1, a2, a3⟩ | ⟨a1, a2⟩
    · refine Or.inl ⟨by rw [iP a1], ml1, ?_⟩
      rw [a2, iN n01.symm, S_gR25_0 hs, S_gL22 hs, iN (by rw [cmp0]; exact a3)]
    · refine Or.inr ⟨by rw [iN (by rw [a1]; simp)], ml1, ?_⟩
      rcases a2 with a2 | ⟨a2, a3⟩
      · rw [a2, iP rfl, u84]
      · rw [a2, iN n01.symm, S_gR25_0 hs, S_gL22 hs, iP (by rw [cmp0]; exact a3), u84]
  · refine Or.inr ⟨by rw [iN (by rw [b1]; decide)], ml, ?_⟩
    rw [iN (show ¬ nI x.1 = nI 1 by rw [b1]; exact n01), u84]
def anyB (e : Nat → Int32) (l : List Ci) : Bool := l.any (fun x => (clv 1 e x).isSome)
theorem kl_1 {e : Nat → Int32} : ∀ (l : List Ci) (w : Int64), (∀ x, x ∈ l → LC x) → kl 1 e l w = if anyB e l = true then 1 else w
  | [], w, _ => rfl
  | x :: l, w, h => by
    have h1 := h x List.mem_cons_self
    have ih := fun w => kl_1 (e := e) l w (fun y hy => h y (List.mem_cons_of_mem _ hy))
    show kl 1 e l ((clv 1 e x).getD w) = if ((clv 1 e x).isSome || anyB e l) = true then 1 else w
    rw [ih]
    have hx : clv 1 e x = none ∨ clv 1 e x = some 1 := by
      unfold clv
      rcases h1.1 with ⟨b1, b2⟩ | ⟨b1, f, b2, b3⟩
      · rw [if_pos b1, b2]
        by_cases z : tst e x = true
        · rw [if_pos z]; exact Or.inr rfl
        · rw [if_neg z]; exact Or.inl rfl
      · rw [if_neg (by rw [b1]; decide)]; exact Or.inl rfl
    rcases hx with hx | hx <;> rw [hx]
    · cases anyB e l <;> rfl
    · cases anyB e l <;> rfl
theorem c_bl (hs : Sy g) (hn : 3000 < n) (hx : LWx g mi X sA aA eA ln o D V T l) (hL : ∀ x, x ∈ l → LC x) : ∀ (l2 l1 : List Ci) (ff : Nat) (ml : Nat → Nat → Int64), l = l1 ++ l2 → l2.length < ff → ∃ ml', zlp3 (fb_X6_bars_32 n) ff 25 X (nI l1.length) (g, mi, ml) = some (if anyB (mi 23) l2 = true then nI 1 else nI 0, (g, mi, ml'))
  | l2, l1, 0, ml, _, hf => absurd hf (by omega)
  | [], l1, ff + 1, ml, he, hf => by
    have hl := hx.2.2.1
    refine ⟨ml, ?_⟩
    show fb_X6_bars_32 n (zlp3 (fb_X6_bars_32 n) ff) 25 X (nI l1.length) (g, mi, ml) = _
    unfold fb_X6_bars_32
    have : l.length = l1.length := by rw [he]; simp
    rw [q_gI hx.1.1.1, hl.1, this, if_pos (by rw [nLe (by omega) (by omega)]; exact Nat.le_refl _)]
    rfl
  | x :: l2, l1, ff + 1, ml, he, hf => by
    show ∃ ml', fb_X6_bars_32 n (zlp3 (fb_X6_bars_32 n) ff) 25 X (nI l1.length) (g, mi, ml) = some (if ((clv 1 (mi 23) x).isSome || anyB (mi 23) l2) = true then nI 1 else nI 0, (g, mi, ml'))
    rcases c_bcl (ml := ml) (k32 := zlp3 (fb_X6_bars_32 n) ff) hs hn hx he (hL x (by rw [he]; simp)) with ⟨a1, ml1, a2⟩ | ⟨a1, ml1, a2⟩
    · refine ⟨ml1, ?_⟩
      rw [a2, a1]; rfl
    · obtain ⟨ml2, b1⟩ := c_bl hs hn hx hL l2 (l1 ++ [x]) ff ml1 (by rw [he]; simp) (by simpa using hf)
      have : (l1 ++ [x]).length = l1.length + 1 := by simp
      rw [this] at b1
      refine ⟨ml2, ?_⟩
      rw [a2, b1, a1]; rfl
theorem c_tw (hs : Sy g) {a0 a1 a2 a3 : Int32} : ∃ f, f_X6_tellWhere n 25 a0 a1 a2 a3 (g, mi, ml) = some ((), (g, zrw mi 23 f, ml)) ∧ f 0 = a0 ∧ f 1 = a1 ∧ f 2 = a2 ∧ f 3 = a3 := by
  refine ⟨upd (upd (upd (upd (mi 23) 0 a0) 1 a1) 2 a2) 3 a3, ?_, ?_, ?_, ?_, ?_⟩
  · unfold f_X6_tellWhere
    simp only [li]
    have e : mi = zrw mi 23 (mi 23) := (u_self mi 23).symm
    have e1 : zu mi 23 0 a0 = zrw mi 23 (upd (mi 23) 0 a0) := rfl
    simp (disch := omega) only [↓S_gR25_0 hs, ↓S_gR22_0 hs, ↓S_eI23 hs, e1, u_ru]
  · rw [upd_ne (by decide), upd_ne (by decide), upd_ne (by decide), upd_eq]
  · rw [upd_ne (by decide), upd_ne (by decide), upd_eq]
  · rw [upd_ne (by decide), upd_eq]
  · rw [upd_eq]
theorem c_tq (hs : Sy g) {f : Nat → Int32} {a0 a1 : Int32} : ∃ f', f_X6_tellWhat n 25 a0 a1 (g, zrw mi 23 f, ml) = some ((), (g, zrw mi 23 f', ml)) ∧ (∀ k, k < 4 → f' k = f k) ∧ f' 4 = a0 ∧ f' 5 = a1 ∧ f' 6 = mi 25 5 := by
  refine ⟨upd (upd (upd f 4 a0) 5 a1) 6 (mi 25 5), ?_, fun k hk => ?_, ?_, ?_, ?_⟩
  · unfold f_X6_tellWhat
    simp only [li]
    simp (disch := omega) only [↓S_gR25_0 hs, ↓S_gR22_0 hs, ↓S_eI23 hs, ↓S_gI25 hs, u_ru, zrw_a]
  · rw [upd_ne (by omega), upd_ne (by omega), upd_ne (by omega)]
  · rw [upd_ne (by decide), upd_ne (by decide), upd_eq]
  · rw [upd_ne (by decide), upd_eq]
  · rw [upd_eq]
theorem ag_env {f : Nat → Int32} {a0 a1 a2 a3 a4 t m : Int32} (h0 : f 0 = a0) (h1 : f 1 = a1) (h2 : f 2 = a2) (h3 : f 3 = a3) (h4 : f 4 = a4) (h5 : f 5 = t) (h6 : f 6 = m) : AG f (env a0 a1 a2 a3 a4 t m) := by
  intro k hk
  have : k = 0 ∨ k = 1 ∨ k = 2 ∨ k = 3 ∨ k = 4 ∨ k = 5 ∨ k = 6 := by omega
  rcases this with q | q | q | q | q | q | q <;> subst q
  · exact h0
  · exact h1
  · exact h2
  · exact h3
  · exact h4
  · exact h5
  · exact h6
theorem LWx_23 (h : LWx g mi X sA aA eA ln o D V T l) (hX : X ≠ 23) (h1 : sA ≠ 23) (h2 : aA ≠ 23) (h3 : eA ≠ 23) {f : Nat → Int32} : LWx g (zrw mi 23 f) X sA aA eA ln o D V T l := LWx_c h (zrw_a hX) (zrw_a h1) (zrw_a h2) (zrw_a h3) ⟨rfl, rfl⟩ ⟨rfl, rfl⟩ ⟨rfl, rfl⟩ ⟨rfl, rfl⟩
theorem c_cost (hs : Sy g) (hn : 3000 < n) {w : Nat} (hw : zWL.contains w = true) (hw2 : w = 2 ∨ w = 12) (hR : WR mi w v) (hm : mi 25 5 = v 204) (hx : LWx g mi X sA aA eA ln false D V T l) (hX : X ≠ 0) (hX2 : 25 < X) (h1 : 25 < sA) (h2 : 25 < aA) (h3 : 25 < eA) {nd ch : Nat} (hnd : nd < 8) : ∃ f ml', f_X6_costOf n 25 X (nI nd) (nI ch) w (g, mi, ml) = some (KL l v nd ch, (g, zrw mi 23 f, ml')) := by
  have hL : ∀ x, x ∈ l → LC x := by
    obtain ⟨-, -, -, -, -, c, -, -, h8⟩ := hx
    exact lc_rd 12 0 0 0 l c h8
  obtain ⟨f, e1, a0, a1, a2, a3⟩ := c_tw (mi := mi) (ml := ml) (n := n) (a0 := nI nd) (a1 := nI (lev nd)) (a2 := nI ch) (a3 := v 164) hs
  obtain ⟨f', e2, b0, b4, b5, b6⟩ := c_tq (mi := mi) (ml := ml) (n := n) (f := f) (a0 := m1) (a1 := v 190) hs
  have hx' := LWx_23 (f := f') hx (by omega) (by omega) (by omega) (by omega)
  have hl := hx.2.2.1
  obtain ⟨ml', e3⟩ := c_cl hs hn hx' hL l.length l [] n ml rfl (by simp) (by omega)
  rw [zrw_eq] at e3
  refine ⟨f', ml', ?_⟩
  have e4 : fb_X6_costOf_25 n 25 X (nI nd) (nI ch) w (nI (lev nd)) (g, mi, ml) = some (KL l v nd ch, (g, zrw mi 23 f', ml')) := by
    unfold fb_X6_costOf_25
    simp only [li, ng1]
    have r9 : zrw mi 23 f w 9 = v 190 := by rw [zrw_a (by omega)]; exact rd_time hR
    have rx : zrw mi 23 f' X 4 = nI l.length := by rw [zrw_a (by omega)]; exact hl.1
    have e5 : nI l.length - nI 1 = nI l.length + m1 := Int32.sub_eq_add_neg _ _
    rw [W_gR0 hs hw, C_gI hs hw, rd_cc hR, S_ck25 hs, e1, zb_s, W_gI hs hw, r9, S_ck25 hs, e2, zb_s, q_gI hx.1.1.1, rx, q_let, e5, e3]
    have ag : AG f' (env (nI nd) (nI (lev nd)) (nI ch) (v 164) m1 (v 190) (v 204)) := ag_env ((b0 0 (by decide)).trans a0) ((b0 1 (by decide)).trans a1) ((b0 2 (by decide)).trans a2) ((b0 3 (by decide)).trans a3) b4 b5 (b6.trans hm)
    unfold KL
    rw [kl_c ag l _ hL]
  unfold f_X6_costOf
  simp only [li]
  rw [iN hX]
  unfold lev at e4
  by_cases q : nd = 1
  · rw [iP q] at e4
    rw [iEq1 q, e4]
  · rw [iN q] at e4
    rw [iEq0 (by omega) (by omega) q]
    by_cases q2 : 4 ≤ nd
    · rw [iP q2] at e4
      rw [iLe1 (by omega) (by omega) q2, e4]
    · rw [iN q2] at e4
      rw [iLe0 (by omega) (by omega) (by omega), e4]
theorem c_bar (hs : Sy g) (hn : 3000 < n) (hm : mi 25 5 = v 204) (hx : LWx g mi X sA aA eA ln false D V T l) (hX : X ≠ 0) (hX2 : 25 < X) (h1 : 25 < sA) (h2 : 25 < aA) (h3 : 25 < eA) (ha : f_X6_lawAt n 25 (mi 25 3) (g, mi, ml) = some (X, (g, mi, ml))) {k : Nat} : ∃ f ml', f_X6_bars n 25 (nI k) (v 190) (g, mi, ml) = some (if BL l v k = nI 1 then nI 1 else nI 0, (g, zrw mi 23 f, ml')) := by
  have hL : ∀ x, x ∈ l → LC x := by
    obtain ⟨-, -, -, -, -, c, -, -, h8⟩ := hx
    exact lc_rd 12 0 0 0 l c h8
  obtain ⟨f, e1, a0, a1, a2, a3⟩ := c_tw (mi := mi) (ml := ml) (n := n) (a0 := m1) (a1 := m1) (a2 := m1) (a3 := m1) hs
  obtain ⟨f', e2, b0, b4, b5, b6⟩ := c_tq (mi := mi) (ml := ml) (n := n) (f := f) (a0 := nI k) (a1 := v 190) hs
  have hx' := LWx_23 (f := f') hx (by omega) (by omega) (by omega) (by omega)
  have hl := hx.2.2.1
  obtain ⟨ml', e3⟩ := c_bl hs hn hx' hL l [] n ml (by simp) (by omega)
  rw [zrw_eq] at e3
  refine ⟨f', ml', ?_⟩
  unfold f_X6_bars
  simp only [li, ng1]
  have e5 : zlp3 (fb_X6_bars_32 n) n 25 X (nI 0) (g, zrw mi 23 f', ml) = _ := e3
  rw [S_gI25 hs, S_ck25 hs, ha, zb_s, iN hX, S_ck25 hs, e1, zb_s, S_ck25 hs, e2, zb_s, e5]
  have ag : AG f' (env m1 m1 m1 m1 (nI k) (v 190) (v 204)) := ag_env ((b0 0 (by decide)).trans a0) ((b0 1 (by decide)).trans a1) ((b0 2 (by decide)).trans a2) ((b0 3 (by decide)).trans a3) b4 b5 (b6.trans hm)
  unfold BL
  rw [← kl_c ag l _ hL, kl_1 l _ hL]
  cases anyB f' l
  · show some (nI 0, _) = some (if Int64.toInt32 (nI 0).toInt64 = nI 1 then nI 1 else nI 0, _)
    rw [iN (show ¬ Int64.toInt32 (nI 0).toInt64 = nI 1 by decide +kernel)]
  · show some (nI 1, _) = some (if Int64.toInt32 1 = nI 1 then nI 1 else nI 0, _)
    rw [iP (show Int64.toInt32 1 = nI 1 by decide +kernel)]
end
