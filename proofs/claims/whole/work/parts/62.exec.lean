/-! steps of the Java side's machine, and codes -/
section
variable {n : Nat} {g : zS} {mi : Nat → Nat → Int32} {ml : Nat → Nat → Int64} {X sA aA ln : Nat} {ρ : Type}
theorem tx_ln {K : Int32 → Option ρ} (h : TX g mi X sA aA ln) : zgI ((g, mi, ml) : zH) 9 X 3 K = K (nI ln) := by
  rw [q_gI h.1.1, h.2.2.1]
theorem tx_r0 {K : Nat → Option ρ} (h : TX g mi X sA aA ln) : zgR ((g, mi, ml) : zH) 9 X 0 K = K sA := q_gR h.1.1 h.1.2.1 h.1.2.2.1
theorem tx_r1 {K : Nat → Option ρ} (h : TX g mi X sA aA ln) : zgR ((g, mi, ml) : zH) 9 X 1 K = K aA := q_gR h.1.1 h.1.2.2.2.1 h.1.2.2.2.2
theorem tx_s {K : Int32 → Option ρ} (h : TX g mi X sA aA ln) {j : Nat} (hj : j < ln) : zaI ((g, mi, ml) : zH) 21 sA (nI j) K = K (mi sA j) := q_aI h.2.1.1 rfl h.2.1.2.2.1.2 (Nat.lt_of_lt_of_le hj h.2.1.2.2.1.1)
theorem tx_a {K : Int32 → Option ρ} (h : TX g mi X sA aA ln) {j : Nat} (hj : j < ln) : zaI ((g, mi, ml) : zH) 21 aA (nI j) K = K (mi aA j) := q_aI h.2.1.2.1 rfl h.2.1.2.2.2.2 (Nat.lt_of_lt_of_le hj h.2.1.2.2.2.1)
variable {f t pl dn a : Nat}
theorem x_num (hs : Sy g) (h : TX g mi X sA aA ln) (h1 : pl < ln) (h2 : dn < ln) (ht : t < 64) (e1 : mi sA pl = nI 0) (e2 : mi aA pl = nI a) (ha : a < 2000) : zlp5 (fb_X4_runs_20 n) (f + 1) 22 X (nI t) (nI pl) (nI dn) (g, mi, ml) = zlp5 (fb_X4_runs_20 n) f 22 X (nI (t + 1)) (nI (pl + 1)) (nI (dn + 1)) (g, mi, zu ml 24 t (nI a).toInt64) := by
  have hl := h.2.2.2
  show fb_X4_runs_20 n (zlp5 (fb_X4_runs_20 n) f) 22 X (nI t) (nI pl) (nI dn) (g, mi, ml) = _
  generalize zlp5 (fb_X4_runs_20 n) f = kk
  unfold fb_X4_runs_20
  simp only [lit]
  simp (disch := omega) only [↓tx_ln h, ↓tx_r0 h, ↓tx_r1 h, ↓tx_s h, ↓tx_a h, ↓iLe1, ↓iLe0, ↓iLt1, ↓iLt0, ↓iEq1, ↓iEq0, e1, e2]
  unfold fb_X4_runs_77 fb_X4_runs_110 fb_X4_runs_134 fb_X4_runs_329
  simp only [lit]
  simp (disch := omega) only [↓iLe1, ↓iLe0, ↓iLt1, ↓iLt0, ↓iEq1, ↓iEq0, ↓if_T, ↓if_F, ↓S_gR22_1 hs, ↓S_eL24 hs, nI_add]
theorem x_wrd (hs : Sy g) (h : TX g mi X sA aA ln) (h1 : pl < ln) (h2 : dn < ln) (ht : t < 64) (e1 : mi sA pl = nI 1) (e2 : mi aA pl = nI a) (ha : a < 113) : zlp5 (fb_X4_runs_20 n) (f + 1) 22 X (nI t) (nI pl) (nI dn) (g, mi, ml) = zlp5 (fb_X4_runs_20 n) f 22 X (nI (t + 1)) (nI (pl + 1)) (nI (dn + 1)) (g, mi, zu ml 24 t (mi 23 a).toInt64) := by
  have hl := h.2.2.2
  show fb_X4_runs_20 n (zlp5 (fb_X4_runs_20 n) f) 22 X (nI t) (nI pl) (nI dn) (g, mi, ml) = _
  generalize zlp5 (fb_X4_runs_20 n) f = kk
  unfold fb_X4_runs_20
  simp only [lit]
  simp (disch := omega) only [↓tx_ln h, ↓tx_r0 h, ↓tx_r1 h, ↓tx_s h, ↓tx_a h, ↓iLe1, ↓iLe0, ↓iLt1, ↓iLt0, ↓iEq1, ↓iEq0, e1, e2]
  unfold fb_X4_runs_77 fb_X4_runs_110 fb_X4_runs_134 fb_X4_runs_329
  simp only [lit]
  simp (disch := omega) only [↓iLe1, ↓iLe0, ↓iLt1, ↓iLt0, ↓iEq1, ↓iEq0, ↓if_T, ↓if_F, ↓S_gR22_1 hs, ↓S_gR22_0 hs, ↓S_ln23 hs, ↓S_aI23 hs, ↓S_eL24 hs, nI_add]
theorem x_not (hs : Sy g) (h : TX g mi X sA aA ln) (h1 : pl < ln) (h2 : dn < ln) (ht : t < 64) (e1 : mi sA pl = nI 2) : zlp5 (fb_X4_runs_20 n) (f + 1) 22 X (nI (t + 1)) (nI pl) (nI dn) (g, mi, ml) = zlp5 (fb_X4_runs_20 n) f 22 X (nI (t + 1)) (nI (pl + 1)) (nI (dn + 1)) (g, mi, zu ml 24 t (1 - ml 24 t)) := by
  have hl := h.2.2.2
  show fb_X4_runs_20 n (zlp5 (fb_X4_runs_20 n) f) 22 X (nI (t + 1)) (nI pl) (nI dn) (g, mi, ml) = _
  generalize zlp5 (fb_X4_runs_20 n) f = kk
  unfold fb_X4_runs_20
  simp only [lit, ng1]
  simp (disch := omega) only [↓tx_ln h, ↓tx_r0 h, ↓tx_r1 h, ↓tx_s h, ↓tx_a h, ↓iLe1, ↓iLe0, ↓iLt1, ↓iLt0, ↓iEq1, ↓iEq0, e1]
  unfold fb_X4_runs_329
  try simp only [lit]
  simp (disch := omega) only [↓iLe1, ↓iLe0, ↓iLt1, ↓iLt0, ↓iEq1, ↓iEq0, ↓if_T, ↓if_F, ↓S_gR22_1 hs, ↓S_aL24 hs, ↓S_eL24 hs, nI_add, nI_sub, Nat.add_sub_cancel]
theorem x_stop (hs : Sy g) (h : TX g mi X sA aA ln) (h1 : pl < ln) (h2 : dn < ln) (ht : t < 64) (e1 : mi sA pl = nI 5) : zlp5 (fb_X4_runs_20 n) (f + 1) 22 X (nI (t + 1)) (nI pl) (nI dn) (g, mi, ml) = some (nI 1, (g, mi, zu ml 22 2 (ml 24 t))) := by
  have hl := h.2.2.2
  show fb_X4_runs_20 n (zlp5 (fb_X4_runs_20 n) f) 22 X (nI (t + 1)) (nI pl) (nI dn) (g, mi, ml) = _
  generalize zlp5 (fb_X4_runs_20 n) f = kk
  unfold fb_X4_runs_20
  simp only [lit]
  simp (disch := omega) only [↓tx_ln h, ↓tx_r0 h, ↓tx_r1 h, ↓tx_s h, ↓tx_a h, ↓iLe1, ↓iLe0, ↓iLt1, ↓iLt0, ↓iEq1, ↓iEq0, e1]
  unfold fb_X4_runs_160
  try simp only [lit]
  simp (disch := omega) only [↓iLe1, ↓iLe0, ↓iLt1, ↓iLt0, ↓iEq1, ↓iEq0, ↓if_T, ↓if_F, ↓S_gR22_1 hs, ↓S_aL24 hs, ↓S_pL22 hs, nI_sub, Nat.add_sub_cancel]
theorem x_past (hs : Sy g) (h : TX g mi X sA aA ln) (h1 : pl < ln) (h2 : dn < ln) (ht : t < 64) {s : Nat} {x b : Bool} (hx : s = 3 ∧ x = true ∨ s = 4 ∧ x = false) (e1 : mi sA pl = nI s) (e2 : mi aA pl = nI a) (hb : ml 24 t = tI b) : zlp5 (fb_X4_runs_20 n) (f + 1) 22 X (nI (t + 1)) (nI pl) (nI dn) (g, mi, ml) = if b = x then zlp5 (fb_X4_runs_20 n) f 22 X (nI (t + 1)) (nI a) (nI (dn + 1)) (g, mi, ml) else zlp5 (fb_X4_runs_20 n) f 22 X (nI t) (nI (pl + 1)) (nI (dn + 1)) (g, mi, ml) := by
  have hl := h.2.2.2
  show fb_X4_runs_20 n (zlp5 (fb_X4_runs_20 n) f) 22 X (nI (t + 1)) (nI pl) (nI dn) (g, mi, ml) = _
  generalize zlp5 (fb_X4_runs_20 n) f = kk
  have z1 : (tI true = 0) = False := by decide
  have z0 : (tI false = 0) = True := by decide
  rcases hx with ⟨hs', hx⟩ | ⟨hs', hx⟩ <;> subst hs' <;> subst hx
  · unfold fb_X4_runs_20
    simp only [lit]
    simp (disch := omega) only [↓tx_ln h, ↓tx_r0 h, ↓tx_r1 h, ↓tx_s h, ↓tx_a h, ↓iLe1, ↓iLe0, ↓iLt1, ↓iLt0, ↓iEq1, ↓iEq0, e1, e2]
    unfold fb_X4_runs_213 fb_X4_runs_231 fb_X4_runs_242 fb_X4_runs_250 fb_X4_runs_264 fb_X4_runs_278 fb_X4_runs_329
    simp only [lit]
    cases b
    · simp (disch := omega) only [↓iLe1, ↓iLe0, ↓iLt1, ↓iLt0, ↓iEq1, ↓iEq0, ↓if_T, ↓if_F, ↓S_gR22_1 hs, ↓S_aL24 hs, hb, ↓cmp0, z0, nI_add, nI_sub, Nat.add_sub_cancel, Bool.false_eq_true]
    · simp (disch := omega) only [↓iLe1, ↓iLe0, ↓iLt1, ↓iLt0, ↓iEq1, ↓iEq0, ↓if_T, ↓if_F, ↓S_gR22_1 hs, ↓S_aL24 hs, hb, ↓cmp0, z1, nI_add, nI_sub, Nat.add_sub_cancel]
  · unfold fb_X4_runs_20
    simp only [lit]
    simp (disch := omega) only [↓tx_ln h, ↓tx_r0 h, ↓tx_r1 h, ↓tx_s h, ↓tx_a h, ↓iLe1, ↓iLe0, ↓iLt1, ↓iLt0, ↓iEq1, ↓iEq0, e1, e2]
    unfold fb_X4_runs_213 fb_X4_runs_231 fb_X4_runs_242 fb_X4_runs_250 fb_X4_runs_264 fb_X4_runs_278 fb_X4_runs_329
    simp only [lit]
    cases b
    · simp (disch := omega) only [↓iLe1, ↓iLe0, ↓iLt1, ↓iLt0, ↓iEq1, ↓iEq0, ↓if_T, ↓if_F, ↓S_gR22_1 hs, ↓S_aL24 hs, hb, ↓cmp0, z0, nI_add, nI_sub, Nat.add_sub_cancel]
    · simp (disch := omega) only [↓iLe1, ↓iLe0, ↓iLt1, ↓iLt0, ↓iEq1, ↓iEq0, ↓if_T, ↓if_F, ↓S_gR22_1 hs, ↓S_aL24 hs, hb, ↓cmp0, z1, nI_add, nI_sub, Nat.add_sub_cancel, Bool.true_eq_false]
theorem x_op (hs : Sy g) (h : TX g mi X sA aA ln) (h1 : pl < ln) (h2 : dn < ln) (ht : t + 1 < 64) {s : Nat} (hs1 : 6 ≤ s) (hs2 : s < 500) (e1 : mi sA pl = nI s) : zlp5 (fb_X4_runs_20 n) (f + 1) 22 X (nI (t + 2)) (nI pl) (nI dn) (g, mi, ml) = zb (f_X4_isBroken n 22 (nI s) (ml 24 t) (ml 24 (t + 1)) (g, mi, ml)) fun r11 h12 => if r11 = nI 0 then (zgR h12 5 22 1 fun v13 => zgL h12 5 22 2 fun v14 => zeL h12 v13 (nI t) v14 fun h15 => zlp5 (fb_X4_runs_20 n) f 22 X (nI (t + 1)) (nI (pl + 1)) (nI (dn + 1)) h15) else some (nI 0, h12) := by
  have hl := h.2.2.2
  show fb_X4_runs_20 n (zlp5 (fb_X4_runs_20 n) f) 22 X (nI (t + 2)) (nI pl) (nI dn) (g, mi, ml) = _
  generalize zlp5 (fb_X4_runs_20 n) f = kk
  unfold fb_X4_runs_20
  simp only [lit, ng1]
  simp (disch := omega) only [↓tx_ln h, ↓tx_r0 h, ↓tx_r1 h, ↓tx_s h, ↓tx_a h, ↓iLe1, ↓iLe0, ↓iLt1, ↓iLt0, ↓iEq1, ↓iEq0, e1]
  unfold fb_X4_runs_329
  try simp only [lit]
  have t1 : t + 2 - 1 = t + 1 := by omega
  have t2 : t + 2 - 2 = t := by omega
  have t3 : nI (t + 2) + m1 = nI (t + 1) := by
    have e : m1 = 0 - nI 1 := by decide
    rw [e, ← t1, ← nI_sub (by omega), Int32.sub_eq_add_neg, Int32.sub_eq_add_neg, Int32.zero_add]
  simp (disch := omega) only [↓iLe1, ↓iLe0, ↓iLt1, ↓iLt0, ↓iEq1, ↓iEq0, ↓if_T, ↓if_F, ↓S_gR22_1 hs, ↓S_aL24 hs, nI_add, nI_sub, t1, t2, t3, ↓S_ck22 hs, Nat.add_sub_cancel]
end
