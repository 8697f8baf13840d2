/-! writes of the Java side at its cells -/
def Fw (w : Nat) (mi mi' : Nat → Nat → Int32) : Prop := ∀ a, (a < w ∨ w + 10 ≤ a) → mi' a = mi a
def FC (w : Nat) (mi mi' : Nat → Nat → Int32) : Prop := ∀ a, a ≠ 23 → (a < w ∨ w + 10 ≤ a) → mi' a = mi a
def FM (M M' : Nat → Nat → Int32) : Prop := (∀ a, a ≠ 422 → a ≠ 424 → a ≠ 434 → M' a = M a) ∧ ∀ k, (k < 22 ∨ 25 < k) → M' 422 k = M 422 k
theorem Fw_zu {w a k : Nat} {x : Int32} {mi : Nat → Nat → Int32} (h1 : w ≤ a) (h2 : a < w + 10) : Fw w mi (zu mi a k x) := fun b hb => zu_a (by omega)
theorem Fw_t {w : Nat} {m1 m2 m3 : Nat → Nat → Int32} (h1 : Fw w m1 m2) (h2 : Fw w m2 m3) : Fw w m1 m3 := fun a ha => (h2 a ha).trans (h1 a ha)
theorem Fw_r {w : Nat} (m : Nat → Nat → Int32) : Fw w m m := fun _ _ => rfl
theorem FC_t {w : Nat} {m1 m2 m3 : Nat → Nat → Int32} (h1 : FC w m1 m2) (h2 : FC w m2 m3) : FC w m1 m3 := fun a h ha => (h2 a h ha).trans (h1 a h ha)
theorem FC_w {w : Nat} {m m' : Nat → Nat → Int32} (h : Fw w m m') : FC w m m' := fun a _ ha => h a ha
theorem FC_23 {w : Nat} {m : Nat → Nat → Int32} {f : Nat → Int32} : FC w m (zrw m 23 f) := fun a h _ => zrw_a h
theorem FM_r (m : Nat → Nat → Int32) : FM m m := ⟨fun _ _ _ _ => rfl, fun _ _ => rfl⟩
theorem FM_t {m m' m'' : Nat → Nat → Int32} (h1 : FM m m') (h2 : FM m' m'') : FM m m'' := ⟨fun a x y z => (h2.1 a x y z).trans (h1.1 a x y z), fun k hk => (h2.2 k hk).trans (h1.2 k hk)⟩
section
variable {g : zS} {mi M : Nat → Nat → Int32} {v : Nat → Int32} {ml : Nat → Nat → Int64} {w n : Nat}
theorem c_leadTo (hs : Sy g) (hw : zWL.contains w = true) (hR : WR mi w v) {b : Nat} (hb : b = 96 ∨ 72 ≤ b ∧ b < 96) {x : Int32} : ∃ mi', f_X0_leadTo n (w + 1) (prI b) x (g, mi, ml) = some ((), (g, mi', ml)) ∧ WR mi' w (upd v b x) ∧ Fw w mi mi' := by
  unfold f_X0_leadTo prI
  by_cases q : b = 96
  · refine ⟨zu mi (w + 1) 6 x, ?_, ?_, Fw_zu (by omega) (by omega)⟩
    · rw [if_pos q, c_isCellN]
      simp only [lit, zb_s, if_pos, C_pI hs hw]
    · rw [q]
      exact L_pl hR pl_head (by decide) (by decide)
  · refine ⟨zu mi (w + 5) (b - 72) x, ?_, ?_, Fw_zu (by omega) (by omega)⟩
    · rw [if_neg q, c_isCell (by omega)]
      simp (disch := omega) only [lit, zb_s, nEq, if_neg, C_gR3 hs hw, A_eI5 hs hw]
    · have h := L_pl (x := x) hR (pl_next (w := w) (j := b - 72) (by omega)) (by omega) (by omega)
      have e : 72 + (b - 72) = b := by omega
      rw [e] at h
      exact h
theorem c_retire (hs : Sy g) (hw : zWL.contains w = true) (hR : WR mi w v) {c a : Nat} (hc : c < 24) (ha : a < 24) (hv : v 139 = nI a) : ∃ mi', f_X0_retire n (w + 1) (nI c) (g, mi, ml) = some ((), (g, mi', ml)) ∧ WR mi' w (upd (upd (upd v c (nI 2)) (140 + a) (nI c)) 139 (nI (a + 1))) ∧ Fw w mi mi' := by
  have h1 := L_pl (x := nI 2) hR (pl_kind (w := w) hc) (by omega) (by omega)
  have e1 : upd v c (nI 2) 139 = nI a := by rw [upd_ne (by omega), hv]
  refine ⟨_, ?_, L_wt (x := nI c) h1 ha e1, Fw_t (Fw_t (Fw_zu (by omega) (by omega)) (Fw_zu (by omega) (by omega))) (Fw_zu (by omega) (by omega))⟩
  unfold f_X0_retire
  have e2 : mi (w + 1) 7 = nI a := by rw [rd_wc hR, hv]
  simp (disch := omega) only [lit, C_gI hs hw, C_gR0 hs hw, C_gR4 hs hw, C_pI hs hw, A_eI2 hs hw, A_eI6 hs hw, nLe, if_neg, zu_a, e2, nI_add]
theorem r_ages (hs : Sy g) {c a : Nat} (hc : c < 24) (ha : a < 24) (hv : v 139 = nI a) : f_X12_ages n 422 (nI c) (g, zrw M 424 v, ml) = some ((), (g, zrw M 424 (upd (upd (upd v c (nI 2)) (140 + a) (nI c)) 139 (nI (a + 1))), ml)) := by
  unfold f_X12_ages
  simp (disch := omega) only [lit, S_gR422_2 hs, R_a hs, R_e hs, nI_add, Nat.zero_add, upd_ne, hv]
/-- what a put makes of the row -/
def v_put (v : Nat → Int32) (c b : Nat) (key val x : Int32) : Nat → Int32 := upd (upd (upd (upd (upd v c (nI 1)) (24 + c) key) (48 + c) val) (72 + c) x) b (nI c)
def v_age (v : Nat → Int32) (c a : Nat) : Nat → Int32 := upd (upd (upd v c (nI 2)) (140 + a) (nI c)) 139 (nI (a + 1))
theorem v_put_hi {c b : Nat} {key val x : Int32} (hc : c < 24) (hb : b = 96 ∨ 72 ≤ b ∧ b < 96) {k : Nat} (hk : 97 ≤ k) : v_put v c b key val x k = v k := by
  unfold v_put
  rw [upd_ne (by omega), upd_ne (by omega), upd_ne (by omega), upd_ne (by omega), upd_ne (by omega)]
theorem c_put54 (hs : Sy g) (hw : zWL.contains w = true) (hR : WR mi w v) {c b : Nat} {key val : Int32} (hc : c < 24) (hb : b = 96 ∨ 72 ≤ b ∧ b < 96) : (∀ x, ∃ mi', fb_X0_insert_54 n (w + 1) key val (nI c) (prI b) x (nI 0) (g, mi, ml) = some (nI c, (g, mi', ml)) ∧ WR mi' w (v_put v c b key val x) ∧ Fw w mi mi') ∧ ∀ d a, d < 24 → a < 24 → v 139 = nI a → ∃ mi', fb_X0_insert_54 n (w + 1) key val (nI c) (prI b) (nI d) (nI 1) (g, mi, ml) = some (nI c, (g, mi', ml)) ∧ WR mi' w (v_age (v_put v c b key val (v (72 + d))) d a) ∧ Fw w mi mi' := by
  have h1 := L_pl (x := nI 1) hR (pl_kind (w := w) hc) (by omega) (by omega)
  have h2 := L_pl (x := key) h1 (pl_key (w := w) hc) (by omega) (by omega)
  have h3 := L_pl (x := val) h2 (pl_val (w := w) hc) (by omega) (by omega)
  have f3 : Fw w mi (zu (zu (zu mi (w + 2) c (nI 1)) (w + 3) c key) (w + 4) c val) := Fw_t (Fw_t (Fw_zu (by omega) (by omega)) (Fw_zu (by omega) (by omega))) (Fw_zu (by omega) (by omega))
  constructor
  · intro x
    have h4 := L_pl (x := x) h3 (pl_next (w := w) hc) (by omega) (by omega)
    obtain ⟨mi', q1, q2, q3⟩ := c_leadTo (ml := ml) (n := n) hs hw h4 hb (x := nI c)
    refine ⟨mi', ?_, q2, Fw_t (Fw_t f3 (Fw_zu (by omega) (by omega))) q3⟩
    unfold fb_X0_insert_54 fb_X0_insert_99
    simp (disch := omega) only [lit, C_gR0 hs hw, C_gR1 hs hw, C_gR2 hs hw, C_gR3 hs hw, C_ck hs hw, A_eI2 hs hw, A_eI3 hs hw, A_eI4 hs hw, A_eI5 hs hw, if_T, if_pos, q1, zb_s]
  · intro d a hd ha hv
    have h4 := L_pl (x := v (72 + d)) h3 (pl_next (w := w) hc) (by omega) (by omega)
    obtain ⟨mi', q1, q2, q3⟩ := c_leadTo (ml := ml) (n := n) hs hw h4 hb (x := nI c)
    obtain ⟨mi'', p1, p2, p3⟩ := c_retire (ml := ml) (n := n) hs hw q2 hd ha (by rw [← hv]; exact v_put_hi hc hb (by decide))
    refine ⟨mi'', ?_, p2, Fw_t (Fw_t (Fw_t f3 (Fw_zu (by omega) (by omega))) q3) p3⟩
    unfold fb_X0_insert_54 fb_X0_insert_99
    have e1 : zu (zu (zu mi (w + 2) c (nI 1)) (w + 3) c key) (w + 4) c val (w + 5) d = v (72 + d) := by
      rw [rd_next h3 hd, upd_ne (by omega), upd_ne (by omega), upd_ne (by omega)]
    simp (disch := omega) only [lit, C_gR0 hs hw, C_gR1 hs hw, C_gR2 hs hw, C_gR3 hs hw, C_ck hs hw, A_eI2 hs hw, A_eI3 hs hw, A_eI4 hs hw, A_eI5 hs hw, A_aI5 hs hw, nEq, if_neg, e1, q1, zb_s, p1]
theorem r_put85 (hs : Sy g) {c b : Nat} {key val : Int32} (hc : c < 24) (hb : b = 96 ∨ 72 ≤ b ∧ b < 96) : (∀ x, fb_X12_puts_85 n 422 key val (nI c) (nI b) x (nI 0) (g, zrw M 424 v, ml) = some (nI c, (g, zrw M 424 (v_put v c b key val x), ml))) ∧ ∀ d a, d < 24 → a < 24 → v 139 = nI a → fb_X12_puts_85 n 422 key val (nI c) (nI b) (nI d) (nI 1) (g, zrw M 424 v, ml) = some (nI c, (g, zrw M 424 (v_age (v_put v c b key val (v (72 + d))) d a), ml)) := by
  have hb2 : b < 5815 := by omega
  constructor
  · intro x
    unfold fb_X12_puts_85 fb_X12_puts_144 v_put
    simp (disch := omega) only [lit, S_gR422_2 hs, R_e hs, nI_add, Nat.zero_add, if_T, if_pos]
  · intro d a hd ha hv
    have e := r_ages (n := n) (M := M) (ml := ml) (v := v_put v c b key val (v (72 + d))) hs hd ha (by rw [← hv]; exact v_put_hi hc hb (by decide))
    unfold fb_X12_puts_85 fb_X12_puts_144
    unfold v_put at e ⊢
    simp (disch := omega) only [lit, S_gR422_2 hs, S_ck422 hs, R_e hs, R_a hs, nI_add, Nat.zero_add, nEq, if_neg, upd_ne, e, zb_s]
    rfl
end
/-! what holds of the row at all times -/
def Ls (v : Nat → Int32) : Nat → List Nat → Prop
  | _, [] => True
  | k, c :: l => v k = nI c ∧ Ls v (k + 1) l
def GIr (v : Nat → Int32) (lc : List Nat) : Prop := ∃ N : Nat → Nat, (∀ q, 0 < q → q < 8 → N q < 4 ∧ v (131 + q) = nI (N q)) ∧ ((v 129 = nI 0 ∧ lc = [] ∧ (∀ q, 0 < q → q < 8 → N q = 0) ∧ ∀ p, p < 8 → v (121 + p) = nI 0) ∨ (v 129 = nI 1 ∧ ∀ q, 2 ≤ q → q < 8 → Nat.testBit (N (q / 2)) (q % 2) = false → N q = 0 ∧ (4 ≤ q → v (121 + 2 * (q - 4)) = nI 0 ∧ v (121 + (2 * (q - 4) + 1)) = nI 0)))
def CIr (v : Nat → Int32) (l lw lc : List Nat) : Prop :=
  (Lk v (v 96) l ∧ l.Pairwise (fun a b => v (24 + a) < v (24 + b))) ∧
  ((∀ c, c < 24 → v c = nI 0 ∨ v c = nI 1 ∨ v c = nI 2) ∧ (∀ c, c < 24 → (v c = nI 1 ↔ c ∈ l)) ∧ (∀ c, c < 24 → (v c = nI 2 ↔ c ∈ lw ++ lc)) ∧ ∀ c, c < 24 → ∃ k, k < 100 ∧ v (24 + c) = nI k) ∧
  (Ls v 140 lw ∧ v 139 = nI lw.length ∧ Ls v 165 lc ∧ v 164 = nI lc.length ∧ (lw ++ lc).Nodup ∧ ∀ c, c ∈ lw ++ lc → c < 24)
def PIr (v : Nat → Int32) : Prop := ∀ p, p < 8 → ((v (97 + p) = nI 0 ∨ v (97 + p) = nI 1) ∧ (v (113 + p) = nI 0 ∨ v (113 + p) = nI 1) ∧ (v (121 + p) = nI 0 ∨ v (121 + p) = nI 1)) ∧ (v (113 + p) = nI 1 → v (97 + p) = nI 1) ∧ (v (121 + p) = nI 1 → v (113 + p) = nI 1) ∧ (v (97 + p) = nI 1 → ∃ l, Lk v (v (105 + p)) l)
def WI (v : Nat → Int32) : Prop := ∃ l lw lc, CIr v l lw lc ∧ PIr v ∧ GIr v lc
theorem Ls_cong {v v' : Nat → Int32} : ∀ {l : List Nat} {k : Nat}, Ls v k l → (∀ j, k ≤ j → j < k + l.length → v' j = v j) → Ls v' k l
  | [], _, _, _ => trivial
  | c :: l, k, h, e => ⟨by rw [e k (by omega) (by simp)]; exact h.1, Ls_cong h.2 (fun j h1 h2 => e j (by omega) (by simp; omega))⟩
theorem Ls_snoc {v : Nat → Int32} {c : Nat} : ∀ {l : List Nat} {k : Nat}, Ls v k l → v (k + l.length) = nI c → Ls v k (l ++ [c])
  | [], _, _, e => ⟨e, trivial⟩
  | d :: l, k, h, e => ⟨h.1, Ls_snoc h.2 (by rw [← e]; congr 1; simp; omega)⟩
theorem GIr_cong {v v' : Nat → Int32} {lc : List Nat} (h : GIr v lc) (e : ∀ k, 121 ≤ k → k < 139 → v' k = v k) : GIr v' lc := by
  obtain ⟨N, h1, h2⟩ := h
  refine ⟨N, fun q a b => ⟨(h1 q a b).1, by rw [e _ (by omega) (by omega)]; exact (h1 q a b).2⟩, ?_⟩
  rcases h2 with ⟨a, b, c, d⟩ | ⟨a, b⟩
  · exact Or.inl ⟨by rw [e _ (by omega) (by omega)]; exact a, b, c, fun p hp => by rw [e _ (by omega) (by omega)]; exact d p hp⟩
  · refine Or.inr ⟨by rw [e _ (by omega) (by omega)]; exact a, fun q a1 a2 a3 => ?_⟩
    obtain ⟨z1, z2⟩ := b q a1 a2 a3
    exact ⟨z1, fun h4 => by rw [e _ (by omega) (by omega), e _ (by omega) (by omega)]; exact z2 h4⟩
