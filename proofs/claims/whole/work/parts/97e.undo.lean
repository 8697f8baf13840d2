/-! what can be undone -/
theorem fm_t : ∀ x, x < 34 → (0 : Int32) ≤ nI x ^^^ nI 17 := by decide
theorem hw_t : ∀ s, s < 17 → zHL.contains (2, 31, s, 33 + 10 * s) = true ∧ zWL.contains (33 + 10 * s) = true ∧ zHL.contains (2, 204, s, 206 + 10 * s) = true ∧ zWL.contains (206 + 10 * s) = true := by decide +kernel
theorem slt_lt (f i : Nat) : slt f i < 17 := Nat.mod_lt _ (by decide)
theorem slt_ne {f i j : Nat} (hf : f < 17) (h : i < j) (hj : j < 17) : slt f i ≠ slt f j := by
  unfold slt; omega
section
variable {B c : Nat} {g : zS} {mi : Nat → Nat → Int32} {v : Nat → Int32} {ml : Nat → Nat → Int64} {n : Nat}
theorem c_fm {x : Nat} (hx : x < 34) {h : zH} : f_J9_floorMod_7cf53 n (nI x) (nI 17) h = some (nI (x % 17), h) := by
  unfold f_J9_floorMod_7cf53
  rw [if_neg (by decide), q_let, pk_rem (by omega) (by decide) (by decide), if_pos (fm_t x hx)]
theorem c_slot (hs : Sy g) {f i : Nat} (hf : f < 17) (hi : i ≤ 16) (h2 : mi 30 2 = nI f) : f_X2_slotOf n 30 (nI i) (g, mi, ml) = some (nI (slt f i), (g, mi, ml)) := by
  unfold f_X2_slotOf
  simp only [li]
  rw [S_gI30 hs, h2, nI_add, c_fm (by omega), zb_s]
  rfl
theorem h_ref (hs : Sy g) {s : Nat} (hs17 : s < 17) {ρ : Type} {K : Nat → Option ρ} : zaN ((g, mi, ml) : zH) 26 31 (nI s) K = K (33 + 10 * s) := by
  have e : g.2.2.1 31 s = 33 + 10 * s := Sy_h hs (2, 31, s, 33 + 10 * s) (hw_t s hs17).1
  rw [q_aN (Sy_f hs (0, 31, 0, 26) rfl) (Sy_f hs (1, 31, 0, 17) rfl) (by decide) hs17 (by rw [e]; omega), e]
theorem c_prep (hs : Sy g) {f m : Nat} (hf : f < 17) (hm : m ≤ 16) (h2 : mi 30 2 = nI f) (h3 : mi 30 3 = nI m) (hR : WR mi 2 v) (hI : v 129 = nI 0 ∨ v 129 = nI 1) : ∃ mi', f_X2_prepare n 30 2 (g, mi, ml) = some ((), (g, mi', ml)) ∧ WR mi' (33 + 10 * slt f m) v ∧ Fw (33 + 10 * slt f m) mi mi' := by
  have hs17 := slt_lt f m
  obtain ⟨mi', a1, a2, a3⟩ := c_copy (u := 33 + 10 * slt f m) (w := 2) (ml := ml) (n := n) hs (hw_t _ hs17).2.1 w2c (by omega) hR hI
  refine ⟨mi', ?_, a2, a3⟩
  unfold f_X2_prepare
  rw [S_gR30_0 hs, S_gI30 hs, h3, S_ck30 hs, c_slot hs hf hm h2, zb_s, h_ref hs hs17, W_ck hs (hw_t _ hs17).2.1, a1, zb_s]
theorem c_commit (hs : Sy g) {f m k : Nat} (hf : f < 17) (hm : m ≤ 16) (h2 : mi 30 2 = nI f) (h3 : mi 30 3 = nI m) : f_X2_commit n 30 (nI k) (g, mi, ml) = some ((), (g, if m = 16 then zu (zu mi 32 (slt f m) (nI k)) 30 2 (nI (slt f 1)) else zu (zu mi 32 (slt f m) (nI k)) 30 3 (nI (m + 1)), ml)) := by
  have hs17 := slt_lt f m
  have e2 : zu mi 32 (slt f m) (nI k) 30 2 = nI f := by rw [zu_a (by decide)]; exact h2
  have e3 : zu mi 32 (slt f m) (nI k) 30 3 = nI m := by rw [zu_a (by decide)]; exact h3
  unfold f_X2_commit
  simp only [li]
  rw [S_gR30_1 hs, S_gI30 hs, h3, S_ck30 hs, c_slot hs hf hm h2, zb_s, S_eI32 hs hs17, S_gI30 hs, e3]
  by_cases q : m = 16
  · rw [iLe1 (by omega) (by omega) (by omega), if_pos q, S_ck30 hs, c_slot hs hf (by decide) e2, zb_s, S_pI30 hs]
  · rw [iLe0 (by omega) (by omega) (by omega), if_neg q, S_gI30 hs, e3, S_pI30 hs, nI_add]
/-! the plain form's rows -/
/-- row b, from o on, holds the first N of A -/
def cpT (R A : Nat → Int32) (o t : Nat) : Nat → Int32 := fun i => if o ≤ i ∧ i < o + t then A (i - o) else R i
theorem cpT_u {A R : Nat → Int32} {o t : Nat} {x : Int32} (hx : x = A t) : upd (cpT R A o t) (o + t) x = cpT R A o (t + 1) := by
  funext i
  by_cases q : i = o + t
  · subst q
    unfold cpT
    rw [upd_eq, if_pos (by omega), Nat.add_sub_cancel_left, hx]
  · rw [upd_ne q]
    unfold cpT
    by_cases z : o ≤ i ∧ i < o + t
    · rw [if_pos z, if_pos (by omega)]
    · rw [if_neg z, if_neg (by omega)]
theorem cpT_0 {A R : Nat → Int32} {o : Nat} : cpT R A o 0 = R := by
  funext i
  unfold cpT
  rw [if_neg (by omega)]
theorem cpT_in {R A : Nat → Int32} {o t i : Nat} (h : i < t) : cpT R A o t (o + i) = A i := by
  unfold cpT; rw [if_pos (by omega), Nat.add_sub_cancel_left]
theorem cpT_out {R A : Nat → Int32} {o t i : Nat} (h : i < o ∨ o + t ≤ i) : cpT R A o t i = R i := by
  unfold cpT; rw [if_neg (by omega)]
theorem ur_s {M : Nat → Nat → Int32} {b k : Nat} {R : Nat → Int32} {x : Int32} : zu (zrw M b R) b k x = zrw M b (upd R k x) := u_ru M b k R x
theorem r_lay (hs : Sy g) {k : Nat} (hk : k < 3) : ∀ (r t f : Nat), t + r = 191 → r < f → zlp3 (fb_X12_laysAside_2 n) f 422 (nI k) (nI t) (g, zrw mi 427 (cpT (mi 427) (mi 424) (191 * k) t), ml) = some ((), (g, zrw mi 427 (cpT (mi 427) (mi 424) (191 * k) 191), ml))
  | r, t, 0, _, h => absurd h (by omega)
  | 0, t, f + 1, h1, _ => by
    have : t = 191 := by omega
    subst this
    show fb_X12_laysAside_2 n (zlp3 (fb_X12_laysAside_2 n) f) 422 (nI k) (nI 191) _ = _
    unfold fb_X12_laysAside_2
    simp only [li]
    rw [iLe1 (by omega) (by omega) (by omega)]
  | r + 1, t, f + 1, h1, h2 => by
    have ih := r_lay hs hk r (t + 1) f (by omega) (by omega)
    rw [← ih]
    show fb_X12_laysAside_2 n (zlp3 (fb_X12_laysAside_2 n) f) 422 (nI k) (nI t) _ = _
    generalize zlp3 (fb_X12_laysAside_2 n) f = K
    unfold fb_X12_laysAside_2
    simp only [li]
    rw [iLe0 (by omega) (by omega) (by omega), S_gR422_5 hs, S_gR422_2 hs, S_aI424 hs (by omega), zrw_a (by decide), pk_mul, nI_add, S_eI427 hs (by omega), ur_s, nI_add, cpT_u rfl]
theorem r_laysAside (hs : Sy g) (hn : 6000 < n) {k : Nat} (hk : k < 3) : f_X12_laysAside n 422 (nI k) (g, mi, ml) = some ((), (g, zrw mi 427 (cpT (mi 427) (mi 424) (191 * k) 191), ml)) := by
  have e := r_lay (mi := mi) (ml := ml) (n := n) hs hk 191 0 n rfl (by omega)
  have e0 : cpT (mi 427) (mi 424) (191 * k) 0 = mi 427 := cpT_0
  rw [e0, u_self] at e
  exact e
theorem r_tak (hs : Sy g) {k : Nat} (hk : k < 3) : ∀ (r t f : Nat), t + r = 191 → r < f → zlp3 (fb_X12_takesBack_2 n) f 422 (nI k) (nI t) (g, zrw mi 424 (cpT (mi 424) (fun i => mi 427 (191 * k + i)) 0 t), ml) = some ((), (g, zrw mi 424 (cpT (mi 424) (fun i => mi 427 (191 * k + i)) 0 191), ml))
  | r, t, 0, _, h => absurd h (by omega)
  | 0, t, f + 1, h1, _ => by
    have : t = 191 := by omega
    subst this
    show fb_X12_takesBack_2 n (zlp3 (fb_X12_takesBack_2 n) f) 422 (nI k) (nI 191) _ = _
    unfold fb_X12_takesBack_2
    simp only [li]
    rw [iLe1 (by omega) (by omega) (by omega)]
  | r + 1, t, f + 1, h1, h2 => by
    have ih := r_tak hs hk r (t + 1) f (by omega) (by omega)
    rw [← ih]
    show fb_X12_takesBack_2 n (zlp3 (fb_X12_takesBack_2 n) f) 422 (nI k) (nI t) _ = _
    generalize zlp3 (fb_X12_takesBack_2 n) f = K
    unfold fb_X12_takesBack_2
    simp only [li]
    rw [iLe0 (by omega) (by omega) (by omega), S_gR422_2 hs, S_gR422_5 hs, pk_mul, nI_add, S_aI427 hs (by omega), zrw_a (by decide), S_eI424 hs (by omega), ur_s, nI_add]
    have e := cpT_u (A := fun i => mi 427 (191 * k + i)) (R := mi 424) (o := 0) (t := t) (x := mi 427 (191 * k + t)) rfl
    rw [Nat.zero_add] at e
    rw [e]
theorem r_takesBack (hs : Sy g) (hn : 6000 < n) {k : Nat} (hk : k < 3) : f_X12_takesBack n 422 (nI k) (g, mi, ml) = some ((), (g, zrw mi 424 (cpT (mi 424) (fun i => mi 427 (191 * k + i)) 0 191), ml)) := by
  have e := r_tak (mi := mi) (ml := ml) (n := n) hs hk 191 0 n rfl (by omega)
  have e0 : cpT (mi 424) (fun i => mi 427 (191 * k + i)) 0 0 = mi 424 := cpT_0
  rw [e0, u_self] at e
  exact e
def shT (R : Nat → Int32) (t : Nat) : Nat → Int32 := fun i => if i < t then R (i + 192) else R i
theorem shT_u {R : Nat → Int32} {t : Nat} : upd (shT R t) t (R (t + 192)) = shT R (t + 1) := by
  funext i
  unfold upd shT
  by_cases q : i = t
  · rw [if_pos q, if_pos (by omega), q]
  · rw [if_neg q]
    by_cases z : i < t
    · rw [if_pos z, if_pos (by omega)]
    · rw [if_neg z, if_neg (by omega)]
theorem r_k22 (hs : Sy g) {l1 l2 : Int32} : ∀ (r t f : Nat), t + r = 2880 → r < f → zlp5 (fb_X12_keptOr_22 n) f 422 l1 l2 (nI 192) (nI t) (g, zrw mi 435 (shT (mi 435) t), ml) = fb_X12_keptOr_53 n 422 l1 l2 (nI 192) (g, zrw mi 435 (shT (mi 435) 2880), ml)
  | r, t, 0, _, h => absurd h (by omega)
  | 0, t, f + 1, h1, _ => by
    have : t = 2880 := by omega
    subst this
    show fb_X12_keptOr_22 n (zlp5 (fb_X12_keptOr_22 n) f) 422 l1 l2 (nI 192) (nI 2880) _ = _
    generalize zlp5 (fb_X12_keptOr_22 n) f = K
    unfold fb_X12_keptOr_22
    simp only [li]
    rw [pk_mul, iLe1 (by omega) (by omega) (by omega)]
  | r + 1, t, f + 1, h1, h2 => by
    have ih := r_k22 hs (l1 := l1) (l2 := l2) r (t + 1) f (by omega) (by omega)
    rw [← ih]
    show fb_X12_keptOr_22 n (zlp5 (fb_X12_keptOr_22 n) f) 422 l1 l2 (nI 192) (nI t) _ = _
    generalize zlp5 (fb_X12_keptOr_22 n) f = K
    have e1 : shT (mi 435) t (t + 192) = mi 435 (t + 192) := by unfold shT; rw [if_neg (by omega)]
    unfold fb_X12_keptOr_22
    simp only [li]
    rw [pk_mul, iLe0 (by omega) (by omega) (by omega), S_gR422_29 hs, S_gR422_29 hs, nI_add, S_aI435 hs (by omega), zrw_eq, e1, S_eI435 hs (by omega), ur_s, shT_u, nI_add]
theorem r_k66 (hs : Sy g) {l1 l2 : Int32} {m : Nat} (hm : m < 16) (h31 : mi 422 31 = nI m) : ∀ (r t f : Nat), t + r = 191 → r < f → zlp5 (fb_X12_keptOr_66 n) f 422 l1 l2 (nI 192) (nI t) (g, zrw mi 435 (cpT (mi 435) (fun i => mi 427 (382 + i)) (192 * m) t), ml) = fb_X12_keptOr_105 n 422 l1 l2 (nI 192) (g, zrw mi 435 (cpT (mi 435) (fun i => mi 427 (382 + i)) (192 * m) 191), ml)
  | r, t, 0, _, h => absurd h (by omega)
  | 0, t, f + 1, h1, _ => by
    have : t = 191 := by omega
    subst this
    show fb_X12_keptOr_66 n (zlp5 (fb_X12_keptOr_66 n) f) 422 l1 l2 (nI 192) (nI 191) _ = _
    generalize zlp5 (fb_X12_keptOr_66 n) f = K
    unfold fb_X12_keptOr_66
    simp only [li]
    rw [iLe1 (by omega) (by omega) (by omega)]
  | r + 1, t, f + 1, h1, h2 => by
    have ih := r_k66 hs (l1 := l1) (l2 := l2) hm h31 r (t + 1) f (by omega) (by omega)
    rw [← ih]
    show fb_X12_keptOr_66 n (zlp5 (fb_X12_keptOr_66 n) f) 422 l1 l2 (nI 192) (nI t) _ = _
    generalize zlp5 (fb_X12_keptOr_66 n) f = K
    unfold fb_X12_keptOr_66
    simp only [li]
    rw [iLe0 (by omega) (by omega) (by omega), S_gR422_29 hs, S_gI422 hs, zrw_a (by decide), h31, S_gR422_5 hs, nI_add, S_aI427 hs (by omega), zrw_a (by decide), pk_mul, nI_add, S_eI435 hs (by omega), ur_s, nI_add, cpT_u rfl]
theorem r_k63 (hs : Sy g) (hn : 6000 < n) {k m : Nat} {r : Int32} (hm : m < 16) (h31 : mi 422 31 = nI m) : fb_X12_keptOr_63 n 422 (nI k) r (nI 192) (g, mi, ml) = some (r, (g, zu (zrw mi 435 (upd (cpT (mi 435) (fun i => mi 427 (382 + i)) (192 * m) 191) (192 * m + 191) (nI k))) 422 31 (nI (m + 1)), ml)) := by
  have e := r_k66 (mi := mi) (ml := ml) (n := n) (l1 := nI k) (l2 := r) hs hm h31 191 0 n rfl (by omega)
  have e0 : cpT (mi 435) (fun i => mi 427 (382 + i)) (192 * m) 0 = mi 435 := cpT_0
  rw [e0, u_self] at e
  refine Eq.trans e ?_
  unfold fb_X12_keptOr_105
  simp only [li]
  rw [S_gR422_29 hs, S_gI422 hs, zrw_a (by decide), h31, pk_mul, nI_add, S_eI435 hs (by omega), ur_s, S_gI422 hs, zrw_a (by decide), h31, S_pI422 hs, nI_add]
/-- what an act leaves to be undone -/
theorem r_keptOr (hs : Sy g) (hn : 6000 < n) {k m j : Nat} (hm : m ≤ 16) (hj : j < 2147483648) (h31 : mi 422 31 = nI m) : ∃ M', f_X12_keptOr n 422 (nI k) (nI j) (g, mi, ml) = some (nI j, (g, M', ml)) ∧ (∀ a, a ≠ 422 → a ≠ 435 → M' a = mi a) ∧ (∀ i, i ≠ 31 → M' 422 i = mi 422 i) ∧ M' 422 31 = nI (if m = 16 then 16 else m + 1) ∧ (∀ i t, i < (if m = 16 then 15 else m) → t < 192 → M' 435 (192 * i + t) = mi 435 (192 * (if m = 16 then i + 1 else i) + t)) ∧ (∀ t, t < 191 → M' 435 (192 * (if m = 16 then 15 else m) + t) = mi 427 (382 + t)) ∧ M' 435 (192 * (if m = 16 then 15 else m) + 191) = nI k := by
  have main : ∀ (mi : Nat → Nat → Int32) (m : Nat), m < 16 → mi 422 31 = nI m → ∃ M', fb_X12_keptOr_63 n 422 (nI k) (nI j) (nI 192) (g, mi, ml) = some (nI j, (g, M', ml)) ∧ (∀ a, a ≠ 422 → a ≠ 435 → M' a = mi a) ∧ (∀ i, i ≠ 31 → M' 422 i = mi 422 i) ∧ M' 422 31 = nI (m + 1) ∧ (∀ i t, i < m → t < 192 → M' 435 (192 * i + t) = mi 435 (192 * i + t)) ∧ (∀ t, t < 191 → M' 435 (192 * m + t) = mi 427 (382 + t)) ∧ M' 435 (192 * m + 191) = nI k := by
    intro mi m hm h31
    refine ⟨_, r_k63 hs hn hm h31, fun a h1 h2 => by rw [zu_a h1, zrw_a h2], fun i hi => by rw [zu_k hi, zrw_a (by decide)], zu_s _ _ _ _, fun i t h1 h2 => ?_, fun t ht => ?_, ?_⟩
    · rw [zu_a (by decide), zrw_eq, upd_ne (by omega), cpT_out (by omega)]
    · rw [zu_a (by decide), zrw_eq, upd_ne (by omega), cpT_in ht]
    · rw [zu_a (by decide), zrw_eq, upd_eq]
  unfold f_X12_keptOr
  simp only [li]
  rw [iLe1 (by omega) (by omega) (by omega), S_gI422 hs, h31]
  by_cases q : m = 16
  · subst q
    rw [iP rfl]
    have e := r_k22 (mi := mi) (ml := ml) (n := n) (l1 := nI k) (l2 := nI j) hs 2880 0 n rfl (by omega)
    have e0 : shT (mi 435) 0 = mi 435 := by funext i; unfold shT; rw [if_neg (by omega)]
    rw [e0, u_self] at e
    have e53 : fb_X12_keptOr_53 n 422 (nI k) (nI j) (nI 192) (g, zrw mi 435 (shT (mi 435) 2880), ml) = fb_X12_keptOr_63 n 422 (nI k) (nI j) (nI 192) (g, zu (zrw mi 435 (shT (mi 435) 2880)) 422 31 (nI 15), ml) := by
      unfold fb_X12_keptOr_53
      simp only [li]
      rw [S_gI422 hs, zrw_a (by decide), h31, S_pI422 hs, nI_sub (by decide)]
    obtain ⟨M', a1, a2, a3, a4, a5, a6, a7⟩ := main (zu (zrw mi 435 (shT (mi 435) 2880)) 422 31 (nI 15)) 15 (by decide) (zu_s _ _ _ _)
    refine ⟨M', by rw [e, e53, a1], fun a h1 h2 => by rw [a2 a h1 h2, zu_a h1, zrw_a h2], fun i hi => by rw [a3 i hi, zu_k hi, zrw_a (by decide)], a4, fun i t h1 h2 => ?_, fun t ht => ?_, a7⟩
    · rw [if_pos rfl] at h1 ⊢
      rw [a5 i t h1 h2, zu_a (by decide), zrw_eq]
      unfold shT
      rw [if_pos (by omega)]
      congr 1
      omega
    · rw [if_pos rfl, a6 t ht, zu_a (by decide), zrw_a (by decide)]
  · rw [iEq0 (by omega) (by omega) q]
    simp only [if_neg q]
    exact main mi m (by omega) h31
theorem r_keptN (hs : Sy g) {k r : Int32} (hr : r < nI 0) : f_X12_keptOr n 422 k r (g, mi, ml) = some (r, (g, mi, ml)) := by
  unfold f_X12_keptOr
  rw [if_neg (fun q => by rw [Int32.lt_iff_toInt_lt] at hr; rw [Int32.le_iff_toInt_le] at q; have : (nI 0).toInt = (0 : Int32).toInt := rfl; omega)]
end
