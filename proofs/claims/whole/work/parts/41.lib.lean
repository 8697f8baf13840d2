/-! plain rows for the functions over the flat heap -/
section
variable {g : zS} {mi : Nat → Nat → Int32} {ml : Nat → Nat → Int64} {ρ : Type} {a c k t : Nat}
theorem q_ck {X : Option ρ} (h : g.1 a = c) : zck ((g, mi, ml) : zH) c a X = X := if_pos h
theorem q_gI {K : Int32 → Option ρ} (h : g.1 a = c) : zgI ((g, mi, ml) : zH) c a k K = K (mi a k) := if_pos h
theorem q_gL {K : Int64 → Option ρ} (h : g.1 a = c) : zgL ((g, mi, ml) : zH) c a k K = K (ml a k) := if_pos h
theorem q_gR {K : Nat → Option ρ} {v : Nat} (h : g.1 a = c) (h2 : g.2.2.1 a k = v) (hv : v ≠ 0) : zgR ((g, mi, ml) : zH) c a k K = K v := by
  unfold zgR
  rw [if_pos ⟨h, by show g.2.2.1 a k ≠ 0; rw [h2]; exact hv⟩]
  show K (g.2.2.1 a k) = K v
  rw [h2]
theorem q_pI {K : zH → Option ρ} {v : Int32} (h : g.1 a = c) : zpI ((g, mi, ml) : zH) c a k v K = K (g, zu mi a k v, ml) := if_pos h
theorem q_pZ {K : zH → Option ρ} {v : Int32} (h : g.1 a = c) (hv : v = 0 ∨ v = 1) : zpZ ((g, mi, ml) : zH) c a k v K = K (g, zu mi a k v, ml) := if_pos ⟨h, hv⟩
theorem q_pL {K : zH → Option ρ} {v : Int64} (h : g.1 a = c) : zpL ((g, mi, ml) : zH) c a k v K = K (g, mi, zu ml a k v) := if_pos h
theorem q_aI {K : Int32 → Option ρ} {N j : Nat} (h : g.1 a = t) (h2 : g.2.1 a = N) (hN : N < 2147483648) (hj : j < N) : zaI ((g, mi, ml) : zH) t a (nI j) K = K (mi a j) := by
  unfold zaI
  have e : (nI j).toNatClampNeg = j := nI_clamp (by omega)
  rw [if_pos ⟨h, by rw [e]; intro q; rcases q with q | q; exact nI_pos (by omega) q; exact absurd q (by show ¬ g.2.1 a ≤ j; omega)⟩, e]
  rfl
theorem q_eI {K : zH → Option ρ} {v : Int32} {N j : Nat} (h : g.1 a = 21) (h2 : g.2.1 a = N) (hN : N < 2147483648) (hj : j < N) : zeI ((g, mi, ml) : zH) a (nI j) v K = K (g, zu mi a j v, ml) := by
  unfold zeI
  have e : (nI j).toNatClampNeg = j := nI_clamp (by omega)
  rw [if_pos ⟨h, by rw [e]; intro q; rcases q with q | q; exact nI_pos (by omega) q; exact absurd q (by show ¬ g.2.1 a ≤ j; omega)⟩, e]
  rfl
theorem q_eB {K : zH → Option ρ} {v : Int32} {N j : Nat} (h : g.1 a = 23) (h2 : g.2.1 a = N) (hN : N < 2147483648) (hj : j < N) : zeB ((g, mi, ml) : zH) a (nI j) v K = K (g, zu mi a j v.toInt8.toInt32, ml) := by
  unfold zeB
  have e : (nI j).toNatClampNeg = j := nI_clamp (by omega)
  rw [if_pos ⟨h, by rw [e]; intro q; rcases q with q | q; exact nI_pos (by omega) q; exact absurd q (by show ¬ g.2.1 a ≤ j; omega)⟩, e, vp_nar_byte]
  rfl
theorem q_eZ {K : zH → Option ρ} {v : Int32} {N j : Nat} (hv : v = 0 ∨ v = 1) (h : g.1 a = 24) (h2 : g.2.1 a = N) (hN : N < 2147483648) (hj : j < N) : zeZ ((g, mi, ml) : zH) a (nI j) v K = K (g, zu mi a j v, ml) := by
  unfold zeZ
  have e : (nI j).toNatClampNeg = j := nI_clamp (by omega)
  have e2 : vp_nar .boolean v = v := by rcases hv with q | q <;> rw [q] <;> rfl
  rw [if_pos ⟨h, by rw [e]; intro q; rcases q with q | q; exact nI_pos (by omega) q; exact absurd q (by show ¬ g.2.1 a ≤ j; omega)⟩, e, e2]
  rfl
theorem q_aL {K : Int64 → Option ρ} {N j : Nat} (h : g.1 a = 22) (h2 : g.2.1 a = N) (hN : N < 2147483648) (hj : j < N) : zaL ((g, mi, ml) : zH) a (nI j) K = K (ml a j) := by
  unfold zaL
  have e : (nI j).toNatClampNeg = j := nI_clamp (by omega)
  rw [if_pos ⟨h, by rw [e]; intro q; rcases q with q | q; exact nI_pos (by omega) q; exact absurd q (by show ¬ g.2.1 a ≤ j; omega)⟩, e]
  rfl
theorem q_eL {K : zH → Option ρ} {v : Int64} {N j : Nat} (h : g.1 a = 22) (h2 : g.2.1 a = N) (hN : N < 2147483648) (hj : j < N) : zeL ((g, mi, ml) : zH) a (nI j) v K = K (g, mi, zu ml a j v) := by
  unfold zeL
  have e : (nI j).toNatClampNeg = j := nI_clamp (by omega)
  rw [if_pos ⟨h, by rw [e]; intro q; rcases q with q | q; exact nI_pos (by omega) q; exact absurd q (by show ¬ g.2.1 a ≤ j; omega)⟩, e]
  rfl
theorem q_aR {K : Nat → Option ρ} {N j : Nat} (h : g.1 a = t) (h2 : g.2.1 a = N) (hN : N < 2147483648) (hj : j < N) : zaR ((g, mi, ml) : zH) t a (nI j) K = K (g.2.2.1 a j) := by
  unfold zaR
  have e : (nI j).toNatClampNeg = j := nI_clamp (by omega)
  rw [if_pos ⟨h, by rw [e]; intro q; rcases q with q | q; exact nI_pos (by omega) q; exact absurd q (by show ¬ g.2.1 a ≤ j; omega)⟩, e]
  rfl
theorem q_aN {K : Nat → Option ρ} {N j : Nat} (h : g.1 a = t) (h2 : g.2.1 a = N) (hN : N < 2147483648) (hj : j < N) (h0 : g.2.2.1 a j ≠ 0) : zaN ((g, mi, ml) : zH) t a (nI j) K = K (g.2.2.1 a j) := by
  unfold zaN
  have e : (nI j).toNatClampNeg = j := nI_clamp (by omega)
  rw [e, if_pos ⟨⟨h, by intro q; rcases q with q | q; exact nI_pos (by omega) q; exact absurd q (by show ¬ g.2.1 a ≤ j; omega)⟩, h0⟩]
  rfl
theorem q_ln {K : Int32 → Option ρ} {N : Nat} (h : g.1 a = t) (h2 : g.2.1 a = N) : zln' ((g, mi, ml) : zH) t a K = K (nI N) := by
  unfold zln'
  rw [if_pos (show zsh ((g, mi, ml) : zH) a = t from h)]
  show K (Int32.ofNat (g.2.1 a)) = _
  rw [h2]
  rfl
theorem q_cp {K : zH → Option ρ} {b N M i j n : Nat} (h1 : g.1 a = 21) (h2 : g.1 b = 21) (h3 : g.2.1 a = N) (h4 : g.2.1 b = M) (hN : N < 2147483648) (hM : M < 2147483648) (h5 : i + n ≤ N) (h6 : j + n ≤ M) : zcp ((g, mi, ml) : zH) a (nI i) b (nI j) (nI n) K = K (g, zrw mi b (va_cpy (mi a) (mi b) i j n), ml) := by
  unfold zcp
  have e1 : (nI i).toNatClampNeg = i := nI_clamp (by omega)
  have e2 : (nI j).toNatClampNeg = j := nI_clamp (by omega)
  have e3 : (nI n).toNatClampNeg = n := nI_clamp (by omega)
  rw [e1, e2, e3, if_pos]
  · rfl
  · refine ⟨⟨h1, h2⟩, ?_, ?_, ?_⟩
    · rintro (q | q | q)
      · exact nI_pos (by omega) q
      · exact nI_pos (by omega) q
      · exact nI_pos (by omega) q
    · show i + n ≤ g.2.1 a
      omega
    · show j + n ≤ g.2.1 b
      omega
end
theorem q_let {ρ β : Type} (v : β) (K : β → Option ρ) : zlt v K = K v := rfl
theorem q_rZ0 (h : zH) : zrZ 0 h = some (0, h) := rfl
theorem q_rZ1 (h : zH) : zrZ 1 h = some (1, h) := rfl
theorem q_rZ {v : Int32} {h : zH} (hv : v = 0 ∨ v = 1) : zrZ v h = some (v, h) := if_pos hv
/-! updates -/
theorem u_zu {α : Type} (m : Nat → Nat → α) (a k : Nat) (v : α) : zu m a k v = zrw m a (fun j => if j = k then v else m a j) := rfl
theorem u_rr {α : Type} (m : Nat → Nat → α) (a : Nat) (f f' : Nat → α) : zrw (zrw m a f) a f' = zrw m a f' := by
  funext b
  unfold zrw
  by_cases h : b = a
  · rw [if_pos h, if_pos h]
  · rw [if_neg h, if_neg h, if_neg h]
theorem u_ru (m : Nat → Nat → Int32) (a k : Nat) (f : Nat → Int32) (v : Int32) : zu (zrw m a f) a k v = zrw m a (upd f k v) := by
  rw [u_zu, u_rr, zrw_eq]
  rfl
theorem u_self {α : Type} (m : Nat → Nat → α) (a : Nat) : zrw m a (m a) = m := by
  funext b
  unfold zrw
  by_cases h : b = a
  · rw [if_pos h, h]
  · rw [if_neg h]
theorem upd_eq {f : Nat → Int32} {k : Nat} {x : Int32} : upd f k x k = x := if_pos rfl
theorem upd_ne {f : Nat → Int32} {k j : Nat} {x : Int32} (h : j ≠ k) : upd f k x j = f j := if_neg h
/-! numbers -/
theorem nI_sub {a b : Nat} (h : b ≤ a) : nI a - nI b = nI (a - b) := pk_sub h
theorem nI_inj {a b : Nat} (ha : a < 2147483648) (hb : b < 2147483648) (h : nI a = nI b) : a = b := (nI_eq ha hb).mp h
theorem nI_nm {a : Nat} (ha : a < 2147483648) : nI a ≠ -1 := by
  intro h
  have h1 := congrArg Int32.toInt h
  rw [nI_toInt ha] at h1
  have h2 : (-1 : Int32).toInt = -1 := by decide
  rw [h2] at h1
  omega
theorem n_m1_lt : (-1 : Int32) < 0 := by decide
