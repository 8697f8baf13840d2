/-! orders, the plain form -/
section
variable {g : zS} {A : Nat → Nat → Int32} {ml : Nat → Nat → Int64} {n len : Nat} {b : Nat → Nat} {l : List (Nat × Nat × Nat)}
theorem po_pre (hs : Sy g) (hn : 6000 < n) (hTk : TkO b len l) (h400 : len ≤ 400) (t2 : TPr A b len) (t3 : A 422 13 = nI len) (hl : l = pTk b len 401 0) {L : List Ci} {cd : List (Nat × Nat)} (he : pRd true (tD len l) (tV b len l) l.length 12 0 0 0 = .ok (L, cd)) {m : Nat} {H : Nat → Nat → Int32} (hH : HR A m H) : ∃ R M, f_X12_orders n 422 (g, A, ml) = zlp4 (fb_X12_orders_96 n) n 422 (nI m) (nI (2400 + l.length)) (nI 0) (g, M, ml) ∧ OP M R m H 0 m1 ∧ M 422 34 = nI (2400 + 0) ∧ LWr R 6 l.length (tD len l) (tV b len l) ∧ (∀ k, k ≠ 214 → ¬ (2615 ≤ k ∧ k < 3015) → ¬ (5415 ≤ k ∧ k < 5815) → R k = A 424 k) ∧ (M 422 13 = nI 0 ∧ M 422 14 = m1 ∧ M 422 33 = m1) ∧ ((∀ t, t < 191 → M 427 (191 + t) = A 424 t) ∧ ∀ t, t < 3072 → M 436 t = A 435 t) ∧ (∀ a, a ≠ 422 → a ≠ 424 → a ≠ 427 → a ≠ 431 → a ≠ 432 → a ≠ 433 → a ≠ 436 → M a = A a) ∧ ∀ k, k = 0 ∨ k = 6 ∨ k = 31 ∨ k = 41 → M 422 k = A 422 k := by
  have tb : tB true = nI 1 := rfl
  obtain ⟨M0, hM0⟩ : ∃ y, y = zu A 422 33 m1 := ⟨_, rfl⟩
  have F0 : ∀ a, a ≠ 422 → M0 a = A a := fun a ha => by rw [hM0, zu_a ha]
  have tA : TPr M0 b len := by
    unfold TPr at t2 ⊢
    rw [F0 428 (by decide), F0 429 (by decide)]; exact t2
  obtain ⟨cc, u, p, r1, r2, -⟩ := r_as (o := true) (l := l) (n := n) (ml := ml) hs tA (by omega) (by rw [hM0, zu_k (by decide)]; exact t3) hl
  obtain ⟨M1, r3, r4, ⟨r5, r6, r7⟩, r8, r9⟩ := r2 L cd he
  rw [tb] at r3
  have hT4 : l.length ≤ 400 := by
    have := pTk_len (b := b) (len := len) 401 0 (by omega)
    rw [← hl] at this
    omega
  have F1 : ∀ a, a ≠ 422 → a ≠ 431 → a ≠ 432 → a ≠ 433 → M1 a = A a := fun a x1 x2 x3 x4 => by rw [r4.1 a x1 x2 x3 x4, F0 a x1]
  have K1 : ∀ k, (k < 8 ∨ (10 < k ∧ k < 13) ∨ (14 < k ∧ k < 18) ∨ 21 < k) → k ≠ 33 → M1 422 k = A 422 k := fun k hk h33 => by rw [r4.2 k hk, hM0, zu_k h33]
  have K33 : M1 422 33 = m1 := by rw [r4.2 33 (by decide), hM0, zu_s]
  have e2 := r_laysAside (mi := M1) (ml := ml) (n := n) hs hn (k := 1) (by decide)
  obtain ⟨M2, hM2⟩ : ∃ y, y = zrw M1 427 (cpT (M1 427) (M1 424) (191 * 1) 191) := ⟨_, rfl⟩
  rw [← hM2] at e2
  have e3 := r_o27 (mi := M2) (ml := ml) (n := n) hs 3072 0 n rfl (by omega)
  rw [cpT_0, u_self] at e3
  obtain ⟨M3, hM3⟩ : ∃ y, y = zrw M2 436 (cpT (M2 436) (M2 435) 0 3072) := ⟨_, rfl⟩
  rw [← hM3] at e3
  have F3 : ∀ a, a ≠ 427 → a ≠ 436 → M3 a = M1 a := fun a x1 x2 => by rw [hM3, zrw_a x2, hM2, zrw_a x1]
  obtain ⟨R, s1, s2, s3, s4⟩ := r_lays (ml := ml) (n := n) (i := 6) (mi := M3) hs (by omega) (by decide) hT4 (by rw [F3 422 (by decide) (by decide)]; exact r5)
  obtain ⟨M6, hM6⟩ : ∃ y, y = zu (zu (zu (zrw M3 424 R) 422 27 (nI 0)) 422 28 m1) 422 34 (nI 2400) := ⟨_, rfl⟩
  have F6 : ∀ a, a ≠ 422 → a ≠ 424 → M6 a = M3 a := fun a x1 x2 => by rw [hM6, zu_a x1, zu_a x1, zu_a x1, zrw_a x2]
  have K6 : ∀ k, k ≠ 27 → k ≠ 28 → k ≠ 34 → M6 422 k = M1 422 k := fun k x1 x2 x3 => by rw [hM6, zu_k x3, zu_k x2, zu_k x1, zrw_a (by decide), F3 422 (by decide) (by decide)]
  have E6 : M6 424 = R := by rw [hM6, zu_a (by decide), zu_a (by decide), zu_a (by decide), zrw_eq]
  have K34 : M6 422 34 = nI 2400 := by rw [hM6, zu_s]
  have h31 : M3 422 31 = nI m := by rw [F3 422 (by decide) (by decide), K1 31 (by decide) (by decide)]; exact hH.1
  have e214 : R 214 = nI l.length := s2
  have Rold : ∀ k, k ≠ 214 → ¬ (2615 ≤ k ∧ k < 3015) → ¬ (5415 ≤ k ∧ k < 5815) → R k = A 424 k := fun k q1 q2 q3 => by rw [s4 k q1 (by omega) (by omega), F3 424 (by decide) (by decide), F1 424 (by decide) (by decide) (by decide) (by decide)]
  refine ⟨R, M6, ?_, ⟨E6, ⟨?_, ?_⟩, ?_, ?_⟩, K34, ⟨⟨s2, hT4⟩, fun k hk => ?_, ?_, fun k => ?_⟩, Rold, ⟨?_, ?_, ?_⟩, ⟨fun t ht => ?_, fun t ht => ?_⟩, fun a x1 x2 x3 x4 x5 x6 x7 => ?_, fun k hk => ?_⟩
  · unfold f_X12_orders
    simp only [li, ng1]
    rw [S_pI422 hs, ← hM0, S_ck422 hs, r3, zb_s, iEq0 (by decide) (by decide) (by decide), S_ck422 hs, e2, zb_s, e3]
    unfold fb_X12_orders_52
    simp only [li, ng1]
    have g34 : (zu (zu (zu (zrw M3 424 R) 422 27 (nI 0)) 422 28 m1) 422 34 (nI 2400)) 422 34 = nI 2400 := zu_s _ _ _ _
    rw [S_gI422 hs, h31, S_ck422 hs, s1, zb_s, S_pI422 hs, S_pI422 hs, S_pI422 hs, ← hM6, S_gI422 hs, K34, S_gR422_2 hs, S_aI424 hs (by decide), E6, e214, nI_add, q_let]
  · rw [K6 31 (by decide) (by decide) (by decide), K1 31 (by decide) (by decide)]; exact hH.1
  · intro i t hi ht
    rw [F6 435 (by decide) (by decide), F3 435 (by decide) (by decide), F1 435 (by decide) (by decide) (by decide) (by decide)]
    exact hH.2 i t hi ht
  · rw [hM6, zu_k (by decide), zu_k (by decide), zu_s]
  · rw [hM6, zu_k (by decide), zu_s]
  · obtain ⟨y1, y2⟩ := s3 k hk
    obtain ⟨z1, z2, z3⟩ := TLr_g l 0 k r1 (by omega)
    rw [Nat.zero_add] at z1 z3
    rw [y1, y2, F3 431 (by decide) (by decide), F3 432 (by decide) (by decide), r6, r7]
    refine ⟨z1, fun w1 w2 => ?_⟩
    obtain ⟨-, -, w3⟩ := tk_f hTk h400 k
    rw [z3 w1, (w3 w1).2.1 (by omega)]
  · unfold tD
    rw [gd_out l l.length _ (Nat.le_refl _)]
  · have := (tk_f hTk h400 k).1
    omega
  · rw [K6 13 (by decide) (by decide) (by decide)]; exact r8
  · rw [K6 14 (by decide) (by decide) (by decide)]; exact r9
  · rw [K6 33 (by decide) (by decide) (by decide)]; exact K33
  · rw [F6 427 (by decide) (by decide), hM3, zrw_a (by decide), hM2, zrw_eq]
    have := cpT_in (R := M1 427) (A := M1 424) (o := 191 * 1) (t := 191) ht
    rw [Nat.mul_one] at this ⊢
    rw [this, F1 424 (by decide) (by decide) (by decide) (by decide)]
  · rw [F6 436 (by decide) (by decide), hM3, zrw_eq]
    have := cpT_in (R := M2 436) (A := M2 435) (o := 0) (t := 3072) ht
    rw [Nat.zero_add] at this
    rw [this, hM2, zrw_a (by decide), F1 435 (by decide) (by decide) (by decide) (by decide)]
  · rw [F6 a x1 x2, F3 a x3 x7, F1 a x1 x4 x5 x6]
  · rw [K6 k (by omega) (by omega) (by omega), K1 k (by omega) (by omega)]
/-- taken back -/
theorem po_back (hs : Sy g) (hn : 6000 < n) {M : Nat → Nat → Int32} {m cl : Nat} : ∃ M', fb_X12_orders_115 n 422 (nI m) (nI cl) (g, M, ml) = some (m3, (g, rF m3 M', ml)) ∧ (∀ a, a ≠ 422 → a ≠ 424 → a ≠ 435 → M' a = M a) ∧ (∀ k, k ≠ 31 → k ≠ 33 → M' 422 k = M 422 k) ∧ (M' 422 31 = nI m ∧ M' 422 33 = nI cl) ∧ (∀ t, t < 191 → M' 424 t = M 427 (191 + t)) ∧ (∀ t, 191 ≤ t → M' 424 t = M 424 t) ∧ ∀ t, t < 3072 → M' 435 t = M 436 t := by
  have e1 := r_takesBack (mi := M) (ml := ml) (n := n) hs hn (k := 1) (by decide)
  obtain ⟨M1, hM1⟩ : ∃ y, y = zrw M 424 (cpT (M 424) (fun i => M 427 (191 * 1 + i)) 0 191) := ⟨_, rfl⟩
  rw [← hM1] at e1
  have e2 := r_o123 (mi := M1) (ml := ml) (n := n) (l1 := nI m) (l3 := nI cl) hs 3072 0 n rfl (by omega)
  rw [cpT_0, u_self] at e2
  obtain ⟨M2, hM2⟩ : ∃ y, y = zrw M1 435 (cpT (M1 435) (M1 436) 0 3072) := ⟨_, rfl⟩
  rw [← hM2] at e2
  obtain ⟨M3, hM3⟩ : ∃ y, y = zu (zu M2 422 31 (nI m)) 422 33 (nI cl) := ⟨_, rfl⟩
  refine ⟨M3, ?_, fun a x1 x2 x3 => ?_, fun k x1 x2 => ?_, ⟨?_, ?_⟩, fun t ht => ?_, fun t ht => ?_, fun t ht => ?_⟩
  · unfold fb_X12_orders_115
    simp only [li]
    rw [S_ck422 hs, e1, zb_s, e2]
    unfold fb_X12_orders_151
    simp only [li, ng3]
    rw [S_pI422 hs, S_pI422 hs, ← hM3, S_ck422 hs, ref_F hs isF3, zb_s]
  · rw [hM3, zu_a x1, zu_a x1, hM2, zrw_a x3, hM1, zrw_a x2]
  · rw [hM3, zu_k x2, zu_k x1, hM2, zrw_a (by decide), hM1, zrw_a (by decide)]
  · rw [hM3, zu_k (by decide), zu_s]
  · rw [hM3, zu_s]
  · rw [hM3, zu_a (by decide), zu_a (by decide), hM2, zrw_a (by decide), hM1, zrw_eq]
    have := cpT_in (R := M 424) (A := fun i => M 427 (191 * 1 + i)) (o := 0) (t := 191) ht
    rw [Nat.zero_add] at this
    exact this
  · rw [hM3, zu_a (by decide), zu_a (by decide), hM2, zrw_a (by decide), hM1, zrw_eq, cpT_out (by omega)]
  · rw [hM3, zu_a (by decide), zu_a (by decide), hM2, zrw_eq]
    have := cpT_in (R := M1 435) (A := M1 436) (o := 0) (t := 3072) ht
    rw [Nat.zero_add] at this
    rw [this, hM1, zrw_a (by decide)]
end
