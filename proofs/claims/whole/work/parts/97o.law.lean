/-! law -/
theorem Mt_a2 {M : Nat → Nat → Int32} {t l b : Int32} {a : Nat} (h : a ≠ 422) : Mt M t l b a = M a := by
  funext k; unfold Mt; rw [if_neg h]
theorem Mt_k2 {M : Nat → Nat → Int32} {t l b : Int32} {k : Nat} (h : k < 19 ∨ 21 < k) : Mt M t l b 422 k = M 422 k := by
  unfold Mt; rw [if_pos rfl, if_neg (by omega), if_neg (by omega), if_neg (by omega)]
theorem Rs_a2 {M : Nat → Nat → Int32} {ct : Int32} {c u p : Nat → Int32} {a : Nat} (h : a ≠ 422) (h1 : a ≠ 431) (h2 : a ≠ 432) (h3 : a ≠ 433) : Rs M ct c u p a = M a := by
  funext k; unfold Rs; rw [if_neg h, if_neg h1, if_neg h2, if_neg h3]
theorem Rs_k2 {M : Nat → Nat → Int32} {ct : Int32} {c u p : Nat → Int32} {k : Nat} (h : k ≠ 18) : Rs M ct c u p 422 k = M 422 k := by
  unfold Rs; rw [if_pos rfl, if_neg h]
def RA (M M' : Nat → Nat → Int32) : Prop := (∀ a, a ≠ 422 → a ≠ 431 → a ≠ 432 → a ≠ 433 → M' a = M a) ∧ ∀ k, (k < 8 ∨ (10 < k ∧ k < 13) ∨ (14 < k ∧ k < 18) ∨ 21 < k) → M' 422 k = M 422 k
section
variable {g : zS} {M : Nat → Nat → Int32} {ml : Nat → Nat → Int64} {n len : Nat} {b : Nat → Nat} {o : Bool} {l : List (Nat × Nat × Nat)}
theorem r_as (hs : Sy g) (h : TPr M b len) (hn : 3000 < n) (h13 : M 422 13 = nI len) (hl : l = pTk b len 401 0) : ∃ c u p, TLr b len c u p 0 l ∧ (∀ L c', pRd o (tD len l) (tV b len l) l.length 12 0 0 0 = .ok (L, c') → ∃ M', f_X12_readsAs n 422 (tB o) (g, M, ml) = some (nI 1, (g, M', ml)) ∧ RA M M' ∧ (M' 422 18 = nI l.length ∧ M' 431 = c ∧ M' 432 = u) ∧ M' 422 13 = nI 0 ∧ M' 422 14 = m1) ∧ ∀ q, pRd o (tD len l) (tV b len l) l.length 12 0 0 0 = .error q → ∃ M', f_X12_readsAs n 422 (tB o) (g, M, ml) = some (nI 0, (g, M', ml)) ∧ RA M M' ∧ M' 422 13 = nI 0 ∧ M' 422 14 = nI (tP len l q) := by
  obtain ⟨M0, hM0⟩ : ∃ y, y = zu (zu (zu M 422 10 (tB o)) 422 8 (nI (if o then 13 else 7))) 422 9 (nI (if o then 19 else 13)) := ⟨_, rfl⟩
  have F0 : ∀ a, a ≠ 422 → M0 a = M a := fun a ha => by rw [hM0, zu_a ha, zu_a ha, zu_a ha]
  have K0 : ∀ k, k ≠ 8 → k ≠ 9 → k ≠ 10 → M0 422 k = M 422 k := fun k k1 k2 k3 => by rw [hM0, zu_k k2, zu_k k1, zu_k k3]
  have hT : TPr M0 b len := by
    unfold TPr at h ⊢
    rw [F0 428 (by decide), F0 429 (by decide)]; exact h
  obtain ⟨c, u, p, q1, q2, q3⟩ := r_reads (o := o) (l := l) (n := n) (ml := ml) hs hT hn (by rw [K0 13 (by decide) (by decide) (by decide)]; exact h13) hl (by rw [hM0, zu_k (by decide), zu_k (by decide), zu_s]) (by rw [hM0, zu_k (by decide), zu_s]) (by rw [hM0, zu_s])
  have U : ∀ r F, (r = nI 0 ∨ r = nI 1) → f_X12_reads n 422 (g, M0, ml) = some (r, (g, F, ml)) → f_X12_readsAs n 422 (tB o) (g, M, ml) = some (r, (g, F, ml)) := by
    intro r F hr e
    have hz : zrZ r (g, F, ml) = some (r, (g, F, ml)) := by
      rcases hr with q | q <;> subst q
      · exact zrZ0 _
      · exact zrZ1 _
    unfold f_X12_readsAs fb_X12_readsAs_17 fb_X12_readsAs_32
    simp only [li]
    cases o
    · have t0 : tB false = nI 0 := rfl
      rw [t0] at hM0 ⊢
      rw [S_pZ422 (x := nI 0) hs (Or.inl rfl), iEq1 rfl, S_pI422 hs, iEq1 rfl, S_pI422 hs, S_ck422 hs]
      rw [if_neg (by decide), if_neg (by decide)] at hM0
      rw [← hM0, e, zb_s, hz]
    · have t0 : tB true = nI 1 := rfl
      rw [t0] at hM0 ⊢
      rw [S_pZ422 (x := nI 1) hs (Or.inr rfl), iEq0 (by decide) (by decide) (by decide), S_pI422 hs, iEq0 (by decide) (by decide) (by decide), S_pI422 hs, S_ck422 hs]
      rw [if_pos rfl, if_pos rfl] at hM0
      rw [← hM0, e, zb_s, hz]
  have Fr : ∀ t lv x, RA M (zu (Mt (zu (Rs M0 (nI l.length) c u p) 422 13 (nI 0)) t lv x) 422 14 x) := fun t lv x => ⟨fun a a1 a2 a3 a4 => by rw [zu_a a1, Mt_a2 a1, zu_a a1, Rs_a2 a1 a2 a3 a4, F0 a a1], fun k hk => by rw [zu_k (by omega), Mt_k2 (by omega), zu_k (by omega), Rs_k2 (by omega), K0 k (by omega) (by omega) (by omega)]⟩
  have F13 : ∀ t lv x, zu (Mt (zu (Rs M0 (nI l.length) c u p) 422 13 (nI 0)) t lv x) 422 14 x 422 13 = nI 0 := fun t lv x => by rw [zu_k (by decide), Mt_k2 (by decide), zu_s]
  refine ⟨c, u, p, q1, fun L c' he => ?_, fun q he => ?_⟩
  · obtain ⟨t, lv, e⟩ := q2 L c' he
    refine ⟨_, U _ _ (Or.inr rfl) e, Fr _ _ _, ⟨?_, ?_, ?_⟩, F13 _ _ _, zu_s _ _ _ _⟩
    · rw [zu_k (by decide), Mt_k2 (by decide), zu_k (by decide)]; rfl
    · rw [zu_a (by decide), Mt_a2 (by decide), zu_a (by decide)]; rfl
    · rw [zu_a (by decide), Mt_a2 (by decide), zu_a (by decide)]; rfl
  · obtain ⟨t, lv, e⟩ := q3 q he
    exact ⟨_, U _ _ (Or.inl rfl) e, Fr _ _ _, F13 _ _ _, zu_s _ _ _ _⟩
end
/-- the tape is empty on both sides -/
theorem TA_0 {mi mi' : Nat → Nat → Int32} (h : TA mi) (e1 : mi' 408 1 = nI 0) (e3 : mi' 422 13 = nI 0) (e4 : mi' 428 = mi 428) : TA mi' := by
  obtain ⟨b, len, h1, h2, h3⟩ := h
  refine ⟨b, 0, ⟨e1, by decide, fun i hi => absurd hi (by omega)⟩, ⟨by decide, fun i hi => absurd hi (by omega), ?_⟩, e3⟩
  rw [e4]; exact h2.2.2
/-- a refusal after which the tape is empty -/
theorem IV_Fz {c : Nat} {g : zS} {mi mi' : Nat → Nat → Int32} {r : Int32} {x : Int32} (h : IV c g mi) (hr : isF r) (F : ∀ a, (1 < a ∧ a < 408) ∨ a = 420 ∨ (422 < a ∧ a < 429) ∨ (434 < a) → a ≠ 423 → mi' a = mi a) (F1 : ∀ k, k ≠ 15 → k ≠ 19 → mi' 1 k = mi 1 k) (F15 : mi' 1 15 = mi' 422 14) (F2 : ∀ k, k = 6 ∨ k = 31 ∨ k = 33 ∨ k = 41 → mi' 422 k = mi 422 k) (h408 : mi' 408 1 = nI 0) (h13 : mi' 422 13 = nI 0) (hS : SCa mi') : IV (c + 1) g mi' := by
  have e424 : mi' 424 = mi 424 := F 424 (by decide) (by decide)
  refine IV_gen h (fun a ha => F a (by omega) (by omega)) (fun k hk => by rw [e424]) (by rw [e424]; exact PW_e h.2.1 (by omega) (fun a _ _ => F a (by omega) (by omega))) (HI_c h.2.2.2.2.1 (by omega) (F 30 (by decide) (by decide)) (F 32 (by decide) (by decide)) (F2 31 (by decide)) (F 435 (by decide) (by decide)) (fun a _ _ => F a (by omega) (by omega))) (TA_0 h.2.2.2.2.2.2.1 h408 h13 (F 428 (by decide) (by decide))) hS ?_ (SCc_c h.2.2.2.2.2.2.2.2.2 (F 420 (by decide) (by decide)) (F2 41 (by decide)) (F 439 (by decide) (by decide)))
  have h9 := h.2.2.2.2.2.2.2.2.1
  unfold SCb at h9 ⊢
  rw [F1 14 (by decide) (by decide), F1 16 (by decide) (by decide), F2 6 (by decide), F2 33 (by decide), F15]
  exact ⟨h9.1, rfl, h9.2.2⟩
section
variable {n : Nat}
theorem LWr_y {v v' : Nat → Int32} {i T : Nat} {D V : Nat → Nat} (h : LWr v i T D V) (e0 : v' (208 + i) = v (208 + i)) (e : ∀ k, k < 400 → v' (215 + (400 * i + k)) = v (215 + (400 * i + k)) ∧ v' (3015 + (400 * i + k)) = v (3015 + (400 * i + k))) : LWr v' i T D V := by
  obtain ⟨⟨h1, h2⟩, h3, h4⟩ := h
  refine ⟨⟨by rw [e0]; exact h1, h2⟩, fun k hk => ?_, h4⟩
  rw [(e k (by omega)).1, (e k (by omega)).2]
  exact h3 k hk
theorem cl_law5 {c : Nat} {g : zS} {mi : Nat → Nat → Int32} {ml : Nat → Nat → Int64} (hI : IV c g mi) (h2 : mi 25 2 = nI 6) (h3 : mi 424 206 = nI 6) : ∃ mi' mi'', f_X11_law n 1 (g, mi, ml) = some (m5, (g, mi', ml)) ∧ f_X12_law n 422 (g, mi', ml) = some (m5, (g, mi'', ml)) ∧ IV (c + 1) g mi'' := by
  have hs := hI.1.1
  have hX : f_X11_law n 1 (g, mi, ml) = some (m5, (g, tF m5 (zu mi 408 1 (nI 0)), ml)) := by
    unfold f_X11_law
    simp only [li, ng5]
    rw [S_gR1_3 hs, S_gI25 hs, h2, iLt0 (by omega) (by omega) (by omega), S_gR1_9 hs, S_pI408 hs, S_ck1 hs, told_F hs isF5, zb_s]
  obtain ⟨A, hA⟩ : ∃ y, y = tF m5 (zu mi 408 1 (nI 0)) := ⟨_, rfl⟩
  have FA : ∀ a, a ≠ 1 → a ≠ 408 → a ≠ 419 → A a = mi a := fun a x1 x2 x3 => by rw [hA, tF_a x1 x3, zu_a x2]
  have hY : f_X12_law n 422 (g, A, ml) = some (m5, (g, rF m5 (zu A 422 13 (nI 0)), ml)) := by
    unfold f_X12_law
    simp only [li, ng5]
    rw [S_gR422_2 hs, S_aI424 hs (by decide), FA 424 (by decide) (by decide) (by decide), h3, iEq1 rfl, S_pI422 hs, S_ck422 hs, ref_F hs isF5, zb_s]
  rw [← hA] at hX
  refine ⟨A, _, hX, hY, ?_⟩
  have FB : ∀ a, a ≠ 422 → a ≠ 423 → rF m5 (zu A 422 13 (nI 0)) a = A a := fun a x1 x2 => by rw [rF_a x1 x2, zu_a x1]
  have F2 : ∀ k, k ≠ 0 → k ≠ 13 → rF m5 (zu A 422 13 (nI 0)) 422 k = mi 422 k := fun k k1 k2 => by rw [rF_2 k1, zu_k k2, FA 422 (by decide) (by decide) (by decide)]
  have A1 : ∀ k, k ≠ 19 → A 1 k = mi 1 k := fun k hk => by rw [hA, tF_1 hk, zu_a (by decide)]
  refine IV_Fz (x := nI 0) hI isF5 (fun a ha ha2 => by rw [FB a (by omega) ha2, FA a (by omega) (by omega) (by omega)]) (fun k _ hk => by rw [FB 1 (by decide) (by decide), A1 k hk]) ?_ (fun k hk => F2 k (by omega) (by omega)) ?_ ?_ ?_
  · rw [FB 1 (by decide) (by decide), A1 15 (by decide), F2 14 (by decide) (by decide)]
    exact hI.2.2.2.2.2.2.2.2.1.2.1
  · rw [FB 408 (by decide) (by decide), hA, tF_a (by decide) (by decide), zu_s]
  · rw [rF_2 (by decide), zu_s]
  · have h8 := hI.2.2.2.2.2.2.2.1
    have h8' : SCa (zu mi 408 1 (nI 0)) := SCa_c h8 (by rw [zu_a (by decide)]) (zu_a (by decide)) (by rw [zu_a (by decide)]) (zu_a (by decide))
    exact SCa_F h8' isF5 (by rw [zu_a (by decide), hA]) (by rw [zu_a (by decide), hA]) (by rw [zu_a (by decide), FA 423 (by decide) (by decide) (by decide), zu_a (by decide)])
end
