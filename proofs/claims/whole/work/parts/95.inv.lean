/-! what holds between two calls -/
def PW (B : Nat) (mi : Nat → Nat → Int32) (w : Nat) (v : Nat → Int32) : Prop := WR mi w v ∧ WI v ∧ ∃ e, e ≤ B ∧ Ed v e
def CU (mi : Nat → Nat → Int32) (a f t : Nat) (v : Nat → Int32) : Prop := ∃ m, m ≤ 6 ∧ mi a 2 = nI m ∧ v 205 = nI m ∧ ∀ k, k < m → mi f k = v (191 + 2 * k) ∧ mi t k = v (192 + 2 * k)
def hrow (mi : Nat → Nat → Int32) (i : Nat) : Nat → Int32 := fun k => mi 435 (192 * i + k)
def slt (f i : Nat) : Nat := (f + i) % 17
def HIx (B : Nat) (mi : Nat → Nat → Int32) (f m : Nat) : Prop := (f < 17 ∧ m ≤ 16 ∧ mi 30 2 = nI f ∧ mi 30 3 = nI m) ∧ mi 422 31 = nI m ∧ ∀ i, i < m → PW B mi (33 + 10 * slt f i) (hrow mi i) ∧ mi 32 (slt f i) = mi 435 (192 * i + 191) ∧ ∃ k, k < 9 ∧ mi 435 (192 * i + 191) = nI k
def HI (B : Nat) (mi : Nat → Nat → Int32) : Prop := ∃ f m, HIx B mi f m
def irow (mi : Nat → Nat → Int32) (j : Nat) : Nat → Int32 := fun k => mi 425 (5815 * j + k)
def IM (B : Nat) (g : zS) (mi : Nat → Nat → Int32) (j I w c r la : Nat) : Prop := (mi 426 j = nI 0 ∨ mi 426 j = nI 1) ∧ mi I 3 = mi 426 j ∧ (mi 426 j = nI 1 → PW B mi w (irow mi j) ∧ RU g mi r la (irow mi j) ∧ CU mi c (c + 1) (c + 2) (irow mi j))
def TA (mi : Nat → Nat → Int32) : Prop := ∃ b len, TPc mi b len ∧ TPr mi b len ∧ mi 422 13 = nI len
def SCa (mi : Nat → Nat → Int32) : Prop := mi 1 19 = mi 422 0 ∧ mi 419 0 = mi 423 1 ∧ mi 419 1 = mi 423 2 ∧ mi 419 2 = mi 423 3 ∧ mi 419 3 = mi 423 5 ∧ mi 419 4 = mi 423 6
def SCb (mi : Nat → Nat → Int32) : Prop := mi 1 14 = mi 422 6 ∧ mi 1 15 = mi 422 14 ∧ mi 1 16 = mi 422 33
def SCc (mi : Nat → Nat → Int32) : Prop := (mi 422 41 = nI 0 ∧ ∀ k, k < 24 → mi 420 k = m1) ∨ (mi 422 41 = nI 1 ∧ ∀ k, k < 24 → mi 420 k = mi 439 k)
/-- what lies in the rows of laws is a text, or nothing -/
def LR (g : zS) : Prop := ∀ la, (la = 26 ∨ la = 391 ∨ la = 407) → ∀ i, i < 6 → g.2.2.1 la i = 0 ∨ (g.1 (g.2.2.1 la i) = 9 ∧ inL g (g.2.2.1 la i))
def RM (c : Nat) (g : zS) : Prop := Sy g ∧ g.2.2.2.1 ≤ 439 + 4 * c ∧ 439 ≤ g.2.2.2.1 ∧ g.2.2.2.2 ≤ 60000 + 2000 * c ∧ LR g
def IV (c : Nat) (g : zS) (mi : Nat → Nat → Int32) : Prop := RM c g ∧ PW (3000 * c) mi 2 (mi 424) ∧ RU g mi 25 26 (mi 424) ∧ CU mi 27 28 29 (mi 424) ∧ HI (3000 * c) mi ∧ (IM (3000 * c) g mi 0 376 377 387 390 391 ∧ IM (3000 * c) g mi 1 392 393 403 406 407) ∧ TA mi ∧ SCa mi ∧ SCb mi ∧ SCc mi
/-- what is no scratch: the same -/
def vis (a : Nat) : Bool := decide (a = 2 ∨ (2 < a ∧ a < 12) ∨ (23 < a ∧ a < 203) ∨ (375 < a ∧ a < 410) ∨ (418 < a ∧ a < 422) ∨ (422 < a ∧ a < 427) ∨ (427 < a ∧ a < 430) ∨ a = 435 ∨ 436 < a)
def VE (mi mi' : Nat → Nat → Int32) : Prop := (∀ a, vis a = true → mi' a = mi a) ∧ (mi' 422 0 = mi 422 0 ∧ mi' 422 6 = mi 422 6 ∧ mi' 422 13 = mi 422 13 ∧ mi' 422 14 = mi 422 14 ∧ mi' 422 31 = mi 422 31 ∧ mi' 422 33 = mi 422 33 ∧ mi' 422 41 = mi 422 41) ∧ mi' 1 14 = mi 1 14 ∧ mi' 1 15 = mi 1 15 ∧ mi' 1 16 = mi 1 16 ∧ mi' 1 19 = mi 1 19
theorem vis_i {a : Nat} (h : a = 2 ∨ (2 < a ∧ a < 12) ∨ (23 < a ∧ a < 203) ∨ (375 < a ∧ a < 410) ∨ (418 < a ∧ a < 422) ∨ (422 < a ∧ a < 427) ∨ (427 < a ∧ a < 430) ∨ a = 435 ∨ 436 < a) : vis a = true := decide_eq_true h
theorem VE_r (mi : Nat → Nat → Int32) : VE mi mi := ⟨fun _ _ => rfl, ⟨rfl, rfl, rfl, rfl, rfl, rfl, rfl⟩, rfl, rfl, rfl, rfl⟩
theorem VE_t {m m' m'' : Nat → Nat → Int32} (h : VE m m') (h' : VE m' m'') : VE m m'' := by
  obtain ⟨a0, ⟨a1, a2, a3, a4, a5, a6, a7⟩, a8, a9, a10, a11⟩ := h
  obtain ⟨b0, ⟨b1, b2, b3, b4, b5, b6, b7⟩, b8, b9, b10, b11⟩ := h'
  exact ⟨fun a ha => (b0 a ha).trans (a0 a ha), ⟨b1.trans a1, b2.trans a2, b3.trans a3, b4.trans a4, b5.trans a5, b6.trans a6, b7.trans a7⟩, b8.trans a8, b9.trans a9, b10.trans a10, b11.trans a11⟩
section
variable {B B' c : Nat} {g : zS} {mi mi' : Nat → Nat → Int32}
theorem PW_c {w : Nat} {v v' : Nat → Int32} (h : PW B mi w v) (hB : B ≤ B') (e : ∀ k, k < 191 → v' k = v k) (em : ∀ a, w ≤ a → a < w + 10 → mi' a = mi a) (hI : WI v → WI v') : PW B' mi' w v' := by
  obtain ⟨h1, h2, e1, h3, h4⟩ := h
  refine ⟨WR_congv (WR_cong h1 em) e, hI h2, e1, by omega, ?_⟩
  unfold Ed at h4 ⊢
  rw [e 129 (by decide), e 130 (by decide), e 190 (by decide)]
  exact h4
theorem PW_e {w : Nat} {v : Nat → Int32} (h : PW B mi w v) (hB : B ≤ B') (em : ∀ a, w ≤ a → a < w + 10 → mi' a = mi a) : PW B' mi' w v := PW_c h hB (fun _ _ => rfl) em id
theorem CU_c {a f t : Nat} {v v' : Nat → Int32} (h : CU mi a f t v) (e : ∀ k, 191 ≤ k → k < 206 → v' k = v k) (ea : mi' a = mi a) (ef : mi' f = mi f) (et : mi' t = mi t) : CU mi' a f t v' := by
  obtain ⟨m, h1, h2, h3, h4⟩ := h
  refine ⟨m, h1, by rw [ea]; exact h2, by rw [e _ (by decide) (by decide)]; exact h3, fun k hk => ?_⟩
  rw [ef, et, e _ (by omega) (by omega), e _ (by omega) (by omega)]
  exact h4 k hk
theorem HIx_c {f m : Nat} (h : HIx B mi f m) (hB : B ≤ B') (e1 : mi' 30 = mi 30) (e2 : mi' 32 = mi 32) (e3 : mi' 422 31 = mi 422 31) (e4 : mi' 435 = mi 435) (e5 : ∀ a, 33 ≤ a → a < 203 → mi' a = mi a) : HIx B' mi' f m := by
  obtain ⟨⟨h1, h2, h3, h4⟩, h5, h6⟩ := h
  refine ⟨⟨h1, h2, by rw [e1]; exact h3, by rw [e1]; exact h4⟩, by rw [e3]; exact h5, fun i hi => ?_⟩
  obtain ⟨a1, a2, a3⟩ := h6 i hi
  have hr : hrow mi' i = hrow mi i := by unfold hrow; rw [e4]
  have hsl : slt f i < 17 := Nat.mod_lt _ (by decide)
  rw [hr, e2, e4]
  exact ⟨PW_e a1 hB (fun a h7 h8 => e5 a (by omega) (by omega)), a2, a3⟩
theorem HI_c (h : HI B mi) (hB : B ≤ B') (e1 : mi' 30 = mi 30) (e2 : mi' 32 = mi 32) (e3 : mi' 422 31 = mi 422 31) (e4 : mi' 435 = mi 435) (e5 : ∀ a, 33 ≤ a → a < 203 → mi' a = mi a) : HI B' mi' := by
  obtain ⟨f, m, h⟩ := h
  exact ⟨f, m, HIx_c h hB e1 e2 e3 e4 e5⟩
theorem IM_c {j I w c r la : Nat} (h : IM B g mi j I w c r la) (hB : B ≤ B') (e1 : mi' 426 j = mi 426 j) (e2 : mi' I = mi I) (e3 : ∀ k, k < 5815 → mi' 425 (5815 * j + k) = mi 425 (5815 * j + k)) (e4 : ∀ a, w ≤ a → a < w + 10 → mi' a = mi a) (e5 : mi' c = mi c) (e6 : mi' (c + 1) = mi (c + 1)) (e7 : mi' (c + 2) = mi (c + 2)) (e8 : mi' r = mi r) (e9 : ∀ a, 439 < a → a ≤ g.2.2.2.1 → mi' a = mi a) (hWI : WI (irow mi j) → WI (irow mi' j)) (hRU : RU g mi r la (irow mi j) → RU g mi' r la (irow mi' j)) : IM B' g mi' j I w c r la := by
  obtain ⟨h1, h2, h3⟩ := h
  refine ⟨by rw [e1]; exact h1, by rw [e1, e2]; exact h2, fun hh => ?_⟩
  rw [e1] at hh
  obtain ⟨a1, a2, a3⟩ := h3 hh
  exact ⟨PW_c a1 hB (fun k hk => e3 k (by omega)) e4 hWI, hRU a2, CU_c a3 (fun k _ hk => e3 k (by omega)) e5 e6 e7⟩
theorem IM_e {j I w c r la : Nat} (h : IM B g mi j I w c r la) (hB : B ≤ B') (e1 : mi' 426 = mi 426) (e2 : mi' I = mi I) (e3 : mi' 425 = mi 425) (e4 : ∀ a, w ≤ a → a < w + 10 → mi' a = mi a) (e5 : mi' c = mi c) (e6 : mi' (c + 1) = mi (c + 1)) (e7 : mi' (c + 2) = mi (c + 2)) (e8 : mi' r = mi r) (e9 : ∀ a, 439 < a → a ≤ g.2.2.2.1 → mi' a = mi a) : IM B' g mi' j I w c r la := by
  have hr : irow mi' j = irow mi j := by unfold irow; rw [e3]
  exact IM_c h hB (by rw [e1]) e2 (fun k _ => by rw [e3]) e4 e5 e6 e7 e8 e9 (by rw [hr]; exact id) (by rw [hr]; exact fun q => RU_c q (fun _ _ _ => rfl) e8 e9)
theorem TA_c (h : TA mi) (e1 : mi' 408 = mi 408) (e2 : mi' 409 = mi 409) (e3 : mi' 422 13 = mi 422 13) (e4 : mi' 428 = mi 428) (e5 : mi' 429 = mi 429) : TA mi' := by
  obtain ⟨b, len, h1, h2, h3⟩ := h
  refine ⟨b, len, ?_, ?_, by rw [e3]; exact h3⟩
  · unfold TPc at h1 ⊢
    rw [e1, e2]; exact h1
  · unfold TPr at h2 ⊢
    rw [e4, e5]; exact h2
theorem SCa_c (h : SCa mi) (e1 : mi' 1 19 = mi 1 19) (e2 : mi' 419 = mi 419) (e3 : mi' 422 0 = mi 422 0) (e4 : mi' 423 = mi 423) : SCa mi' := by
  unfold SCa at h ⊢
  rw [e1, e2, e3, e4]; exact h
theorem SCc_c (h : SCc mi) (e1 : mi' 420 = mi 420) (e2 : mi' 422 41 = mi 422 41) (e3 : mi' 439 = mi 439) : SCc mi' := by
  unfold SCc at h ⊢
  rw [e1, e2, e3]; exact h
theorem RM_w (h : RM c g) : RM (c + 1) g := by
  obtain ⟨h1, h2, h3, h4, h5⟩ := h
  exact ⟨h1, by omega, h3, by omega, h5⟩
/-- nothing but scratch changes -/
theorem IV_VE (h : IV c g mi) (e : VE mi mi') : IV (c + 1) g mi' := by
  obtain ⟨a0, ⟨a1, a2, a3, a4, a5, a6, a7⟩, a8, a9, a10, a11⟩ := e
  obtain ⟨h1, h2, h3, h4, h5, ⟨h6, h6'⟩, h7, h8, h9, h10⟩ := h
  have L : ∀ a, 439 < a → a ≤ g.2.2.2.1 → mi' a = mi a := fun a q _ => a0 a (vis_i (by omega))
  have e424 : mi' 424 = mi 424 := a0 424 rfl
  refine ⟨RM_w h1, ?_, ?_, ?_, HI_c h5 (by omega) (a0 30 rfl) (a0 32 rfl) a5 (a0 435 rfl) (fun a q1 q2 => a0 a (vis_i (by omega))), ⟨IM_e h6 (by omega) (a0 426 rfl) (a0 376 rfl) (a0 425 rfl) (fun a q1 q2 => a0 a (vis_i (by omega))) (a0 387 rfl) (a0 388 rfl) (a0 389 rfl) (a0 390 rfl) L, IM_e h6' (by omega) (a0 426 rfl) (a0 392 rfl) (a0 425 rfl) (fun a q1 q2 => a0 a (vis_i (by omega))) (a0 403 rfl) (a0 404 rfl) (a0 405 rfl) (a0 406 rfl) L⟩, TA_c h7 (a0 408 rfl) (a0 409 rfl) a3 (a0 428 rfl) (a0 429 rfl), SCa_c h8 a11 (a0 419 rfl) a1 (a0 423 rfl), ?_, SCc_c h10 (a0 420 rfl) a7 (a0 439 rfl)⟩
  · rw [e424]
    exact PW_e h2 (by omega) (fun a q1 q2 => a0 a (vis_i (by omega)))
  · rw [e424]
    exact RU_c h3 (fun _ _ _ => rfl) (a0 25 rfl) L
  · rw [e424]
    exact CU_c h4 (fun _ _ _ => rfl) (a0 27 rfl) (a0 28 rfl) (a0 29 rfl)
  · unfold SCb at h9 ⊢
    rw [a8, a9, a10, a2, a4, a6]; exact h9
end
/-! answers: told and refuses -/
def plc (r : Int32) : Nat := if r = m1 then 0 else if r = m2 then 1 else if r = m3 then 2 else if r = m5 then 3 else 4
def plr (r : Int32) : Nat := if r = m1 then 1 else if r = m2 then 2 else if r = m3 then 3 else if r = m5 then 5 else 6
def isF (r : Int32) : Prop := r = m1 ∨ r = m2 ∨ r = m3 ∨ r = m5 ∨ r = m6
def isG' (r : Int32) : Prop := ∃ j, j < 2147483648 ∧ r = nI j
def tF (r : Int32) (mi : Nat → Nat → Int32) : Nat → Nat → Int32 := zu (zu mi 1 19 r) 419 (plc r) (mi 419 (plc r) + nI 1)
def tG (mi : Nat → Nat → Int32) : Nat → Nat → Int32 := zu mi 1 19 (nI 0)
def rF (r : Int32) (mi : Nat → Nat → Int32) : Nat → Nat → Int32 := zu (zu mi 422 0 r) 423 (plr r) (mi 423 (plr r) + nI 1)
def rG (mi : Nat → Nat → Int32) : Nat → Nat → Int32 := zu mi 422 0 (nI 0)
section
variable {g : zS} {mi : Nat → Nat → Int32} {ml : Nat → Nat → Int64} {n : Nat} {r : Int32}
theorem told_F (hs : Sy g) (h : isF r) : f_X11_told n 1 r (g, mi, ml) = some (r, (g, tF r mi, ml)) := by
  have key : ∀ (r : Int32) (p : Nat), p < 5 → plc r = p → r < nI 0 → (r < m3 → m2 - r = nI p) → (¬ r < m3 → m1 - r = nI p) → ¬ nI 0 ≤ r → f_X11_told n 1 r (g, mi, ml) = some (r, (g, tF r mi, ml)) := by
    intro r p hp h1 h2 h3 h4 h5
    have e25 : fb_X11_told_25 n 1 r (nI p) (g, zu mi 1 19 r, ml) = some (r, (g, tF r mi, ml)) := by
      unfold fb_X11_told_25 tF
      simp only [li]
      rw [iN h5, iLt0 (by omega) (by omega) (by omega), S_gR1_11 hs, S_ln419 hs, iLe0 (by omega) (by omega) (by omega), S_gR1_11 hs, S_aI419 hs hp, zu_a (by decide), S_eI419 hs hp, h1]
    unfold f_X11_told f_J9_min_7cf53
    simp only [li, ng1, ng2, ng3]
    rw [iN (fun q => by rw [Int32.lt_iff_toInt_lt] at q h2; omega), zb_s, S_pI1 hs]
    by_cases q : r < m3
    · rw [iP q, h3 q, e25]
    · rw [iN q, h4 q, e25]
  rcases h with h | h | h | h | h <;> subst h
  · exact key m1 0 (by decide) rfl (by decide) (by decide) (by decide) (by decide)
  · exact key m2 1 (by decide) rfl (by decide) (by decide) (by decide) (by decide)
  · exact key m3 2 (by decide) rfl (by decide) (by decide) (by decide) (by decide)
  · exact key m5 3 (by decide) rfl (by decide) (by decide) (by decide) (by decide)
  · exact key m6 4 (by decide) rfl (by decide) (by decide) (by decide) (by decide)
theorem told_G (hs : Sy g) (h : isG' r) : f_X11_told n 1 r (g, mi, ml) = some (r, (g, tG mi, ml)) := by
  obtain ⟨j, hj, rfl⟩ := h
  have e25 : ∀ s, fb_X11_told_25 n 1 (nI j) s (g, zu mi 1 19 (nI 0), ml) = some (nI j, (g, tG mi, ml)) := by
    intro s
    unfold fb_X11_told_25
    simp only [li]
    rw [iLe1 (by omega) (by omega) (by omega)]
    rfl
  unfold f_X11_told f_J9_min_7cf53
  simp only [li, ng1, ng2, ng3]
  have e0 : ∀ h : zH, (if nI 0 < nI j then some (nI 0, h) else some (nI j, h)) = some (nI 0, h) := fun h => by
    by_cases q : 0 < j
    · rw [iLt1 (by omega) (by omega) q]
    · have : j = 0 := by omega
      subst this
      rw [iLt0 (by omega) (by omega) (by omega)]
  rw [e0, zb_s, S_pI1 hs, e25, e25]
  by_cases q : nI j < m3
  · rw [iP q]
  · rw [iN q]
theorem ref_F (hs : Sy g) (h : isF r) : f_X12_refuses n 422 r (g, mi, ml) = some (r, (g, rF r mi, ml)) := by
  have key : ∀ (r : Int32) (p : Nat), p < 7 → plr r = p → -r = nI p → f_X12_refuses n 422 r (g, mi, ml) = some (r, (g, rF r mi, ml)) := by
    intro r p hp h1 h2
    unfold f_X12_refuses rF
    simp only [li]
    rw [S_pI422 hs, S_gR422_1 hs, h2, S_aI423 hs hp, zu_a (by decide), S_eI423 hs hp, h1]
  rcases h with h | h | h | h | h <;> subst h
  · exact key m1 1 (by decide) rfl (by decide)
  · exact key m2 2 (by decide) rfl (by decide)
  · exact key m3 3 (by decide) rfl (by decide)
  · exact key m5 5 (by decide) rfl (by decide)
  · exact key m6 6 (by decide) rfl (by decide)
theorem good_e (hs : Sy g) : f_X12_good n 422 r (g, mi, ml) = some (r, (g, rG mi, ml)) := by
  unfold f_X12_good
  simp only [li]
  rw [S_pI422 hs]
  rfl
theorem gor_F (hs : Sy g) (h : isF r) : f_X12_goodOr n 422 r (g, mi, ml) = some (r, (g, rF r mi, ml)) := by
  have : ¬ (0 : Int32) ≤ r := by rcases h with h | h | h | h | h <;> subst h <;> decide
  unfold f_X12_goodOr
  rw [if_neg this, S_ck422 hs, ref_F hs h]
  rfl
theorem gor_G (hs : Sy g) (h : isG' r) : f_X12_goodOr n 422 r (g, mi, ml) = some (r, (g, rG mi, ml)) := by
  obtain ⟨j, hj, rfl⟩ := h
  unfold f_X12_goodOr
  rw [if_pos (nI_pos' hj), S_ck422 hs, good_e hs]
  rfl
theorem SCa_F {m' : Nat → Nat → Int32} (h : SCa mi) (hr : isF r) (e1 : m' 1 19 = tF r mi 1 19) (e2 : m' 419 = tF r mi 419) (e4 : m' 423 = mi 423) : SCa (rF r m') := by
  obtain ⟨h1, h2, h3, h4, h5, h6⟩ := h
  have k1 : rF r m' 1 = m' 1 := by unfold rF; rw [zu_a (by decide), zu_a (by decide)]
  have k2 : rF r m' 419 = m' 419 := by unfold rF; rw [zu_a (by decide), zu_a (by decide)]
  have k3 : rF r m' 422 0 = r := by unfold rF; rw [zu_a (by decide), zu_s]
  have k4 : rF r m' 423 = zu mi 423 (plr r) (mi 423 (plr r) + nI 1) 423 := by
    unfold rF
    rw [zu_eq, zu_eq, zu_a (by decide), e4]
  have k5 : tF r mi 419 = zu mi 419 (plc r) (mi 419 (plc r) + nI 1) 419 := by
    unfold tF
    rw [zu_eq, zu_eq, zu_a (by decide)]
  have k6 : tF r mi 1 19 = r := by unfold tF; rw [zu_a (by decide), zu_s]
  unfold SCa
  rw [k1, k2, k3, k4, e1, e2, k5, k6]
  rcases hr with h | h | h | h | h <;> subst h <;> refine ⟨rfl, ?_, ?_, ?_, ?_, ?_⟩ <;> simp [plc, plr, m1, m2, m3, m5, m6, zu, h2, h3, h4, h5, h6]
theorem SCa_G {m' : Nat → Nat → Int32} (h : SCa mi) (e1 : m' 1 19 = nI 0) (e2 : m' 419 = mi 419) (e4 : m' 423 = mi 423) : SCa (rG m') := by
  obtain ⟨h1, h2, h3, h4, h5, h6⟩ := h
  have k1 : rG m' 1 = m' 1 := zu_a (by decide)
  have k2 : rG m' 419 = m' 419 := zu_a (by decide)
  have k3 : rG m' 422 0 = nI 0 := zu_s _ _ _ _
  have k4 : rG m' 423 = m' 423 := zu_a (by decide)
  unfold SCa
  rw [k1, k2, k3, k4, e1, e2, e4]
  exact ⟨rfl, h2, h3, h4, h5, h6⟩
end
