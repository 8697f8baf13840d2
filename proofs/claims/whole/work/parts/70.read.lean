/-! the plain form reads a row of tokens -/
def Mt (M : Nat → Nat → Int32) (t l b : Int32) : Nat → Nat → Int32 := fun a k => if a = 422 then (if k = 19 then t else if k = 20 then l else if k = 21 then b else M a k) else M a k
def TR (o : Bool) (M : Nat → Nat → Int32) (T : Nat) (D V P : Nat → Nat) : Prop := (∀ i, i ≤ T → M 431 i = nI (D i) ∧ M 433 i = nI (P i) ∧ P i ≤ 400 ∧ (D i = 50 → V i ≤ 1000 → M 432 i = nI (V i)) ∧ (D i = 50 → 1000 < V i → nI 1000 < M 432 i)) ∧ (T ≤ 400 ∧ D T = 0 ∧ ∀ i, D i < 1000) ∧ M 422 10 = tB o ∧ M 422 8 = nI (if o then 13 else 7) ∧ M 422 9 = nI (if o then 19 else 13)
section
variable {g : zS} {M : Nat → Nat → Int32} {ml : Nat → Nat → Int64} {t l b y : Int32} {ρ : Type} {n T : Nat} {D V P : Nat → Nat} {o : Bool}
theorem t_tk {K : Int32 → Option ρ} (hs : Sy g) : zgI ((g, Mt M t l b, ml) : zH) 13 422 19 K = K t := by
  rw [S_gI422 hs]; rfl
theorem t_lf {K : Int32 → Option ρ} (hs : Sy g) : zgI ((g, Mt M t l b, ml) : zH) 13 422 20 K = K l := by
  rw [S_gI422 hs]; rfl
theorem t_bd {K : Int32 → Option ρ} (hs : Sy g) : zgI ((g, Mt M t l b, ml) : zH) 13 422 21 K = K b := by
  rw [S_gI422 hs]; rfl
theorem t_8 {K : Int32 → Option ρ} (hs : Sy g) : zgI ((g, Mt M t l b, ml) : zH) 13 422 8 K = K (M 422 8) := by
  rw [S_gI422 hs]; rfl
theorem t_9 {K : Int32 → Option ρ} (hs : Sy g) : zgI ((g, Mt M t l b, ml) : zH) 13 422 9 K = K (M 422 9) := by
  rw [S_gI422 hs]; rfl
theorem t_10 {K : Int32 → Option ρ} (hs : Sy g) : zgI ((g, Mt M t l b, ml) : zH) 13 422 10 K = K (M 422 10) := by
  rw [S_gI422 hs]; rfl
theorem t_z (N : Nat → Nat → Int32) (k : Nat) (z : Int32) : zu N 422 k z = fun a j => if a = 422 then (if j = k then z else N a j) else N a j := by
  rw [u_zu]
  unfold zrw
  funext a
  by_cases h : a = 422
  · subst h; simp
  · simp [h]
theorem t_ptk {K : zH → Option ρ} (hs : Sy g) : zpI ((g, Mt M t l b, ml) : zH) 13 422 19 y K = K (g, Mt M y l b, ml) := by
  rw [S_pI422 hs, t_z]
  congr 2
  congr 1
  funext a k
  unfold Mt
  by_cases h : a = 422
  · subst h
    by_cases h1 : k = 19
    · subst h1; simp
    · simp [h1]
  · simp [h]
theorem t_plf {K : zH → Option ρ} (hs : Sy g) : zpI ((g, Mt M t l b, ml) : zH) 13 422 20 y K = K (g, Mt M t y b, ml) := by
  rw [S_pI422 hs, t_z]
  congr 2
  congr 1
  funext a k
  unfold Mt
  by_cases h : a = 422
  · subst h
    by_cases h1 : k = 20
    · subst h1; simp
    · simp [h1]
  · simp [h]
theorem t_pbd {K : zH → Option ρ} (hs : Sy g) : zpI ((g, Mt M t l b, ml) : zH) 13 422 21 y K = K (g, Mt M t l y, ml) := by
  rw [S_pI422 hs, t_z]
  congr 2
  congr 1
  funext a k
  unfold Mt
  by_cases h : a = 422
  · subst h
    by_cases h1 : k = 21
    · subst h1; simp
    · simp [h1]
  · simp [h]
theorem t_cd {K : Int32 → Option ρ} (hs : Sy g) (h : TR o M T D V P) {i : Nat} (hi : i ≤ T) : zaI ((g, Mt M t l b, ml) : zH) 21 431 (nI i) K = K (nI (D i)) := by
  have hT := h.2.1.1
  rw [S_aI431 hs (by omega), ← (h.1 i hi).1]; rfl
theorem t_pl {K : Int32 → Option ρ} (hs : Sy g) (h : TR o M T D V P) {i : Nat} (hi : i ≤ T) : zaI ((g, Mt M t l b, ml) : zH) 21 433 (nI i) K = K (nI (P i)) := by
  have hT := h.2.1.1
  rw [S_aI433 hs (by omega), ← (h.1 i hi).2.1]; rfl
theorem t_vl {K : Int32 → Option ρ} (hs : Sy g) (h : TR o M T D V P) {i : Nat} (hi : i ≤ T) : zaI ((g, Mt M t l b, ml) : zH) 21 432 (nI i) K = K (M 432 i) := by
  have hT := h.2.1.1
  rw [S_aI432 hs (by omega)]; rfl
theorem t_fine1 (hs : Sy g) : f_X12_fine n 422 (g, Mt M t l m1, ml) = some (nI 1, (g, Mt M t l m1, ml)) := by
  unfold f_X12_fine
  rw [t_bd hs]; rfl
theorem t_fine0 (hs : Sy g) (hb : b ≠ m1) : f_X12_fine n 422 (g, Mt M t l b, ml) = some (nI 0, (g, Mt M t l b, ml)) := by
  unfold f_X12_fine
  rw [t_bd hs]; exact if_neg hb
theorem t_fl1 (hs : Sy g) (h : TR o M T D V P) {i : Nat} (hi : i ≤ T) : f_X12_faults n 422 (g, Mt M (nI i) l m1, ml) = some ((), (g, Mt M (nI i) l (nI (P i)), ml)) := by
  unfold f_X12_faults
  simp only [lit]
  simp (disch := omega) only [↓S_ck422 hs, t_fine1 hs, zb_s, ↓iEq0, ↓S_gR422_17 hs, ↓t_tk hs, ↓t_pl hs h hi, ↓t_pbd hs]
theorem t_fl0 (hs : Sy g) (hb : b ≠ m1) : f_X12_faults n 422 (g, Mt M t l b, ml) = some ((), (g, Mt M t l b, ml)) := by
  unfold f_X12_faults
  simp only [lit]
  simp (disch := omega) only [↓S_ck422 hs, t_fine0 hs hb, zb_s, if_T]
theorem t_pb (h : TR o M T D V P) {i : Nat} (hi : i ≤ T) : nI (P i) ≠ m1 := by
  have := (h.1 i hi).2.2.1
  exact nI_nm (by omega)
theorem t_tk1 (hs : Sy g) (h : TR o M T D V P) {i c : Nat} (hi : i ≤ T) (hc : c < 1000) : f_X12_takes0 n 422 (nI c) (g, Mt M (nI i) l m1, ml) = if D i = c then some (nI 1, (g, Mt M (nI (i + 1)) l m1, ml)) else some (nI 0, (g, Mt M (nI i) l m1, ml)) := by
  have hT := h.2.1.1
  have hD := h.2.1.2.2 i
  unfold f_X12_takes0 fb_X12_takes0_24 fb_X12_takes0_25
  simp only [lit]
  simp (disch := omega) only [↓S_ck422 hs, t_fine1 hs, zb_s, ↓iEq0, ↓S_gR422_15 hs, ↓t_tk hs, ↓t_cd hs h hi, nEq]
  by_cases q : D i = c
  · simp (disch := omega) only [q, if_T, if_neg, ↓t_tk hs, ↓t_ptk hs, nI_add, zrZ1]
  · simp (disch := omega) only [q, if_F, if_T, zrZ0]
theorem t_tk0 (hs : Sy g) (hb : b ≠ m1) {c : Int32} : f_X12_takes0 n 422 c (g, Mt M t l b, ml) = some (nI 0, (g, Mt M t l b, ml)) := by
  unfold f_X12_takes0 fb_X12_takes0_24 fb_X12_takes0_25
  simp only [lit]
  simp (disch := omega) only [↓S_ck422 hs, t_fine0 hs hb, zb_s, if_T, zrZ0]
theorem t_mu1 (hs : Sy g) (h : TR o M T D V P) {i c : Nat} (hi : i ≤ T) (hc : c < 1000) : f_X12_must n 422 (nI c) (g, Mt M (nI i) l m1, ml) = if D i = c then some ((), (g, Mt M (nI (i + 1)) l m1, ml)) else some ((), (g, Mt M (nI i) l (nI (P i)), ml)) := by
  unfold f_X12_must
  simp only [lit]
  simp (disch := omega) only [↓S_ck422 hs, t_tk1 hs h hi]
  by_cases q : D i = c
  · simp (disch := omega) only [q, if_T, zb_s, nEq, if_neg]
  · simp (disch := omega) only [q, if_F, if_T, zb_s, ↓S_ck422 hs, t_fl1 hs h hi]
theorem t_mu0 (hs : Sy g) (hb : b ≠ m1) {c : Int32} : f_X12_must n 422 c (g, Mt M t l b, ml) = some ((), (g, Mt M t l b, ml)) := by
  unfold f_X12_must
  simp only [lit]
  simp (disch := omega) only [↓S_ck422 hs, t_tk0 hs hb, t_fl0 hs hb, zb_s, if_T]
theorem t_lies (h : TR o M T D V P) {i a c : Nat} (hi : i ≤ T) (h5 : D i = 50) (hc : c ≤ 1000) (ha : a ≤ 1000) {hh : zH} : f_X12_lies n (M 432 i) (nI a) (nI c) hh = some (if a ≤ V i ∧ V i ≤ c then nI 1 else nI 0, hh) := by
  obtain ⟨-, -, -, h1, h2⟩ := h.1 i hi
  unfold f_X12_lies
  simp only [lit]
  by_cases q : V i ≤ 1000
  · rw [h1 h5 q]
    by_cases q1 : a ≤ V i
    · rw [iLt0 (by omega) (by omega) (by omega)]
      by_cases q2 : V i ≤ c
      · rw [iLt0 (by omega) (by omega) (by omega), if_pos ⟨q1, q2⟩]
      · rw [iLt1 (by omega) (by omega) (by omega), if_neg (fun z => q2 z.2)]
    · rw [iLt1 (by omega) (by omega) (by omega), if_neg (fun z => q1 z.1)]
  · have h3 := h2 h5 (by omega)
    have h4 : ¬ M 432 i < nI a := by
      rw [Int32.lt_iff_toInt_lt] at h3 ⊢
      rw [nI_toInt (by omega)] at h3 ⊢
      omega
    have h6 : nI c < M 432 i := by
      rw [Int32.lt_iff_toInt_lt] at h3 ⊢
      rw [nI_toInt (by omega)] at h3 ⊢
      omega
    rw [if_neg h4, if_pos h6, if_neg (fun z => by omega)]
theorem t_42 (hs : Sy g) {i : Nat} : fb_X12_mustNumber_42 n 422 (g, Mt M (nI i) l m1, ml) = some ((), (g, Mt M (nI (i + 1)) l m1, ml)) := by
  unfold fb_X12_mustNumber_42
  simp only [lit]
  simp (disch := omega) only [↓S_ck422 hs, t_fine1 hs, zb_s, ↓iEq0, ↓t_tk hs, ↓t_ptk hs, nI_add]
theorem t_420 (hs : Sy g) (hb : b ≠ m1) : fb_X12_mustNumber_42 n 422 (g, Mt M t l b, ml) = some ((), (g, Mt M t l b, ml)) := by
  unfold fb_X12_mustNumber_42
  simp only [lit]
  simp (disch := omega) only [↓S_ck422 hs, t_fine0 hs hb, zb_s, if_T]
theorem t_nu1 (hs : Sy g) (h : TR o M T D V P) {i a c : Nat} (hi : i ≤ T) (hc : c ≤ 1000) (ha : a ≤ 1000) : f_X12_mustNumber n 422 (nI a) (nI c) (g, Mt M (nI i) l m1, ml) = if D i = 50 ∧ a ≤ V i ∧ V i ≤ c then some ((), (g, Mt M (nI (i + 1)) l m1, ml)) else some ((), (g, Mt M (nI i) l (nI (P i)), ml)) := by
  have hT := h.2.1.1
  have hD := h.2.1.2.2 i
  have k38 : fb_X12_mustNumber_38 n 422 (g, Mt M (nI i) l m1, ml) = some ((), (g, Mt M (nI i) l (nI (P i)), ml)) := by
    unfold fb_X12_mustNumber_38
    rw [S_ck422 hs, t_fl1 hs h hi, zb_s, t_420 hs (t_pb h hi)]
  unfold f_X12_mustNumber
  simp only [lit]
  simp (disch := omega) only [↓S_ck422 hs, t_fine1 hs, zb_s, ↓iEq0, ↓S_gR422_15 hs, ↓t_tk hs, ↓t_cd hs h hi, nEq]
  by_cases q : D i = 50
  · simp (disch := omega) only [q, if_T, ↓S_gR422_16 hs, ↓t_tk hs, ↓t_vl hs h hi, t_lies h hi q hc ha, zb_s, true_and]
    by_cases z : a ≤ V i ∧ V i ≤ c
    · simp (disch := omega) only [z, if_T, nEq, if_neg, t_42 hs, and_self]
    · simp (disch := omega) only [z, if_T, if_F, k38, nEq, if_neg]
  · simp (disch := omega) only [q, if_F, k38, false_and, nEq, if_neg]
theorem t_nu0 (hs : Sy g) (hb : b ≠ m1) {a c : Int32} : f_X12_mustNumber n 422 a c (g, Mt M t l b, ml) = some ((), (g, Mt M t l b, ml)) := by
  unfold f_X12_mustNumber
  simp only [lit]
  simp (disch := omega) only [↓S_ck422 hs, t_fine0 hs hb, zb_s, if_T, t_420 hs hb]
theorem t_on1 (hs : Sy g) (h : TR o M T D V P) {i a c : Nat} (hi : i ≤ T) (hc : c ≤ 1000) (ha : a ≤ 1000) : f_X12_takesOneOf n 422 (nI a) (nI c) (g, Mt M (nI i) l m1, ml) = if a ≤ D i ∧ D i ≤ c then some (nI 1, (g, Mt M (nI (i + 1)) l m1, ml)) else some (nI 0, (g, Mt M (nI i) l m1, ml)) := by
  have hT := h.2.1.1
  have hD := h.2.1.2.2 i
  unfold f_X12_takesOneOf fb_X12_takesOneOf_28 fb_X12_takesOneOf_29 f_X12_lies
  simp only [lit]
  simp (disch := omega) only [↓S_ck422 hs, t_fine1 hs, zb_s, ↓iEq0, ↓S_gR422_15 hs, ↓t_tk hs, ↓t_cd hs h hi]
  by_cases q : a ≤ D i
  · by_cases q2 : D i ≤ c
    · simp (disch := omega) only [↓iLt0, zb_s, ↓iEq0, ↓t_tk hs, ↓t_ptk hs, nI_add, zrZ1, q, q2, and_self, if_T, nEq, if_neg]
    · simp (disch := omega) only [↓iLt0, ↓iLt1, zb_s, zrZ0, q, q2, and_false, if_F, if_T]
  · simp (disch := omega) only [↓iLt1, zb_s, zrZ0, q, false_and, if_F, if_T]
theorem t_on0 (hs : Sy g) (hb : b ≠ m1) {a c : Int32} : f_X12_takesOneOf n 422 a c (g, Mt M t l b, ml) = some (nI 0, (g, Mt M t l b, ml)) := by
  unfold f_X12_takesOneOf fb_X12_takesOneOf_28 fb_X12_takesOneOf_29
  simp only [lit]
  simp (disch := omega) only [↓S_ck422 hs, t_fine0 hs hb, zb_s, if_T, zrZ0]
end
