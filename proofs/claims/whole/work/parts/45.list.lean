/-! rows of cells -/
def Lk (v : Nat → Int32) : Int32 → List Nat → Prop
  | x, [] => x = m1
  | x, c :: l => x = nI c ∧ c < 24 ∧ Lk v (v (72 + c)) l
theorem Lk_det {v : Nat → Int32} : ∀ {l l' : List Nat} {x : Int32}, Lk v x l → Lk v x l' → l = l'
  | [], [], _, _, _ => rfl
  | [], c :: _, x, h, h' => by
    have h1 : x = m1 := h
    have h2 : x = nI c := h'.1
    exact absurd (h2.symm.trans h1) (nI_nm (by have := h'.2.1; omega))
  | c :: _, [], x, h, h' => by
    have h1 : x = m1 := h'
    have h2 : x = nI c := h.1
    exact absurd (h2.symm.trans h1) (nI_nm (by have := h.2.1; omega))
  | c :: l, c' :: l', x, h, h' => by
    have e : c = c' := nI_inj (by have := h.2.1; omega) (by have := h'.2.1; omega) (h.1.symm.trans h'.1)
    subst e
    rw [Lk_det h.2.2 h'.2.2]
theorem Lk_mem {v : Nat → Int32} {c : Nat} : ∀ {l : List Nat} {x : Int32}, Lk v x l → c ∈ l → c < 24 ∧ ∃ l', Lk v (v (72 + c)) l' ∧ l'.length < l.length ∧ ∀ y, y ∈ l' → y ∈ l
  | [], _, _, hc => absurd hc (by simp)
  | d :: l, x, h, hc => by
    rcases List.mem_cons.mp hc with e | e
    · subst e
      exact ⟨h.2.1, l, h.2.2, by simp, fun y hy => List.mem_cons_of_mem _ hy⟩
    · obtain ⟨q1, l', q2, q3, q4⟩ := Lk_mem h.2.2 e
      exact ⟨q1, l', q2, by simp; omega, fun y hy => List.mem_cons_of_mem _ (q4 y hy)⟩
theorem Lk_nd {v : Nat → Int32} : ∀ {l : List Nat} {x : Int32}, Lk v x l → l.Nodup
  | [], _, _ => List.nodup_nil
  | c :: l, x, h => by
    refine List.nodup_cons.mpr ⟨fun hc => ?_, Lk_nd h.2.2⟩
    obtain ⟨q1, l', q2, q3, q4⟩ := Lk_mem h.2.2 hc
    rw [Lk_det q2 h.2.2] at q3
    exact absurd q3 (by omega)
theorem nd_len : ∀ (N : Nat) {l : List Nat}, l.Nodup → (∀ c, c ∈ l → c < N) → l.length ≤ N := by
  intro N
  induction N with
  | zero =>
    intro l _ h
    cases l with
    | nil => exact Nat.le_refl 0
    | cons c l => exact absurd (h c (by simp)) (by omega)
  | succ N ih =>
    intro l hn h
    have h1 := ih (l := l.erase N) (hn.erase N) (fun c hc => by
      have h2 := (List.Nodup.mem_erase_iff hn).mp hc
      have := h c h2.2
      omega)
    by_cases hN : N ∈ l
    · rw [List.length_erase_of_mem hN] at h1
      omega
    · rw [List.erase_of_not_mem hN] at h1
      omega
theorem Lk_lt {v : Nat → Int32} {l : List Nat} {x : Int32} (h : Lk v x l) : ∀ c, c ∈ l → c < 24 := fun _ hc => (Lk_mem h hc).1
theorem Lk_len {v : Nat → Int32} {l : List Nat} {x : Int32} (h : Lk v x l) : l.length ≤ 24 := nd_len 24 (Lk_nd h) (Lk_lt h)
theorem Lk_congv {v v' : Nat → Int32} : ∀ {l : List Nat} {x : Int32}, Lk v x l → (∀ c, c ∈ l → v' (72 + c) = v (72 + c)) → Lk v' x l
  | [], _, h, _ => h
  | c :: l, x, h, e => ⟨h.1, h.2.1, by rw [e c (by simp)]; exact Lk_congv h.2.2 (fun d hd => e d (List.mem_cons_of_mem _ hd))⟩
/-- one link is led elsewhere: what was finite stays so -/
theorem Lk_upd {v : Nat → Int32} {a : Nat} {y : Int32} {ly : List Nat} (ha : a < 24) (hy : Lk v y ly) (hn : a ∉ ly) : ∀ {l : List Nat} {x : Int32}, Lk v x l → ∃ l', Lk (upd v (72 + a) y) x l'
  | [], _, h => ⟨[], h⟩
  | c :: l, x, h => by
    by_cases e : c = a
    · subst e
      refine ⟨c :: ly, h.1, ha, ?_⟩
      rw [upd_eq]
      exact Lk_congv hy (fun d hd => upd_ne (fun q => hn (by
        have e2 : d = c := by omega
        rw [← e2]
        exact hd)))
    · obtain ⟨l', h'⟩ := Lk_upd ha hy hn h.2.2
      exact ⟨c :: l', h.1, h.2.1, by rw [upd_ne (by omega)]; exact h'⟩
/-- where the link is that leads to the first cell whose key is so great -/
def lka (v : Nat → Int32) (key : Int32) : Nat → List Nat → Nat
  | b, [] => b
  | b, c :: l => if v (24 + c) < key then lka v key (72 + c) l else b
/-- what lies before it and from it on -/
theorem lka_sp {v : Nat → Int32} {key : Int32} : ∀ {l : List Nat} {b : Nat}, Lk v (v b) l → ∃ l1 l2, l = l1 ++ l2 ∧ (∀ c, c ∈ l1 → v (24 + c) < key) ∧ (∀ c l3, l2 = c :: l3 → ¬ v (24 + c) < key) ∧ Lk v (v (lka v key b l)) l2 ∧ ((l1 = [] ∧ lka v key b l = b) ∨ ∃ l0 c, l1 = l0 ++ [c] ∧ c < 24 ∧ lka v key b l = 72 + c)
  | [], b, h => ⟨[], [], rfl, by simp, by simp, h, Or.inl ⟨rfl, rfl⟩⟩
  | c :: l, b, h => by
    by_cases q : v (24 + c) < key
    · obtain ⟨l1, l2, e1, e2, e3, e4, e5⟩ := lka_sp (key := key) (b := 72 + c) h.2.2
      refine ⟨c :: l1, l2, by rw [e1]; rfl, ?_, e3, by unfold lka; rw [if_pos q]; exact e4, Or.inr ?_⟩
      · intro d hd
        rcases List.mem_cons.mp hd with r | r
        · rw [r]; exact q
        · exact e2 d r
      · unfold lka
        rw [if_pos q]
        rcases e5 with ⟨z1, z2⟩ | ⟨l0, d, z1, z2, z3⟩
        · exact ⟨[], c, by rw [z1]; rfl, h.2.1, z2⟩
        · exact ⟨c :: l0, d, by rw [z1]; rfl, z2, z3⟩
    · exact ⟨[], c :: l, rfl, by simp, fun d l3 e => by injection e with e1 e2; rw [← e1]; exact q, by unfold lka; rw [if_neg q]; exact h, Or.inl ⟨rfl, by unfold lka; rw [if_neg q]⟩⟩
/-- the lowest cell that is free -/
def lfr (v : Nat → Int32) : Nat → Nat → Nat
  | 0, c => c
  | k + 1, c => if v c = nI 0 then c else lfr v k (c + 1)
theorem lfr_sp {v : Nat → Int32} : ∀ (k c : Nat), lfr v k c ≤ c + k ∧ (lfr v k c < c + k → v (lfr v k c) = nI 0)
  | 0, c => ⟨Nat.le_refl _, fun h => absurd h (by unfold lfr; omega)⟩
  | k + 1, c => by
    unfold lfr
    by_cases q : v c = nI 0
    · rw [if_pos q]
      exact ⟨by omega, fun _ => q⟩
    · rw [if_neg q]
      have := lfr_sp (v := v) k (c + 1)
      exact ⟨by omega, fun h => this.2 (by omega)⟩
section
variable {g : zS} {mi M : Nat → Nat → Int32} {v : Nat → Int32} {ml : Nat → Nat → Int64} {w n : Nat}
theorem r_lowestFree_ (hs : Sy g) : ∀ (k c f : Nat), c + k = 24 → k < f → zlp2 (fb_X12_lowestFree_2 n) f 422 (nI c) (g, zrw M 424 v, ml) = some (if lfr v k c = 24 then m1 else nI (lfr v k c), (g, zrw M 424 v, ml))
  | k, c, 0, _, h => absurd h (by omega)
  | 0, c, f + 1, h1, _ => by
    show fb_X12_lowestFree_2 n (zlp2 (fb_X12_lowestFree_2 n) f) 422 (nI c) (g, zrw M 424 v, ml) = _
    have : c = 24 := by omega
    subst this
    rfl
  | k + 1, c, f + 1, h1, h2 => by
    show fb_X12_lowestFree_2 n (zlp2 (fb_X12_lowestFree_2 n) f) 422 (nI c) (g, zrw M 424 v, ml) = _
    unfold fb_X12_lowestFree_2 fb_X12_lowestFree_25 lfr
    simp (disch := omega) only [lit, ng1, nLe, nI_add, Nat.zero_add, S_gR422_2 hs, R_a hs, if_neg]
    by_cases q : v c = nI 0
    · simp (disch := omega) only [if_pos q, nEq, if_neg]
    · rw [if_neg q, if_neg q]
      exact r_lowestFree_ hs k (c + 1) f (by omega) (by omega)
theorem r_lowestFree (hs : Sy g) (hn : 24 < n) : f_X12_lowestFree n 422 (g, zrw M 424 v, ml) = some (if lfr v 24 0 = 24 then m1 else nI (lfr v 24 0), (g, zrw M 424 v, ml)) := r_lowestFree_ hs 24 0 n rfl hn
theorem c_lowestFree_ (hs : Sy g) (hw : zWL.contains w = true) (hR : WR mi w v) : ∀ (k c f : Nat), c + k = 24 → k < f → zlp2 (fb_X0_lowestFree_2 n) f (w + 1) (nI c) (g, mi, ml) = some (if lfr v k c = 24 then m1 else nI (lfr v k c), (g, mi, ml))
  | k, c, 0, _, h => absurd h (by omega)
  | 0, c, f + 1, h1, _ => by
    show fb_X0_lowestFree_2 n (zlp2 (fb_X0_lowestFree_2 n) f) (w + 1) (nI c) (g, mi, ml) = _
    have : c = 24 := by omega
    subst this
    rfl
  | k + 1, c, f + 1, h1, h2 => by
    show fb_X0_lowestFree_2 n (zlp2 (fb_X0_lowestFree_2 n) f) (w + 1) (nI c) (g, mi, ml) = _
    unfold fb_X0_lowestFree_2 lfr
    simp (disch := omega) only [lit, ng1, nLe, nI_add, C_gR0 hs hw, A_aI2 hs hw, if_neg, rd_kind hR]
    by_cases q : v c = nI 0
    · rw [if_pos q, if_pos q, if_neg (by omega)]
    · rw [if_neg q, if_neg q]
      exact c_lowestFree_ hs hw hR k (c + 1) f (by omega) (by omega)
theorem c_lowestFree (hs : Sy g) (hw : zWL.contains w = true) (hR : WR mi w v) (hn : 24 < n) : f_X0_lowestFree n (w + 1) (g, mi, ml) = some (if lfr v 24 0 = 24 then m1 else nI (lfr v 24 0), (g, mi, ml)) := c_lowestFree_ hs hw hR 24 0 n rfl hn
theorem r_linkTo_ (hs : Sy g) {key : Int32} : ∀ (l : List Nat) (b f : Nat), b < 5815 → l.length < f → Lk v (v b) l → zlp3 (fb_X12_linkTo_3 n) f 422 key (nI b) (g, zrw M 424 v, ml) = some (nI (lka v key b l), (g, zrw M 424 v, ml))
  | l, b, 0, _, h, _ => absurd h (by omega)
  | [], b, f + 1, hb, _, h => by
    show fb_X12_linkTo_3 n (zlp3 (fb_X12_linkTo_3 n) f) 422 key (nI b) (g, zrw M 424 v, ml) = _
    have h' : v b = m1 := h
    unfold fb_X12_linkTo_3 lka
    simp (disch := omega) only [lit, ng1, S_gR422_2 hs, R_a hs, h', if_T]
  | c :: l, b, f + 1, hb, hl, h => by
    show fb_X12_linkTo_3 n (zlp3 (fb_X12_linkTo_3 n) f) 422 key (nI b) (g, zrw M 424 v, ml) = _
    have hc := h.2.1
    have hb' := h.1
    unfold fb_X12_linkTo_3 lka
    simp (disch := omega) only [lit, ng1, S_gR422_2 hs, R_a hs, hb', nm1, if_F, nI_add, q_let]
    by_cases q : v (24 + c) < key
    · rw [if_neg (by rw [Int32.le_iff_toInt_le]; rw [Int32.lt_iff_toInt_lt] at q; omega), if_pos q]
      exact r_linkTo_ hs l (72 + c) f (by omega) (by simp at hl; omega) h.2.2
    · rw [if_pos (by rw [Int32.le_iff_toInt_le]; rw [Int32.lt_iff_toInt_lt] at q; omega), if_neg q]
theorem r_linkTo (hs : Sy g) {key : Int32} {l : List Nat} (h : Lk v (v 96) l) (hn : 24 < n) : f_X12_linkTo n 422 key (g, zrw M 424 v, ml) = some (nI (lka v key 96 l), (g, zrw M 424 v, ml)) := r_linkTo_ hs l 96 n (by decide) (by have := Lk_len h; omega) h
/-- the Java side tells the cell before, -1 for the head -/
def prI (b : Nat) : Int32 := if b = 96 then m1 else nI (b - 72)
theorem c_isCell {c : Nat} (hc : c < 24) (h : zH) : f_X11_isCell n (nI c) h = some (nI 1, h) := by
  unfold f_X11_isCell
  simp (disch := omega) only [lit, nLt, nLe, Nat.not_lt_zero, if_neg, if_F]
theorem c_isCellN (h : zH) : f_X11_isCell n m1 h = some (nI 0, h) := rfl
theorem c_lastBelow_ (hs : Sy g) (hw : zWL.contains w = true) (hR : WR mi w v) {key : Int32} : ∀ (l : List Nat) (b k f : Nat), l.length + k ≤ 24 → l.length < f → Lk v (v b) l → (b = 96 ∨ 72 ≤ b ∧ b < 96) → zlp5 (fb_X0_lastBelow_10 n) f (w + 1) key (prI b) (v b) (nI k) (g, mi, ml) = some (prI (lka v key b l), (g, mi, ml))
  | l, b, k, 0, _, h, _, _ => absurd h (by omega)
  | [], b, k, f + 1, hk, _, h, hb => by
    show fb_X0_lastBelow_10 n (zlp5 (fb_X0_lastBelow_10 n) f) (w + 1) key (prI b) (v b) (nI k) (g, mi, ml) = _
    have h' : v b = m1 := h
    unfold fb_X0_lastBelow_10 lka
    rw [h', c_isCellN]
    simp only [lit, zb_s, if_pos]
    split <;> rfl
  | c :: l, b, k, f + 1, hk, hl, h, hb => by
    show fb_X0_lastBelow_10 n (zlp5 (fb_X0_lastBelow_10 n) f) (w + 1) key (prI b) (v b) (nI k) (g, mi, ml) = _
    have hc := h.2.1
    have hb' := h.1
    have hk' : l.length + 1 + k ≤ 24 := hk
    unfold fb_X0_lastBelow_10 lka
    rw [hb', c_isCell hc]
    simp (disch := omega) only [lit, zb_s, nLe, nEq, if_neg, C_gR1 hs hw, C_gR3 hs hw, A_aI3 hs hw, A_aI5 hs hw, rd_key hR, rd_next hR, nI_add]
    by_cases q : v (24 + c) < key
    · rw [if_neg (by rw [Int32.le_iff_toInt_le]; rw [Int32.lt_iff_toInt_lt] at q; omega), if_pos q]
      have e : nI c = prI (72 + c) := by
        unfold prI
        rw [if_neg (by omega)]
        congr 1
        omega
      rw [e]
      exact c_lastBelow_ hs hw hR l (72 + c) (k + 1) f (by omega) (by simp at hl; omega) h.2.2 (by omega)
    · rw [if_pos (by rw [Int32.le_iff_toInt_le]; rw [Int32.lt_iff_toInt_lt] at q; omega), if_neg q]
theorem c_lastBelow (hs : Sy g) (hw : zWL.contains w = true) (hR : WR mi w v) {key : Int32} {l : List Nat} (h : Lk v (v 96) l) (hn : 24 < n) : f_X0_lastBelow n (w + 1) key (g, mi, ml) = some (prI (lka v key 96 l), (g, mi, ml)) := by
  unfold f_X0_lastBelow
  simp only [C_gI hs hw, rd_head hR]
  exact c_lastBelow_ hs hw hR l 96 0 n (by have := Lk_len h; omega) (by have := Lk_len h; omega) h (Or.inl rfl)
theorem lka_r {key : Int32} : ∀ {l : List Nat} {b : Nat} {x : Int32}, Lk v x l → (b = 96 ∨ 72 ≤ b ∧ b < 96) → (lka v key b l = 96 ∨ 72 ≤ lka v key b l ∧ lka v key b l < 96)
  | [], _, _, _, h => h
  | c :: l, b, x, hl, h => by
    unfold lka
    split
    · exact lka_r hl.2.2 (by have := hl.2.1; omega)
    · exact h
theorem c_follower (hs : Sy g) (hw : zWL.contains w = true) (hR : WR mi w v) {b : Nat} (hb : b = 96 ∨ 72 ≤ b ∧ b < 96) : f_X0_follower n (w + 1) (prI b) (g, mi, ml) = some (v b, (g, mi, ml)) := by
  unfold f_X0_follower prI
  by_cases q : b = 96
  · rw [if_pos q, c_isCellN, q]
    simp only [lit, zb_s, if_pos, C_gI hs hw, rd_head hR]
  · rw [if_neg q, c_isCell (by omega)]
    simp (disch := omega) only [lit, zb_s, nEq, if_neg, C_gR3 hs hw, A_aI5 hs hw, rd_next hR]
    have : 72 + (b - 72) = b := by omega
    rw [this]
end
