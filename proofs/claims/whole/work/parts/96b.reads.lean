/-! calls that only look: find, old, sees, reach, the plain ones, count -/
def LOOKI (X Y : zH → Option (Int32 × zH)) : Prop := ∀ c g mi ml, IV c g mi → ∃ r, X (g, mi, ml) = some (r, (g, mi, ml)) ∧ Y (g, mi, ml) = some (r, (g, mi, ml))
theorem CALL_i {X Y : zH → Option (Int32 × zH)} (h : LOOKI X Y) : CALL X Y := by
  intro c g mi ml _ hI
  obtain ⟨r, h1, h2⟩ := h c g mi ml hI
  exact ⟨r, g, mi, ml, mi, ml, h1, h2, IV_VE hI (VE_r mi)⟩
/-- the row by its own name -/
def LOOKV (X Y : zH → Option (Int32 × zH)) : Prop := ∀ g mi ml v, mi 424 = v → Sy g → WR mi 2 v → WI v → ∃ r, X (g, mi, ml) = some (r, (g, mi, ml)) ∧ Y (g, mi, ml) = some (r, (g, mi, ml))
theorem LOOK_v {X Y : zH → Option (Int32 × zH)} (h : LOOKV X Y) : LOOK X Y := fun g mi ml h1 h2 h3 => h g mi ml _ rfl h1 h2 h3
section
variable {g : zS} {mi : Nat → Nat → Int32} {v : Nat → Int32} {ml : Nat → Nat → Int64} {n : Nat}
theorem cl_tears : LOOKI (f_X11_tears n 1) (f_X12_tears n 422) := by
  intro c g mi ml hI
  have hs := hI.1.1
  refine ⟨mi 1 14, by unfold f_X11_tears; rw [S_gI1 hs], ?_⟩
  unfold f_X12_tears
  rw [S_gI422 hs, hI.2.2.2.2.2.2.2.2.1.1]
theorem cl_fault : LOOKI (f_X11_fault n 1) (f_X12_fault n 422) := by
  intro c g mi ml hI
  have hs := hI.1.1
  refine ⟨mi 1 15, by unfold f_X11_fault; rw [S_gI1 hs], ?_⟩
  unfold f_X12_fault
  rw [S_gI422 hs, hI.2.2.2.2.2.2.2.2.1.2.1]
theorem cl_stopped : LOOKI (f_X11_stopped n 1) (f_X12_stopped n 422) := by
  intro c g mi ml hI
  have hs := hI.1.1
  refine ⟨mi 1 16, by unfold f_X11_stopped; rw [S_gI1 hs], ?_⟩
  unfold f_X12_stopped
  rw [S_gI422 hs, hI.2.2.2.2.2.2.2.2.1.2.2]
theorem cl_status : LOOKI (f_X11_status n 1) (f_X12_status n 422) := by
  intro c g mi ml hI
  have hs := hI.1.1
  refine ⟨mi 1 19, by unfold f_X11_status; rw [S_gI1 hs], ?_⟩
  unfold f_X12_status
  rw [S_gI422 hs, hI.2.2.2.2.2.2.2.1.1]
theorem cl_drawn (a : Int32) : LOOKI (f_X11_drawn n 1 a) (f_X12_drawn n 422 a) := by
  intro c g mi ml hI
  have hs := hI.1.1
  have hd := hI.2.2.2.2.2.2.2.2.2
  have bad : (∀ H, f_X11_isCell n a H = some (nI 0, H)) → (∀ H, f_X12_isCell n a H = some (nI 0, H)) → ∃ r, f_X11_drawn n 1 a (g, mi, ml) = some (r, (g, mi, ml)) ∧ f_X12_drawn n 422 a (g, mi, ml) = some (r, (g, mi, ml)) := by
    intro h1 h2
    refine ⟨m1, ?_, ?_⟩
    · unfold f_X11_drawn
      simp only [li, ng1]
      rw [h1, zb_s, iP rfl]
    · unfold f_X12_drawn
      simp only [li, ng1]
      rw [S_gI422 hs, h2, zb_s, iP rfl]
      by_cases q : mi 422 41 = nI 0
      · rw [iP q]
      · rw [iN q]
  rcases pk_ix a (n := 24) (by decide) with ha | ha | ⟨k, hk, ha⟩
  · exact bad (fun _ => c_isCell0 ha) (fun _ => r_isCell0 ha)
  · exact bad (fun _ => c_isCell1 ha) (fun _ => r_isCell1 ha)
  subst ha
  refine ⟨mi 420 k, ?_, ?_⟩
  · unfold f_X11_drawn
    simp only [li, ng1]
    rw [c_isCell hk, zb_s, iN n01.symm, S_gR1_12 hs, S_aI420 hs hk]
  · unfold f_X12_drawn
    simp only [li, ng1]
    rw [S_gI422 hs, r_isCell hk, zb_s, iN (c := nI 1 = nI 0) n01.symm, S_gR422_40 hs, S_aI439 hs hk]
    rcases hd with ⟨d1, d2⟩ | ⟨d1, d2⟩
    · rw [iP d1, d2 k hk]
    · rw [iN (by rw [d1]; exact n01.symm), d2 k hk]
theorem r_cw (hs : Sy g) {key : Int32} : ∀ (l : List Nat) (f : Nat) (x : Int32), l.length < f → Lk v x l → zlp3 (fb_X12_cellWith_8 n) f 422 key x (g, zrw mi 424 v, ml) = some (match l.find? (fun c => decide (v (24 + c) = key)) with | none => m1 | some c => nI c, (g, zrw mi 424 v, ml))
  | l, 0, x, h, _ => absurd h (by omega)
  | [], f + 1, x, _, hl => by
    have hl : x = m1 := hl
    subst hl
    show fb_X12_cellWith_8 n (zlp3 (fb_X12_cellWith_8 n) f) 422 key m1 _ = _
    unfold fb_X12_cellWith_8
    simp only [li, ng1]
    rw [if_T]
    rfl
  | c :: l, f + 1, x, h2, hl => by
    obtain ⟨e1, e2, e3⟩ := hl
    subst e1
    show fb_X12_cellWith_8 n (zlp3 (fb_X12_cellWith_8 n) f) 422 key (nI c) _ = _
    unfold fb_X12_cellWith_8
    simp only [li, ng1]
    rw [iN (show ¬ nI c = m1 from nI_nm (by omega)), S_gR422_2 hs, nI_add, R_a hs (by omega), List.find?_cons]
    by_cases z : v (24 + c) = key
    · rw [iP z]
      simp [z]
    · rw [iN z, S_gR422_2 hs, nI_add, R_a hs (by omega)]
      refine Eq.trans (r_cw hs l f _ (by simpa using h2) e3) ?_
      simp [z]
theorem r_cellWith (hs : Sy g) (hn : 3000 < n) {key : Int32} {l : List Nat} (hl : Lk v (v 96) l) : f_X12_cellWith n 422 key (g, zrw mi 424 v, ml) = some (match l.find? (fun c => decide (v (24 + c) = key)) with | none => m1 | some c => nI c, (g, zrw mi 424 v, ml)) := by
  unfold f_X12_cellWith
  simp only [li]
  rw [S_gR422_2 hs, R_a hs (by omega), r_cw hs l n _ (by have := Lk_len hl; omega) hl]
theorem fnd_n {key : Int32} {l : List Nat} (h : ∀ c, c ∈ l → v (24 + c) ≠ key) : l.find? (fun c => decide (v (24 + c) = key)) = none := by
  rw [List.find?_eq_none]
  intro c hc
  simpa using h c hc
theorem fnd_s {key : Int32} {l1 l3 : List Nat} {d : Nat} (h : ∀ c, c ∈ l1 → v (24 + c) ≠ key) (hd : v (24 + d) = key) : (l1 ++ d :: l3).find? (fun c => decide (v (24 + c) = key)) = some d := by
  rw [List.find?_append, fnd_n h, List.find?_cons]
  simp [hd]
theorem cl_find (hn : 3000 < n) (a : Int32) : LOOKV (f_X11_find n 1 a) (f_X12_find n 422 a) := by
  intro g mi ml v hv hs hR hI
  obtain ⟨l, lw, lc, hC, hP, hG⟩ := hI
  have em : zrw mi 424 v = mi := by rw [← hv]; exact u24
  have hX : ∀ l1 l2 x, l = l1 ++ l2 → lka v a 96 l = ll 96 l1 → v (ll 96 l1) = x → f_X11_find n 1 a (g, mi, ml) = zb (zb (f_X11_isCell n x (g, mi, ml)) fun r5 h6 => if r5 = nI 0 then some (m1, h6) else zgR h6 1 3 1 fun v7 => zaI h6 21 v7 x fun v8 => if v8 = a then some (x, h6) else some (m1, h6)) fun r3 h4 => zb (f_X11_isCell n r3 h4) fun r5 h6 => if r5 = nI 0 then some (m1, h6) else zgR h6 12 1 0 fun v7 => zgR h6 11 v7 0 fun v8 => zgR h6 1 v8 2 fun v9 => zaI h6 21 v9 r3 fun v10 => some (v10, h6) := by
    intro l1 l2 x e1 e2 e3
    unfold f_X11_find f_X0_holding
    simp only [li, ng1]
    rw [S_gR1_0 hs, W_gR0 hs w2c, C_ck hs w2c, C_ck hs w2c, c_lastBelow hs w2c hR hC.1.1 (by omega), e2, zb_s, C_ck hs w2c, c_follower hs w2c hR (ll_b hC.1.1 e1).1, e3, zb_s]
  have none' : f_X11_find n 1 a (g, mi, ml) = some (m1, (g, mi, ml)) → (∀ c, c ∈ l → v (24 + c) ≠ a) → ∃ r, f_X11_find n 1 a (g, mi, ml) = some (r, (g, mi, ml)) ∧ f_X12_find n 422 a (g, mi, ml) = some (r, (g, mi, ml)) := by
    intro h1 h2
    refine ⟨m1, h1, ?_⟩
    have e := r_cellWith (mi := mi) (ml := ml) (key := a) hs hn hC.1.1
    rw [fnd_n h2, em] at e
    unfold f_X12_find f_X12_valueOf0 f_X12_isKey
    simp only [li, ng1]
    rcases pk_ix a (n := 100) (by decide) with ha | ha | ⟨k, hk, ha⟩
    · rw [r_lies0 ha, zb_s, zrZ0, zb_s, iP rfl]
    · rw [r_lies1 (N := 99) (by decide) ha, zb_s, zrZ0, zb_s, iP rfl]
    · subst ha
      rw [r_lies2 (by decide) (by omega), zb_s, zrZ1, zb_s, iN n01.symm, S_ck422 hs, S_ck422 hs, e, zb_s, iP rfl, zb_s]
  have dead : ∀ x l1 l2, l = l1 ++ l2 → lka v a 96 l = ll 96 l1 → v (ll 96 l1) = x → (x = m1 ∨ ∃ d, d < 24 ∧ x = nI d ∧ v (24 + d) ≠ a) → f_X11_find n 1 a (g, mi, ml) = some (m1, (g, mi, ml)) := by
    intro x l1 l2 e1 e2 e3 e4
    rw [hX l1 l2 x e1 e2 e3]
    rcases e4 with e4 | ⟨d, d1, d2, d3⟩
    · subst e4
      rw [c_isCellN, zb_s, iP rfl, zb_s, c_isCellN, zb_s, iP rfl]
    · subst d2
      rw [c_isCell d1, zb_s, iN n01.symm, C_gR1 (w := 2) hs w2c, A_aI3 (w := 2) hs w2c d1, rd_key hR d1, iN d3, zb_s, c_isCellN, zb_s, iP rfl]
  by_cases hk : ∃ k, k < 100 ∧ a = nI k
  · obtain ⟨k, hk, rfl⟩ := hk
    obtain ⟨l1, l2, e1, e2, e3, e4, e5⟩ := lnk_cases (k := k) hC
    have l1n : ∀ c, c ∈ l1 → v (24 + c) ≠ nI k := fun c hc q => by
      have := e2 c hc
      rw [q] at this
      rw [Int32.lt_iff_toInt_lt] at this
      omega
    have gtn : ∀ c, nI k < v (24 + c) → v (24 + c) ≠ nI k := fun c hc q => by
      rw [q, Int32.lt_iff_toInt_lt] at hc
      omega
    rcases e5 with ⟨x1, x2⟩ | ⟨d, l3, x1, x2, x3, x4, x5⟩ | ⟨d, l3, x1, x2, x3, x4, x5, x6⟩
    · exact none' (dead m1 l1 l2 e1 e3 x1 (Or.inl rfl)) (fun c hc => by
        rw [e1, x2, List.append_nil] at hc
        exact l1n c hc)
    · exact none' (dead (nI d) l1 l2 e1 e3 x3 (Or.inr ⟨d, x1, rfl, x4⟩)) (fun c hc => by
        rw [e1] at hc
        rcases List.mem_append.mp hc with q | q
        · exact l1n c q
        · exact gtn c (x5 c q))
    · refine ⟨v (48 + d), ?_, ?_⟩
      · rw [hX l1 l2 (nI d) e1 e3 x3, c_isCell x1, zb_s, iN n01.symm, C_gR1 (w := 2) hs w2c, A_aI3 (w := 2) hs w2c x1, rd_key hR x1, iP x4, zb_s, c_isCell x1, zb_s, iN n01.symm, S_gR1_0 hs, W_gR0 hs w2c, C_gR2 hs w2c, A_aI4 hs w2c x1, rd_val hR x1]
      · have e := r_cellWith (mi := mi) (ml := ml) (key := nI k) hs hn hC.1.1
        rw [e1, x2, fnd_s l1n x4, em] at e
        unfold f_X12_find f_X12_valueOf0 f_X12_isKey
        simp only [li, ng1]
        rw [r_lies2 (by decide) (by omega), zb_s, zrZ1, zb_s, iN n01.symm, S_ck422 hs, S_ck422 hs, e, zb_s, iN (show ¬ nI d = m1 from nI_nm (by omega)), S_gR422_2 hs, nI_add, S_aI424 hs (by omega), zb_s, hv]
  · have hne : ∀ c, c < 24 → v (24 + c) ≠ a := fun c hc q => by
      obtain ⟨k, hk1, hk2⟩ := hC.2.1.2.2.2 c hc
      exact hk ⟨k, hk1, by rw [← q, hk2]⟩
    obtain ⟨l1, l2, e1, e2, e3, e4, e5⟩ := lka_ll (key := a) hC.1.1
    refine none' ?_ (fun c hc => hne c (Lk_lt hC.1.1 c hc))
    cases l2 with
    | nil => exact dead m1 l1 [] e1 e5 e4 (Or.inl rfl)
    | cons d l3 => exact dead (nI d) l1 _ e1 e5 e4.1 (Or.inr ⟨d, e4.2.1, rfl, hne d e4.2.1⟩)
theorem r_lz {x : Int32} {L : Nat} (hL : L < 1000) {H : zH} : f_X12_lies n x (nI 0) (nI L - nI 1) H = some (if ¬ x < nI 0 ∧ x < nI L then nI 1 else nI 0, H) := by
  unfold f_X12_lies
  by_cases q : x < nI 0
  · rw [if_pos q, iN (fun z => z.1 q)]; rfl
  · rw [if_neg q]
    obtain ⟨i, hi, rfl⟩ := nI_of q
    rcases Nat.eq_zero_or_pos L with z | z
    · subst z
      rw [show nI 0 - nI 1 = m1 by decide, if_pos (by rw [m1lt hi]; trivial), iN (fun z => q z.2)]; rfl
    · rw [nI_sub z]
      by_cases y : i < L
      · rw [if_neg (by rw [nLt (by omega) (by omega)]; omega), iP ⟨q, by rw [nLt (by omega) (by omega)]; exact y⟩]; rfl
      · rw [if_pos (by rw [nLt (by omega) (by omega)]; omega), iN (fun w => by have w2 := w.2; rw [nLt (by omega) (by omega)] at w2; omega)]; rfl
theorem cl_old (a b : Int32) : LOOKV (f_X11_old n 1 a b) (f_X12_old n 422 a b) := by
  intro g mi ml v hv hs hR hI
  obtain ⟨l, lw, lc, hC, hP, hG⟩ := hI
  obtain ⟨hl1, hl2⟩ := lw_len hC
  have h39 := hC.2.2.2.1
  have h64 := hC.2.2.2.2.2.1
  have hY : ∀ (s L : Nat), s + 30 < 5815 → v s = nI L → L ≤ 24 → fb_X12_old_24 n 422 b (nI s) (g, mi, ml) = if ¬ b < nI 0 ∧ b < nI L then (zaI ((g, mi, ml) : zH) 21 424 (nI (s + 1) + b) fun v6 => some (v6, (g, mi, ml))) else some (m1, (g, mi, ml)) := by
    intro s L h1 h2 h3
    unfold fb_X12_old_24
    simp only [li, ng1]
    rw [S_gR422_2 hs, S_aI424 hs (by omega), hv, h2, r_lz (by omega), zb_s]
    by_cases q : ¬ b < nI 0 ∧ b < nI L
    · rw [iP q, iP q, iN n01.symm, S_gR422_2 hs, nI_add]
    · rw [iN q, iN q, iP rfl]
  have hZ : f_X12_old n 422 a b (g, mi, ml) = if a = nI 0 then fb_X12_old_24 n 422 b (nI 139) (g, mi, ml) else if a = nI 1 then fb_X12_old_24 n 422 b (nI 164) (g, mi, ml) else some (m1, (g, mi, ml)) := by
    unfold f_X12_old
    simp only [li, ng1]
    rcases pk_ix a (n := 2) (by decide) with ha | ha | ⟨k, hk, ha⟩
    · have t0 : a ≠ nI 0 := fun q => by rw [q] at ha; exact nI_pos (by decide) ha
      have t1 : a ≠ nI 1 := fun q => by rw [q] at ha; exact nI_pos (by decide) ha
      rw [r_lies0 ha, zb_s, iP rfl, iN t0, iN t1]
    · have t := (ge_lt (N := 1) (by decide) ha).2.2
      have t0 : a ≠ nI 0 := fun q => t (by rw [q]; decide)
      have t1 : a ≠ nI 1 := fun q => t (by rw [q]; decide)
      rw [r_lies1 (N := 1) (by decide) ha, zb_s, iP rfl, iN t0, iN t1]
    · subst ha
      rw [r_lies2 (by decide) (by omega), zb_s, iN n01.symm]
      have : k = 0 ∨ k = 1 := by omega
      rcases this with e | e <;> subst e
      · rw [iP rfl, iP rfl]
      · rw [iN n01.symm, iN n01.symm, iP rfl]
  have h37 : fb_X11_old_37 n a b 3 (g, mi, ml) = if a = nI 1 then (if b < nI 0 then some (m1, (g, mi, ml)) else if nI lc.length ≤ b then some (m1, (g, mi, ml)) else if nI 24 ≤ b then some (m1, (g, mi, ml)) else zaI ((g, mi, ml) : zH) 21 9 b fun v3 => some (v3, (g, mi, ml))) else some (m1, (g, mi, ml)) := by
    unfold fb_X11_old_37
    simp only [li, ng1]
    rw [C_gI (w := 2) hs w2c, rd_cc hR, h64, C_gR5 (w := 2) hs w2c]
  have hX : f_X11_old n 1 a b (g, mi, ml) = if a = nI 0 then (if b < nI 0 then some (m1, (g, mi, ml)) else if nI lw.length ≤ b then some (m1, (g, mi, ml)) else if nI 24 ≤ b then some (m1, (g, mi, ml)) else zaI ((g, mi, ml) : zH) 21 8 b fun v3 => some (v3, (g, mi, ml))) else fb_X11_old_37 n a b 3 (g, mi, ml) := by
    unfold f_X11_old
    simp only [li, ng1]
    rw [S_gR1_0 hs, W_gR0 hs w2c, C_gI hs w2c, rd_wc hR, h39, C_gR4 hs w2c]
    by_cases q : a = nI 0
    · have q1 : a ≠ nI 1 := fun z => n01 (q.symm.trans z)
      rw [iP q, iP q, h37, iN q1]
    · rw [iN q, iN q]
  have fin : ∀ (s L w : Nat), s + 30 < 5815 → v s = nI L → L ≤ 24 → (∀ j, j < 24 → nI j < v s → mi w j = v (s + 1 + j)) → (∀ j, j < 24 → zaI ((g, mi, ml) : zH) 21 w (nI j) (fun v3 => some (v3, (g, mi, ml))) = some (mi w j, (g, mi, ml))) → ∃ r, (if b < nI 0 then some (m1, (g, mi, ml)) else if nI L ≤ b then some (m1, (g, mi, ml)) else if nI 24 ≤ b then some (m1, (g, mi, ml)) else zaI ((g, mi, ml) : zH) 21 w b fun v3 => some (v3, (g, mi, ml))) = some (r, (g, mi, ml)) ∧ fb_X12_old_24 n 422 b (nI s) (g, mi, ml) = some (r, (g, mi, ml)) := by
    intro s L w h1 h2 h3 h4 h5
    rw [hY s L h1 h2 h3]
    by_cases q : b < nI 0
    · exact ⟨m1, by rw [iP q], by rw [iN (fun z => z.1 q)]⟩
    · obtain ⟨i, hi, rfl⟩ := nI_of q
      rw [iN q]
      by_cases y : i < L
      · refine ⟨mi w i, ?_, ?_⟩
        · rw [iLe0 (by omega) (by omega) y, iLe0 (by omega) (by omega) (by omega), h5 i (by omega)]
        · rw [iP ⟨q, by rw [nLt (by omega) (by omega)]; exact y⟩, nI_add, S_aI424 hs (by omega), hv, h4 i (by omega) (by rw [h2, nLt (by omega) (by omega)]; exact y)]
      · exact ⟨m1, by rw [iLe1 (by omega) (by omega) (by omega)], by rw [iN (fun z => by have w2 := z.2; rw [nLt (by omega) (by omega)] at w2; omega)]⟩
  rw [hX, hZ]
  by_cases q0 : a = nI 0
  · rw [iP q0, iP q0]
    exact fin 139 lw.length 8 (by decide) h39 hl1 (fun j h1 h2 => hR.2.1.1 j h1 h2) (fun j hj => A_aI6 (w := 2) hs w2c hj)
  · rw [iN q0, iN q0, h37]
    by_cases q1 : a = nI 1
    · rw [iP q1, iP q1]
      exact fin 164 lc.length 9 (by decide) h64 hl2 (fun j h1 h2 => hR.2.1.2 j h1 h2) (fun j hj => A_aI7 (w := 2) hs w2c hj)
    · rw [iN q1, iN q1]; exact ⟨m1, rfl, rfl⟩
/-- a reader's row -/
theorem rdr_l (hP : PIr v) {p : Nat} (hp : p < 8) : ∃ lp, Lk v (if v (97 + p) = nI 0 then m1 else v (105 + p)) lp ∧ (if v (97 + p) = nI 0 then m1 else v (105 + p)) = (if v (97 + p) = nI 1 then v (105 + p) else m1) := by
  obtain ⟨⟨p1, p2, p3⟩, p4, p5, p6⟩ := hP p hp
  rcases p1 with q | q
  · exact ⟨[], by rw [if_pos q]; rfl, by rw [if_pos q, if_neg (by rw [q]; exact n01)]⟩
  · obtain ⟨lp, h⟩ := p6 q
    have q0 : v (97 + p) ≠ nI 0 := by rw [q]; exact n01.symm
    exact ⟨lp, by rw [if_neg q0]; exact h, by rw [if_neg q0, if_pos q]⟩
theorem c_cellOfN {x : Int32} {h : zH} {w : Nat} (hx : ∀ H, f_X11_isProcessor n x H = some (nI 0, H)) : f_X10_cellOf n w x h = some (m1, h) := by
  unfold f_X10_cellOf
  simp only [li, ng1]
  rw [hx, zb_s, iP rfl]
  rfl
theorem sees_e : fb_X12_sees_22 n = fb_X12_list_16 n := rfl
theorem cl_sees (hn : 3000 < n) (a b : Int32) : LOOKV (f_X11_sees n 1 a b) (f_X12_sees n 422 a b) := by
  intro g mi ml v hv hs hR hI
  obtain ⟨l, lw, lc, hC, hP, hG⟩ := hI
  have em : zrw mi 424 v = mi := by rw [← hv]; exact u24
  have uX : ∀ x, f_X10_cellOf n 2 a (g, mi, ml) = some (x, (g, mi, ml)) → f_X11_sees n 1 a b (g, mi, ml) = f_X0_along n 3 x b (g, mi, ml) := by
    intro x hx
    unfold f_X11_sees
    rw [S_gR1_0 hs, W_gR0 hs w2c, S_gR1_0 hs, W_ck hs w2c, hx, zb_s, C_ck hs w2c, zb_id]
  have al0 : f_X0_along n 3 m1 b (g, mi, ml) = some (m1, (g, mi, ml)) := by
    by_cases q : b < 0
    · exact c_along0 hn q
    · obtain ⟨i, hi, rfl⟩ := nI_of q
      rw [c_along (v := v) (l := []) hs hn hR rfl i hi, nth_nil]
      by_cases z : i < 24
      · rw [if_pos z]
      · rw [if_neg z]
  have bad : (∀ H, f_X11_isProcessor n a H = some (nI 0, H)) → (∀ H, f_X12_isProcessor n a H = some (nI 0, H)) → ∃ r, f_X11_sees n 1 a b (g, mi, ml) = some (r, (g, mi, ml)) ∧ f_X12_sees n 422 a b (g, mi, ml) = some (r, (g, mi, ml)) := by
    intro h1 h2
    refine ⟨m1, by rw [uX m1 (c_cellOfN h1), al0], ?_⟩
    unfold f_X12_sees
    simp only [li, ng1]
    rw [h2, zb_s, iP rfl]
  rcases pk_ix a (n := 8) (by decide) with ha | ha | ⟨p, hp, ha⟩
  · exact bad (fun _ => c_isP0 ha) (fun _ => r_isP0 ha)
  · exact bad (fun _ => c_isP1 ha) (fun _ => r_isP1 ha)
  subst ha
  obtain ⟨lp, h1, h2⟩ := rdr_l hP hp
  rw [uX _ (c_cellOf hs w2c hR hp)]
  have e1 := r_cellOf (M := mi) (v := v) (ml := ml) (n := n) hs hp
  rw [em] at e1
  unfold f_X12_sees
  simp only [li, ng1]
  rw [r_isP hp, zb_s, iN n01.symm]
  by_cases q : b < 0
  · refine ⟨m1, c_along0 hn q, ?_⟩
    have : ¬ nI 0 ≤ b := by rw [Int32.lt_iff_toInt_lt] at q; rw [Int32.le_iff_toInt_le]; exact Int.not_le.mpr q
    rw [iN this]
  · obtain ⟨i, hi, rfl⟩ := nI_of q
    refine ⟨nth lp i, by rw [c_along hs hn hR h1 i hi, nth_c h1], ?_⟩
    have e := r_al (mi := mi) (v := v) (ml := ml) (n := n) hs hi lp 0 n _ (by omega) (by have := Lk_len h1; omega) h1
    rw [em, Nat.sub_zero] at e
    rw [iLe1 (by omega) (by omega) (by omega), S_ck422 hs, e1, zb_s, ← h2, sees_e, e]
end
