/-! few -/
def stF (a l : Int64) (S : Nat → Int64) : Nat → Int64 := fun j => if j = 0 then S 0 * a / 10 else S j * a / 10 + S (j - 1) * l / 10
def itF (a l : Int64) : Nat → (Nat → Int64) → Nat → Int64
  | 0, S => S
  | r + 1, S => itF a l r (stF a l S)
def suF (S : Nat → Int64) : Nat → Nat → Int64 → Int64
  | 0, _, x => x
  | r + 1, j, x => suF S r (j + 1) (x + S j)
theorem stF_c {a l : Int64} {S S' : Nat → Int64} {k : Nat} (h : ∀ i, i < k → S' i = S i) : ∀ i, i < k → stF a l S' i = stF a l S i := by
  intro i hi
  unfold stF
  by_cases q : i = 0
  · rw [if_pos q, if_pos q, h 0 (by omega)]
  · rw [if_neg q, if_neg q, h i hi, h (i - 1) (by omega)]
theorem itF_c {a l : Int64} {k : Nat} : ∀ (r : Nat) (S S' : Nat → Int64), (∀ i, i < k → S' i = S i) → ∀ i, i < k → itF a l r S' i = itF a l r S i
  | 0, S, S', h => h
  | r + 1, S, S', h => itF_c r _ _ (stF_c h)
theorem suF_c {S S' : Nat → Int64} : ∀ (r j : Nat) (x : Int64), (∀ i, j ≤ i → i < j + r → S' i = S i) → suF S' r j x = suF S r j x
  | 0, j, x, _ => rfl
  | r + 1, j, x, h => by
    show suF S' r (j + 1) (x + S' j) = suF S r (j + 1) (x + S j)
    rw [h j (by omega) (by omega)]
    exact suF_c r (j + 1) _ (fun i h1 h2 => h i (by omega) (by omega))
def S0F : Nat → Int64 := fun i => if i = 0 then 1000000000000 else 0
theorem lo_t : ∀ k, k ≤ 10 → Int32.toInt64 (nI 10 - nI k) = (10 : Int64) - (nI k).toInt64 := by decide +kernel
section
variable {g : zS} {mi : Nat → Nat → Int32} {v : Nat → Int32} {ml : Nat → Nat → Int64} {n : Nat}
theorem fe_sX (hs : Sy g) {k : Nat} (hk : k ≤ 20) : ∀ (r j f : Nat) (x : Int64), j + r = k → r < f → zlp4 (fb_X11_few_150 n) f 1 (nI k) x (nI j) (g, mi, ml) = some (suF (ml 421) r j x, (g, mi, ml))
  | r, j, 0, x, _, h => absurd h (by omega)
  | 0, j, f + 1, x, h1, _ => by
    show fb_X11_few_150 n (zlp4 (fb_X11_few_150 n) f) 1 (nI k) x (nI j) (g, mi, ml) = _
    unfold fb_X11_few_150
    rw [iLe1 (by omega) (by omega) (by omega)]
    rfl
  | r + 1, j, f + 1, x, h1, h2 => by
    have ih := fe_sX hs hk r (j + 1) f (x + ml 421 j) (by omega) (by omega)
    show fb_X11_few_150 n (zlp4 (fb_X11_few_150 n) f) 1 (nI k) x (nI j) (g, mi, ml) = some (suF (ml 421) r (j + 1) (x + ml 421 j), (g, mi, ml))
    rw [← ih]
    generalize zlp4 (fb_X11_few_150 n) f = K
    unfold fb_X11_few_150
    simp only [li]
    rw [iLe0 (by omega) (by omega) (by omega), S_gR1_13 hs, S_aL421 hs (by omega), q_let, nI_add]
theorem fe_sY (hs : Sy g) {k : Nat} (hk : k ≤ 20) : ∀ (r j f : Nat) (x : Int64), j + r = k → r < f → zlp4 (fb_X12_few_153 n) f 422 (nI k) x (nI j) (g, mi, ml) = some (suF (ml 437) r j x, (g, mi, ml))
  | r, j, 0, x, _, h => absurd h (by omega)
  | 0, j, f + 1, x, h1, _ => by
    show fb_X12_few_153 n (zlp4 (fb_X12_few_153 n) f) 422 (nI k) x (nI j) (g, mi, ml) = _
    unfold fb_X12_few_153
    rw [iLe1 (by omega) (by omega) (by omega)]
    rfl
  | r + 1, j, f + 1, x, h1, h2 => by
    have ih := fe_sY hs hk r (j + 1) f (x + ml 437 j) (by omega) (by omega)
    show fb_X12_few_153 n (zlp4 (fb_X12_few_153 n) f) 422 (nI k) x (nI j) (g, mi, ml) = some (suF (ml 437) r (j + 1) (x + ml 437 j), (g, mi, ml))
    rw [← ih]
    generalize zlp4 (fb_X12_few_153 n) f = K
    unfold fb_X12_few_153
    simp only [li]
    rw [iLe0 (by omega) (by omega) (by omega), S_gR422_32 hs, S_aL437 hs (by omega), q_let, nI_add]
theorem fe_iX (hs : Sy g) {k : Nat} (hk0 : 0 < k) (hk : k ≤ 20) {k54 : Nat → Int32 → Int32 → Int64 → Int32 → zH → Option (Int64 × zH)} {N l5 : Int32} {L : Int64} {S : Nat → Int64} : ∀ (j f : Nat) (ml : Nat → Nat → Int64), j < k → j < f → (∀ i, i < k → ml 421 i = if j < i then stF (10 - L) L S i else S i) → ∃ ml', zlp6 (fb_X11_few_65 n k54) f 1 (nI k) N L l5 (nI j) (g, mi, ml) = k54 1 (nI k) N L (l5 + nI 1) (g, mi, ml') ∧ ∀ i, i < k → ml' 421 i = stF (10 - L) L S i
  | j, 0, ml, _, h, _ => absurd h (by omega)
  | 0, f + 1, ml, h1, _, h3 => by
    refine ⟨zu ml 421 0 (ml 421 0 * (10 - L) / 10), ?_, fun i hi => ?_⟩
    · show fb_X11_few_65 n k54 (zlp6 (fb_X11_few_65 n k54) f) 1 (nI k) N L l5 (nI 0) (g, mi, ml) = _
      generalize zlp6 (fb_X11_few_65 n k54) f = K
      unfold fb_X11_few_65 fb_X11_few_116
      simp only [li]
      rw [iLe1 (by omega) (by omega) (by omega), S_gR1_13 hs, S_gR1_13 hs, S_aL421 hs (by omega), S_eL421 hs (by omega)]
    · by_cases q : i = 0
      · subst q
        rw [zul_s, h3 0 hi]
        unfold stF
        rw [if_neg (by omega), if_pos rfl]
      · rw [zul_k q, h3 i hi, if_pos (by omega)]
  | j + 1, f + 1, ml, h1, h2, h3 => by
    have e1 := h3 (j + 1) h1
    have e2 := h3 j (by omega)
    rw [if_neg (by omega)] at e1 e2
    obtain ⟨ml', p1, p2⟩ := fe_iX hs hk0 hk (k54 := k54) (N := N) (l5 := l5) (L := L) (S := S) j f (zu ml 421 (j + 1) (S (j + 1) * (10 - L) / 10 + S j * L / 10)) (by omega) (by omega) (fun i hi => by
      by_cases q : i = j + 1
      · subst q
        rw [zul_s, if_pos (by omega)]
        unfold stF
        rw [if_neg (by omega), Nat.add_sub_cancel]
      · rw [zul_k q, h3 i hi]
        by_cases z : j + 1 < i
        · rw [if_pos z, if_pos (by omega)]
        · rw [if_neg z, if_neg (by omega)])
    refine ⟨ml', ?_, p2⟩
    rw [← p1]
    show fb_X11_few_65 n k54 (zlp6 (fb_X11_few_65 n k54) f) 1 (nI k) N L l5 (nI (j + 1)) (g, mi, ml) = _
    generalize zlp6 (fb_X11_few_65 n k54) f = K
    unfold fb_X11_few_65
    simp only [li, ng1]
    rw [iLe0 (by omega) (by omega) (by omega), S_gR1_13 hs, S_gR1_13 hs, S_aL421 hs (by omega), S_gR1_13 hs, nI_sub (by omega), Nat.add_sub_cancel, S_aL421 hs (by omega), S_eL421 hs (by omega), nI_m1, e1, e2]
theorem fe_oX (hs : Sy g) (hn : 3000 < n) {k N : Nat} (hk0 : 0 < k) (hk : k ≤ 20) (hN : N ≤ 99) {L : Int64} : ∀ (r c f : Nat) (ml : Nat → Nat → Int64) (S : Nat → Int64), c + r = N → r < f → (∀ i, i < k → ml 421 i = S i) → ∃ ml', zlp5 (fb_X11_few_54 n) f 1 (nI k) (nI N) L (nI c) (g, mi, ml) = some (suF (itF (10 - L) L r S) k 0 0, (g, mi, ml'))
  | r, c, 0, ml, S, _, h, _ => absurd h (by omega)
  | 0, c, f + 1, ml, S, h1, _, h3 => by
    refine ⟨ml, ?_⟩
    show fb_X11_few_54 n (zlp5 (fb_X11_few_54 n) f) 1 (nI k) (nI N) L (nI c) (g, mi, ml) = _
    unfold fb_X11_few_54 fb_X11_few_144
    rw [iLe1 (by omega) (by omega) (by omega)]
    have e := fe_sX (mi := mi) (ml := ml) (n := n) hs hk k 0 n 0 (by omega) (by omega)
    refine Eq.trans e ?_
    rw [suF_c k 0 0 (fun i _ hi => h3 i (by omega))]
    rfl
  | r + 1, c, f + 1, ml, S, h1, h2, h3 => by
    obtain ⟨ml1, p1, p2⟩ := fe_iX (mi := mi) (n := n) hs hk0 hk (k54 := zlp5 (fb_X11_few_54 n) f) (N := nI N) (l5 := nI c) (L := L) (S := S) (k - 1) n ml (by omega) (by omega) (fun i hi => by rw [if_neg (by omega)]; exact h3 i hi)
    obtain ⟨ml2, q1⟩ := fe_oX hs hn hk0 hk hN (L := L) r (c + 1) f ml1 (stF (10 - L) L S) (by omega) (by omega) p2
    refine ⟨ml2, ?_⟩
    show fb_X11_few_54 n (zlp5 (fb_X11_few_54 n) f) 1 (nI k) (nI N) L (nI c) (g, mi, ml) = some (suF (itF (10 - L) L r (stF (10 - L) L S)) k 0 0, (g, mi, ml2))
    rw [← q1, ← nI_add, ← p1]
    generalize zlp5 (fb_X11_few_54 n) f = K
    unfold fb_X11_few_54
    simp only [li]
    rw [iLe0 (by omega) (by omega) (by omega), q_let, nI_sub (by omega)]
theorem fe_iY (hs : Sy g) {k : Nat} (hk0 : 0 < k) (hk : k ≤ 20) {k57 : Nat → Int32 → Int32 → Int32 → zH → Option (Int64 × zH)} {N l3 : Int32} {u : Nat} (hu : u ≤ 10) (h203 : mi 424 203 = nI u) {S : Nat → Int64} : ∀ (j f : Nat) (ml : Nat → Nat → Int64), j ≤ k → j < f → (∀ i, i < k → ml 437 i = if j < i then stF (10 - (nI u).toInt64) (nI u).toInt64 S i else if i = j then S i * (10 - (nI u).toInt64) / 10 else S i) → ∃ ml', zlp5 (fb_X12_few_67 n k57) f 422 (nI k) N l3 (nI j + m1) (g, mi, ml) = k57 422 (nI k) N (l3 + nI 1) (g, mi, ml') ∧ ∀ i, i < k → ml' 437 i = stF (10 - (nI u).toInt64) (nI u).toInt64 S i
  | j, 0, ml, _, h, _ => absurd h (by omega)
  | 0, f + 1, ml, h1, _, h3 => by
    refine ⟨ml, ?_, fun i hi => ?_⟩
    · show fb_X12_few_67 n k57 (zlp5 (fb_X12_few_67 n k57) f) 422 (nI k) N l3 (nI 0 + m1) (g, mi, ml) = _
      generalize zlp5 (fb_X12_few_67 n k57) f = K
      rw [nI0_m1]
      unfold fb_X12_few_67 fb_X12_few_142
      rw [if_pos (by decide)]
      rfl
    · rw [h3 i hi]
      by_cases q : i = 0
      · subst q
        rw [if_neg (by omega), if_pos rfl]
        unfold stF
        rw [if_pos rfl]
      · rw [if_pos (by omega)]
  | j + 1, f + 1, ml, h1, h2, h3 => by
    have e2 := h3 j (by omega)
    rw [if_neg (by omega), if_neg (by omega)] at e2
    obtain ⟨ml', p1, p2⟩ := fe_iY hs hk0 hk (k57 := k57) (N := N) (l3 := l3) hu h203 (S := S) j f (zu (zu ml 437 (j + 1) (ml 437 (j + 1) + S j * (nI u).toInt64 / 10)) 437 j (S j * (10 - (nI u).toInt64) / 10)) (by omega) (by omega) (fun i hi => by
      by_cases q : i = j
      · subst q
        rw [zul_s, if_neg (by omega), if_pos rfl]
      · rw [zul_k q]
        by_cases q2 : i = j + 1
        · subst q2
          have e1 := h3 (j + 1) hi
          rw [if_neg (by omega), if_pos rfl] at e1
          rw [zul_s, if_pos (by omega), e1]
          unfold stF
          rw [if_neg (by omega), Nat.add_sub_cancel]
        · rw [zul_k q2, h3 i hi, if_neg q2, if_neg q]
          by_cases z : j + 1 < i
          · rw [if_pos z, if_pos (by omega)]
          · rw [if_neg z, if_neg (by omega)])
    refine ⟨ml', ?_, p2⟩
    rw [← p1]
    have e0 : zlp5 (fb_X12_few_67 n k57) (f + 1) = fb_X12_few_67 n k57 (zlp5 (fb_X12_few_67 n k57) f) := rfl
    rw [e0, nI_m1]
    generalize zlp5 (fb_X12_few_67 n k57) f = K
    unfold fb_X12_few_67
    simp only [li, ng1]
    rw [iLt0 (by omega) (by omega) (by omega), S_gR422_32 hs, nI_add, S_aL437 hs (by omega), S_gR422_32 hs, S_aL437 hs (by omega), S_gR422_2 hs, S_aI424 hs (by omega), h203, S_eL437 hs (by omega), S_gR422_32 hs, S_gR422_32 hs, S_aL437 hs (by omega), S_gR422_2 hs, S_aI424 hs (by omega), h203, S_eL437 hs (by omega), lo_t u hu, zul_k (show j ≠ j + 1 by omega), e2]
theorem fe_oY (hs : Sy g) (hn : 3000 < n) {k N : Nat} (hk0 : 0 < k) (hk : k ≤ 20) (hN : N ≤ 99) {u : Nat} (hu : u ≤ 10) (h203 : mi 424 203 = nI u) : ∀ (r c f : Nat) (ml : Nat → Nat → Int64) (S : Nat → Int64), c + r = N → r < f → (∀ i, i < k → ml 437 i = S i) → ∃ ml', zlp4 (fb_X12_few_57 n) f 422 (nI k) (nI N) (nI c) (g, mi, ml) = some (suF (itF (10 - (nI u).toInt64) (nI u).toInt64 r S) k 0 0, (g, mi, ml'))
  | r, c, 0, ml, S, _, h, _ => absurd h (by omega)
  | 0, c, f + 1, ml, S, h1, _, h3 => by
    refine ⟨ml, ?_⟩
    show fb_X12_few_57 n (zlp4 (fb_X12_few_57 n) f) 422 (nI k) (nI N) (nI c) (g, mi, ml) = _
    unfold fb_X12_few_57 fb_X12_few_148
    rw [iLe1 (by omega) (by omega) (by omega)]
    have e := fe_sY (mi := mi) (ml := ml) (n := n) hs hk k 0 n 0 (by omega) (by omega)
    refine Eq.trans e ?_
    rw [suF_c k 0 0 (fun i _ hi => h3 i (by omega))]
    rfl
  | r + 1, c, f + 1, ml, S, h1, h2, h3 => by
    obtain ⟨ml1, p1, p2⟩ := fe_iY (mi := mi) (n := n) hs hk0 hk (k57 := zlp4 (fb_X12_few_57 n) f) (N := nI N) (l3 := nI c) hu h203 (S := S) k n ml (by omega) (by omega) (fun i hi => by rw [if_neg (by omega), if_neg (by omega)]; exact h3 i hi)
    obtain ⟨ml2, q1⟩ := fe_oY hs hn hk0 hk hN hu h203 r (c + 1) f ml1 (stF (10 - (nI u).toInt64) (nI u).toInt64 S) (by omega) (by omega) p2
    refine ⟨ml2, ?_⟩
    show fb_X12_few_57 n (zlp4 (fb_X12_few_57 n) f) 422 (nI k) (nI N) (nI c) (g, mi, ml) = some (suF (itF (10 - (nI u).toInt64) (nI u).toInt64 r (stF (10 - (nI u).toInt64) (nI u).toInt64 S)) k 0 0, (g, mi, ml2))
    rw [← q1, ← nI_add, ← p1]
    generalize zlp4 (fb_X12_few_57 n) f = K
    have e5 : nI k - nI 1 = nI k + m1 := Int32.sub_eq_add_neg _ _
    unfold fb_X12_few_57
    simp only [li]
    rw [iLe0 (by omega) (by omega) (by omega), q_let, e5]
theorem fe_fX (hs : Sy g) : ∀ (r i f : Nat) (ml : Nat → Nat → Int64), i + r = 20 → r < f → (∀ j, j < i → ml 421 j = 0) → ∃ ml', zlp4 (fb_J7_fill_d0a16_6 n) f 421 0 (nI i) (nI 20) (g, mi, ml) = some ((), (g, mi, ml')) ∧ ∀ j, j < 20 → ml' 421 j = 0
  | r, i, 0, ml, _, h, _ => absurd h (by omega)
  | 0, i, f + 1, ml, h1, _, h3 => by
    refine ⟨ml, ?_, fun j hj => h3 j (by omega)⟩
    show fb_J7_fill_d0a16_6 n (zlp4 (fb_J7_fill_d0a16_6 n) f) 421 0 (nI i) (nI 20) (g, mi, ml) = _
    unfold fb_J7_fill_d0a16_6
    rw [iLe1 (by omega) (by omega) (by omega)]
  | r + 1, i, f + 1, ml, h1, h2, h3 => by
    obtain ⟨ml', p1, p2⟩ := fe_fX hs r (i + 1) f (zu ml 421 i 0) (by omega) (by omega) (fun j hj => by
      by_cases q : j = i
      · rw [q, zul_s]
      · rw [zul_k q]; exact h3 j (by omega))
    refine ⟨ml', ?_, p2⟩
    rw [← p1]
    show fb_J7_fill_d0a16_6 n (zlp4 (fb_J7_fill_d0a16_6 n) f) 421 0 (nI i) (nI 20) (g, mi, ml) = _
    generalize zlp4 (fb_J7_fill_d0a16_6 n) f = K
    unfold fb_J7_fill_d0a16_6
    simp only [li]
    rw [iLe0 (by omega) (by omega) (by omega), S_eL421 hs (by omega), nI_add]
theorem fe_fY (hs : Sy g) {k N : Int32} : ∀ (r i f : Nat) (ml : Nat → Nat → Int64), i + r = 21 → r < f → (∀ j, j < i → ml 437 j = S0F j) → ∃ ml', zlp4 (fb_X12_few_26 n) f 422 k N (nI i) (g, mi, ml) = fb_X12_few_55 n 422 k N (g, mi, ml') ∧ ∀ j, j < 21 → ml' 437 j = S0F j
  | r, i, 0, ml, _, h, _ => absurd h (by omega)
  | 0, i, f + 1, ml, h1, _, h3 => by
    refine ⟨ml, ?_, fun j hj => h3 j (by omega)⟩
    show fb_X12_few_26 n (zlp4 (fb_X12_few_26 n) f) 422 k N (nI i) (g, mi, ml) = _
    generalize zlp4 (fb_X12_few_26 n) f = K
    unfold fb_X12_few_26
    simp only [li]
    rw [iLt1 (by omega) (by omega) (by omega)]
  | r + 1, i, f + 1, ml, h1, h2, h3 => by
    obtain ⟨ml', p1, p2⟩ := fe_fY (k := k) (N := N) hs r (i + 1) f (zu ml 437 i (S0F i)) (by omega) (by omega) (fun j hj => by
      by_cases q : j = i
      · rw [q, zul_s]
      · rw [zul_k q]; exact h3 j (by omega))
    refine ⟨ml', ?_, p2⟩
    rw [← p1]
    show fb_X12_few_26 n (zlp4 (fb_X12_few_26 n) f) 422 k N (nI i) (g, mi, ml) = _
    generalize zlp4 (fb_X12_few_26 n) f = K
    unfold fb_X12_few_26 fb_X12_few_48 S0F
    simp only [li]
    rw [iLt0 (by omega) (by omega) (by omega), S_gR422_32 hs, S_eL437 hs (by omega), S_eL437 hs (by omega), nI_add]
    by_cases q : i = 0
    · rw [iEq1 q, if_pos q]
    · rw [iEq0 (by omega) (by omega) q, if_neg q]
theorem cl_few (hn : 3000 < n) (a b : Int32) : CALL (f_X11_few n 1 a b) (f_X12_few n 422 a b) := by
  intro c g mi ml hc hI
  have hs := hI.1.1
  obtain ⟨cnt, -, -, ⟨r5, u, hu, r6⟩, -⟩ := hI.2.2.1
  have bad : f_X11_few n 1 a b (g, mi, ml) = some (-1, (g, mi, ml)) → f_X12_few n 422 a b (g, mi, ml) = some (-1, (g, mi, ml)) → ∃ r g' mi' ml' mi'' ml'', f_X11_few n 1 a b (g, mi, ml) = some (r, (g', mi', ml')) ∧ f_X12_few n 422 a b (g', mi', ml') = some (r, (g', mi'', ml'')) ∧ IV (c + 1) g' mi'' := fun h1 h2 => ⟨-1, g, mi, ml, mi, ml, h1, h2, IV_VE hI (VE_r mi)⟩
  have uX : f_X11_few n 1 a b (g, mi, ml) = if a < nI 1 then some (-1, (g, mi, ml)) else if nI 20 < a then some (-1, (g, mi, ml)) else if b < nI 0 then some (-1, (g, mi, ml)) else if b ≤ nI 99 then (zb (f_J7_fill_d0a16 n 421 0 (g, mi, ml)) fun _ h3 => zgR h3 12 1 13 fun v4 => zeL h3 v4 (nI 0) 1000000000000 fun h5 => zgR h5 12 1 3 fun v6 => zgI h5 7 v6 4 fun v7 => zlt (Int32.toInt64 v7) fun x8 => zlp5 (fb_X11_few_54 n) n 1 a b x8 (nI 0) h5) else some (-1, (g, mi, ml)) := by
    unfold f_X11_few
    simp only [li]
    rw [S_gR1_13 hs]
  have uY : ∀ mi ml, f_X12_few n 422 a b (g, mi, ml) = if a < nI 1 then some (-1, (g, mi, ml)) else if nI 20 < a then some (-1, (g, mi, ml)) else zb (f_X12_lies n b (nI 0) (nI 99) (g, mi, ml)) fun r3 h4 => if r3 = nI 0 then some (-1, h4) else zlp4 (fb_X12_few_26 n) n 422 a b (nI 0) h4 := by
    intro mi ml
    have el : f_X12_lies n a (nI 1) (nI 20) (g, mi, ml) = if a < nI 1 then some (nI 0, (g, mi, ml)) else if nI 20 < a then some (nI 0, (g, mi, ml)) else some (nI 1, (g, mi, ml)) := rfl
    unfold f_X12_few
    simp only [li]
    rw [el]
    by_cases q1 : a < nI 1
    · rw [iP q1, zb_s, iP rfl, iP q1]
    · rw [iN q1]
      by_cases q2 : nI 20 < a
      · rw [iP q2, zb_s, iP rfl, iN q1, iP q2]
      · rw [iN q2, zb_s, iN n01.symm, iN q1, iN q2]
  by_cases q1 : a < nI 1
  · exact bad (by rw [uX, iP q1]) (by rw [uY, iP q1])
  by_cases q2 : nI 20 < a
  · exact bad (by rw [uX, iN q1, iP q2]) (by rw [uY, iN q1, iP q2])
  rcases pk_ix b (n := 100) (by decide) with hb | hb | ⟨N, hN, hb⟩
  · exact bad (by rw [uX, iN q1, iN q2, iP (show b < nI 0 from hb)]) (by rw [uY, iN q1, iN q2, r_lies0 hb, zb_s, iP rfl])
  · have t := ge_lt (N := 99) (by decide) hb
    refine bad ?_ (by rw [uY, iN q1, iN q2, r_lies1 (N := 99) (by decide) hb, zb_s, iP rfl])
    rw [uX, iN q1, iN q2, iN t.2.1, iN (fun q => by rw [Int32.le_iff_toInt_le] at q; have := t.1; rw [Int32.lt_iff_toInt_lt] at this; omega)]
  subst hb
  obtain ⟨k, hk, rfl⟩ : ∃ q : Nat, q < 2147483648 ∧ a = nI q := nI_of (fun z => q1 (lt_neg (by decide) z))
  have q1' := q1
  have q2' := q2
  rw [nLt (by omega) (by omega)] at q1 q2
  obtain ⟨ml1, a1, a2⟩ := fe_fX (mi := mi) (n := n) hs 20 0 n ml rfl (by omega) (fun j hj => absurd hj (by omega))
  obtain ⟨ml2, a3⟩ := fe_oX (mi := mi) (n := n) hs hn (k := k) (N := N) (by omega) (by omega) (by omega) (L := (nI u).toInt64) N 0 n (zu ml1 421 0 1000000000000) S0F (by omega) (by omega) (fun i hi => by
    unfold S0F
    by_cases q : i = 0
    · rw [q, zul_s, if_pos rfl]
    · rw [zul_k q, a2 i (by omega), if_neg q])
  obtain ⟨ml3, a4, a5⟩ := fe_fY (mi := mi) (n := n) (k := nI k) (N := nI N) hs 21 0 n ml2 rfl (by omega) (fun j hj => absurd hj (by omega))
  obtain ⟨ml4, a6⟩ := fe_oY (mi := mi) (n := n) hs hn (k := k) (N := N) (by omega) (by omega) (by omega) hu r6 N 0 n ml3 S0F (by omega) (by omega) (fun i hi => a5 i (by omega))
  refine ⟨suF (itF (10 - (nI u).toInt64) (nI u).toInt64 N S0F) k 0 0, g, mi, ml2, mi, ml4, ?_, ?_, IV_VE hI (VE_r mi)⟩
  · rw [uX, iN q1', iN q2', iN (show ¬ nI N < nI 0 by rw [nLt (by omega) (by omega)]; omega), iLe1 (by omega) (by omega) (by omega)]
    unfold f_J7_fill_d0a16
    simp only [li]
    rw [q_ln (Sy_f hs (0, 421, 0, 22) rfl) (Sy_f hs (1, 421, 0, 20) rfl), a1, zb_s, S_gR1_13 hs, S_eL421 hs (by omega), S_gR1_3 hs, S_gI25 hs, q_let, r5, r6, a3]
  · rw [uY, iN q1', iN q2', r_lies2 (by decide) (by omega), zb_s, iN n01.symm, a4]
    exact a6
end
